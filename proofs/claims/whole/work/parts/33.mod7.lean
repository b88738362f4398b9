/-! what the reference answers of the chains of one VERDICT -/
theorem m_chains {w : ax_W} {n : Nat} {T : List Nat} {C : Crt} {h : Hrg} {L K : List Hrg} (hm : isM w T C h L K) (ok : okX T C h L K) (x : Int32) : Run m_X7_chains 4 0 0 0 (l_ent m_X7_chains [.ref 51, .int x]) [] w n (PM (chS C h x) T C h L K w n) := by
  have hm0 := hm
  have okc := ok.2.1
  have hn := okc.1
  obtain ⟨a0, s0, r0, D0, q1, q2, q3, hK, -, hC, -⟩ := id hm
  rcases vtB_cases okc x with hb | ⟨v, hv, rfl, hb⟩
  · refine x_aload_n (pc := 0) dX7_chains_0 rfl ?_
    refine x_iload_n (pc := 1) dX7_chains_1 rfl ?_
    refine x_cv1p (ci := 7) (pc := 2) dX7_chains_2 ks_X7_167 (by assumption) (by rfl) (by omega) (by rfl) (by rfl) (by rfl) (c_m_isVerdict okc hK hC _) ?_
    refine x_if_ne (pc := 5) dX7_chains_5 (tgt := 10) (by decide) (fun h_5 => ?_) (fun h_5 => ?_)
    · skip
      try first | rw [n_b0] at h_5 | rw [n_eq0 (by omega)] at h_5
      exact absurd hb h_5
    · replace h_5 := Classical.not_not.mp h_5
      try first | rw [n_b0] at h_5 | rw [n_eq0 (by omega)] at h_5
      refine x_iconst (pc := 8) dX7_chains_8 (v := -1) (by decide) ?_
      refine x_iret (pc := 9) dX7_chains_9 rfl rfl ?_
      exact va_i ⟨by rw [chS, if_neg (by rw [hb]; decide)], hm0, fun _ _ => rfl⟩
  · have hcl : (nI v).toNatClampNeg = v := n_cl (by omega)
    have hp := pow_10 (show v < 10 by omega)
    refine x_aload_n (pc := 0) dX7_chains_0 rfl ?_
    refine x_iload_n (pc := 1) dX7_chains_1 rfl ?_
    refine x_cv1p (ci := 7) (pc := 2) dX7_chains_2 ks_X7_167 (by assumption) (by rfl) (by omega) (by rfl) (by rfl) (by rfl) (c_m_isVerdict okc hK hC _) ?_
    refine x_if_ne (pc := 5) dX7_chains_5 (tgt := 10) (by decide) (fun h_5 => ?_) (fun h_5 => ?_)
    · skip
      try first | rw [n_b0] at h_5 | rw [n_eq0 (by omega)] at h_5
      refine x_aload_n (pc := 10) dX7_chains_10 rfl ?_
      refine x_iload_n (pc := 11) dX7_chains_11 rfl ?_
      refine x_cv1 (q1 := 0) (q2 := 0) (ci := 7) (pc := 12) dX7_chains_12 ks_X7_170 (by assumption) (by rfl) (by omega) (by rfl) (by rfl) (by rfl) (m_hasWhole hm ok hv) (va_kk fun v w hP => ?_)
      obtain ⟨rfl, hm', ⟨F, hS⟩, hq⟩ := hP
      obtain ⟨ty', at', so', un', ke', rl', f', -, hK', hC', h61', hs', -⟩ := hm'.op
      obtain ⟨t0, t1, t2, t3, t4, t5, t6, t7, t8⟩ := hS.row okc hv
      obtain ⟨h62, h63, h64, h65, h66, h67, h68, h69, h70⟩ := id hS.1
      obtain ⟨fm, fk, fc, fds, fh, fv, fp, fd, h53, h54, h55, h56, h57, h58, h59, h60, e1, e2, e3, e4, e5⟩ := id hC'
      refine x_if_eq (pc := 15) dX7_chains_15 (tgt := 30) (by decide) (fun h_15 => ?_) (fun h_15 => ?_)
      · skip
        try first | rw [n_b0] at h_15 | rw [n_eq0 (by omega)] at h_15
        have e : chS C h (nI v) = nI 0 := by rw [chS, if_pos hb, hcl]; rw [z_fo, h_15]; rfl
        refine x_iconst (pc := 30) dX7_chains_30 (v := nI 0) (by decide) ?_
        refine x_iret (pc := 31) dX7_chains_31 rfl rfl ?_
        exact va_i ⟨by rw [e], hm', hq⟩
      · skip
        try first | rw [n_b0] at h_15 | rw [n_eq0 (by omega)] at h_15
        simp only [Bool.not_eq_false] at h_15
        have e : chS C h (nI v) = nI (P9 C none h.2 v).length := by rw [chS, if_pos hb, hcl]; rw [z_fo, h_15]; rfl
        refine x_aload_n (pc := 18) dX7_chains_18 rfl ?_
        refine x_getf (pc := 19) dX7_chains_19 kf_X7_41 (by assumption) (by rfl) ?_
        refine x_iload_n (pc := 22) dX7_chains_22 rfl ?_
        refine x_cs1p (pc := 23) dX7_chains_23 ks_X7_164 (by omega) (by rfl) (by rfl) (by rfl) (m_rowOf (by omega)) ?_
        refine xn_iald (pc := 26) dX7_chains_26 (by assumption) (by first | omega | assumption) (by rfl) ?_
        rw [t0]
        refine x_goto (pc := 27) dX7_chains_27 (tgt := 31) (by decide) ?_
        refine x_iret (pc := 31) dX7_chains_31 rfl rfl ?_
        exact va_i ⟨by rw [e], hm', hq⟩
    · replace h_5 := Classical.not_not.mp h_5
      try first | rw [n_b0] at h_5 | rw [n_eq0 (by omega)] at h_5
      rw [hb] at h_5; cases h_5
theorem m_nights {w : ax_W} {n : Nat} {T : List Nat} {C : Crt} {h : Hrg} {L K : List Hrg} (hm : isM w T C h L K) (ok : okX T C h L K) (x : Int32) : Run m_X7_nights 4 0 0 0 (l_ent m_X7_nights [.ref 51, .int x]) [] w n (PM (niS C h x) T C h L K w n) := by
  have hm0 := hm
  have okc := ok.2.1
  have hn := okc.1
  obtain ⟨a0, s0, r0, D0, q1, q2, q3, hK, -, hC, -⟩ := id hm
  rcases vtB_cases okc x with hb | ⟨v, hv, rfl, hb⟩
  · refine x_aload_n (pc := 0) dX7_nights_0 rfl ?_
    refine x_iload_n (pc := 1) dX7_nights_1 rfl ?_
    refine x_cv1p (ci := 7) (pc := 2) dX7_nights_2 ks_X7_167 (by assumption) (by rfl) (by omega) (by rfl) (by rfl) (by rfl) (c_m_isVerdict okc hK hC _) ?_
    refine x_if_ne (pc := 5) dX7_nights_5 (tgt := 10) (by decide) (fun h_5 => ?_) (fun h_5 => ?_)
    · skip
      try first | rw [n_b0] at h_5 | rw [n_eq0 (by omega)] at h_5
      exact absurd hb h_5
    · replace h_5 := Classical.not_not.mp h_5
      try first | rw [n_b0] at h_5 | rw [n_eq0 (by omega)] at h_5
      refine x_iconst (pc := 8) dX7_nights_8 (v := -1) (by decide) ?_
      refine x_iret (pc := 9) dX7_nights_9 rfl rfl ?_
      exact va_i ⟨by rw [niS, if_neg (by rw [hb]; decide)], hm0, fun _ _ => rfl⟩
  · have hcl : (nI v).toNatClampNeg = v := n_cl (by omega)
    have hp := pow_10 (show v < 10 by omega)
    refine x_aload_n (pc := 0) dX7_nights_0 rfl ?_
    refine x_iload_n (pc := 1) dX7_nights_1 rfl ?_
    refine x_cv1p (ci := 7) (pc := 2) dX7_nights_2 ks_X7_167 (by assumption) (by rfl) (by omega) (by rfl) (by rfl) (by rfl) (c_m_isVerdict okc hK hC _) ?_
    refine x_if_ne (pc := 5) dX7_nights_5 (tgt := 10) (by decide) (fun h_5 => ?_) (fun h_5 => ?_)
    · skip
      try first | rw [n_b0] at h_5 | rw [n_eq0 (by omega)] at h_5
      refine x_aload_n (pc := 10) dX7_nights_10 rfl ?_
      refine x_iload_n (pc := 11) dX7_nights_11 rfl ?_
      refine x_cv1 (q1 := 0) (q2 := 0) (ci := 7) (pc := 12) dX7_nights_12 ks_X7_170 (by assumption) (by rfl) (by omega) (by rfl) (by rfl) (by rfl) (m_hasWhole hm ok hv) (va_kk fun v w hP => ?_)
      obtain ⟨rfl, hm', ⟨F, hS⟩, hq⟩ := hP
      obtain ⟨ty', at', so', un', ke', rl', f', -, hK', hC', h61', hs', -⟩ := hm'.op
      obtain ⟨t0, t1, t2, t3, t4, t5, t6, t7, t8⟩ := hS.row okc hv
      obtain ⟨h62, h63, h64, h65, h66, h67, h68, h69, h70⟩ := id hS.1
      obtain ⟨fm, fk, fc, fds, fh, fv, fp, fd, h53, h54, h55, h56, h57, h58, h59, h60, e1, e2, e3, e4, e5⟩ := id hC'
      refine x_if_eq (pc := 15) dX7_nights_15 (tgt := 30) (by decide) (fun h_15 => ?_) (fun h_15 => ?_)
      · skip
        try first | rw [n_b0] at h_15 | rw [n_eq0 (by omega)] at h_15
        have e : niS C h (nI v) = nI 0 := by rw [niS, if_pos hb, hcl]; rw [z_en, h_15]; rfl
        refine x_iconst (pc := 30) dX7_nights_30 (v := nI 0) (by decide) ?_
        refine x_iret (pc := 31) dX7_nights_31 rfl rfl ?_
        exact va_i ⟨by rw [e], hm', hq⟩
      · skip
        try first | rw [n_b0] at h_15 | rw [n_eq0 (by omega)] at h_15
        simp only [Bool.not_eq_false] at h_15
        have e : niS C h (nI v) = nI (endM v (P9 C none h.2 v)) := by rw [niS, if_pos hb, hcl]; rw [z_en, h_15]; rfl
        refine x_aload_n (pc := 18) dX7_nights_18 rfl ?_
        refine x_getf (pc := 19) dX7_nights_19 kf_X7_62 (by assumption) (by rfl) ?_
        refine x_iload_n (pc := 22) dX7_nights_22 rfl ?_
        refine x_cs1p (pc := 23) dX7_nights_23 ks_X7_164 (by omega) (by rfl) (by rfl) (by rfl) (m_rowOf (by omega)) ?_
        refine xn_iald (pc := 26) dX7_nights_26 (by assumption) (by first | omega | assumption) (by rfl) ?_
        rw [t7]
        refine x_goto (pc := 27) dX7_nights_27 (tgt := 31) (by decide) ?_
        refine x_iret (pc := 31) dX7_nights_31 rfl rfl ?_
        exact va_i ⟨by rw [e], hm', hq⟩
    · replace h_5 := Classical.not_not.mp h_5
      try first | rw [n_b0] at h_5 | rw [n_eq0 (by omega)] at h_5
      rw [hb] at h_5; cases h_5
theorem m_needed {w : ax_W} {n : Nat} {T : List Nat} {C : Crt} {h : Hrg} {L K : List Hrg} (hm : isM w T C h L K) (ok : okX T C h L K) (x : Int32) : Run m_X7_needed 4 0 0 0 (l_ent m_X7_needed [.ref 51, .int x]) [] w n (PM (neS C h x) T C h L K w n) := by
  have hm0 := hm
  have okc := ok.2.1
  have hn := okc.1
  obtain ⟨a0, s0, r0, D0, q1, q2, q3, hK, -, hC, -⟩ := id hm
  rcases vtB_cases okc x with hb | ⟨v, hv, rfl, hb⟩
  · refine x_aload_n (pc := 0) dX7_needed_0 rfl ?_
    refine x_iload_n (pc := 1) dX7_needed_1 rfl ?_
    refine x_cv1p (ci := 7) (pc := 2) dX7_needed_2 ks_X7_167 (by assumption) (by rfl) (by omega) (by rfl) (by rfl) (by rfl) (c_m_isVerdict okc hK hC _) ?_
    refine x_if_ne (pc := 5) dX7_needed_5 (tgt := 10) (by decide) (fun h_5 => ?_) (fun h_5 => ?_)
    · skip
      try first | rw [n_b0] at h_5 | rw [n_eq0 (by omega)] at h_5
      exact absurd hb h_5
    · replace h_5 := Classical.not_not.mp h_5
      try first | rw [n_b0] at h_5 | rw [n_eq0 (by omega)] at h_5
      refine x_iconst (pc := 8) dX7_needed_8 (v := -1) (by decide) ?_
      refine x_iret (pc := 9) dX7_needed_9 rfl rfl ?_
      exact va_i ⟨by rw [neS, if_neg (by rw [hb]; decide)], hm0, fun _ _ => rfl⟩
  · have hcl : (nI v).toNatClampNeg = v := n_cl (by omega)
    have hp := pow_10 (show v < 10 by omega)
    refine x_aload_n (pc := 0) dX7_needed_0 rfl ?_
    refine x_iload_n (pc := 1) dX7_needed_1 rfl ?_
    refine x_cv1p (ci := 7) (pc := 2) dX7_needed_2 ks_X7_167 (by assumption) (by rfl) (by omega) (by rfl) (by rfl) (by rfl) (c_m_isVerdict okc hK hC _) ?_
    refine x_if_ne (pc := 5) dX7_needed_5 (tgt := 10) (by decide) (fun h_5 => ?_) (fun h_5 => ?_)
    · skip
      try first | rw [n_b0] at h_5 | rw [n_eq0 (by omega)] at h_5
      refine x_aload_n (pc := 10) dX7_needed_10 rfl ?_
      refine x_iload_n (pc := 11) dX7_needed_11 rfl ?_
      refine x_cv1 (q1 := 0) (q2 := 0) (ci := 7) (pc := 12) dX7_needed_12 ks_X7_170 (by assumption) (by rfl) (by omega) (by rfl) (by rfl) (by rfl) (m_hasWhole hm ok hv) (va_kk fun v w hP => ?_)
      obtain ⟨rfl, hm', ⟨F, hS⟩, hq⟩ := hP
      obtain ⟨ty', at', so', un', ke', rl', f', -, hK', hC', h61', hs', -⟩ := hm'.op
      obtain ⟨t0, t1, t2, t3, t4, t5, t6, t7, t8⟩ := hS.row okc hv
      obtain ⟨h62, h63, h64, h65, h66, h67, h68, h69, h70⟩ := id hS.1
      obtain ⟨fm, fk, fc, fds, fh, fv, fp, fd, h53, h54, h55, h56, h57, h58, h59, h60, e1, e2, e3, e4, e5⟩ := id hC'
      refine x_if_eq (pc := 15) dX7_needed_15 (tgt := 34) (by decide) (fun h_15 => ?_) (fun h_15 => ?_)
      · skip
        try first | rw [n_b0] at h_15 | rw [n_eq0 (by omega)] at h_15
        have e : neS C h (nI v) = nI 0 := by rw [neS, if_pos hb, hcl]; rw [z_cm okc hv, h_15]; rfl
        refine x_iconst (pc := 34) dX7_needed_34 (v := nI 0) (by decide) ?_
        refine x_iret (pc := 35) dX7_needed_35 rfl rfl ?_
        exact va_i ⟨by rw [e], hm', hq⟩
      · skip
        try first | rw [n_b0] at h_15 | rw [n_eq0 (by omega)] at h_15
        simp only [Bool.not_eq_false] at h_15
        have e : neS C h (nI v) = nI (allM (P9 C none h.2 v) ||| 2 ^ v) := by rw [neS, if_pos hb, hcl]; rw [z_cm okc hv, h_15]; rfl
        refine x_aload_n (pc := 18) dX7_needed_18 rfl ?_
        refine x_getf (pc := 19) dX7_needed_19 kf_X7_56 (by assumption) (by rfl) ?_
        refine x_iload_n (pc := 22) dX7_needed_22 rfl ?_
        refine x_cs1p (pc := 23) dX7_needed_23 ks_X7_164 (by omega) (by rfl) (by rfl) (by rfl) (m_rowOf (by omega)) ?_
        refine xn_iald (pc := 26) dX7_needed_26 (by assumption) (by first | omega | assumption) (by rfl) ?_
        rw [t5]
        refine x_iconst (pc := 27) dX7_needed_27 (v := nI 1) (by decide) ?_
        refine x_iload_n (pc := 28) dX7_needed_28 rfl ?_
        first | refine xn_shl1 (pc := 29) dX7_needed_29 (by omega) ?_ | refine xn_ishl (pc := 29) dX7_needed_29 (by omega) (by omega) ?_ | refine x_ishl (pc := 29) dX7_needed_29 ?_
        first | refine xn_ior (pc := 30) dX7_needed_30 ?_ | refine x_ior (pc := 30) dX7_needed_30 ?_
        refine x_goto (pc := 31) dX7_needed_31 (tgt := 35) (by decide) ?_
        refine x_iret (pc := 35) dX7_needed_35 rfl rfl ?_
        exact va_i ⟨by rw [e], hm', hq⟩
    · replace h_5 := Classical.not_not.mp h_5
      try first | rw [n_b0] at h_5 | rw [n_eq0 (by omega)] at h_5
      rw [hb] at h_5; cases h_5
theorem m_days {w : ax_W} {n : Nat} {T : List Nat} {C : Crt} {h : Hrg} {L K : List Hrg} (hm : isM w T C h L K) (ok : okX T C h L K) (x : Int32) : Run m_X7_days 4 0 0 0 (l_ent m_X7_days [.ref 51, .int x]) [] w n (PM (daS C h x) T C h L K w n) := by
  have hm0 := hm
  have okc := ok.2.1
  have hn := okc.1
  obtain ⟨a0, s0, r0, D0, q1, q2, q3, hK, -, hC, -⟩ := id hm
  rcases vtB_cases okc x with hb | ⟨v, hv, rfl, hb⟩
  · refine x_aload_n (pc := 0) dX7_days_0 rfl ?_
    refine x_iload_n (pc := 1) dX7_days_1 rfl ?_
    refine x_cv1p (ci := 7) (pc := 2) dX7_days_2 ks_X7_167 (by assumption) (by rfl) (by omega) (by rfl) (by rfl) (by rfl) (c_m_isVerdict okc hK hC _) ?_
    refine x_if_ne (pc := 5) dX7_days_5 (tgt := 10) (by decide) (fun h_5 => ?_) (fun h_5 => ?_)
    · skip
      try first | rw [n_b0] at h_5 | rw [n_eq0 (by omega)] at h_5
      exact absurd hb h_5
    · replace h_5 := Classical.not_not.mp h_5
      try first | rw [n_b0] at h_5 | rw [n_eq0 (by omega)] at h_5
      refine x_iconst (pc := 8) dX7_days_8 (v := -1) (by decide) ?_
      refine x_iret (pc := 9) dX7_days_9 rfl rfl ?_
      exact va_i ⟨by rw [daS, if_neg (by rw [hb]; decide)], hm0, fun _ _ => rfl⟩
  · have hcl : (nI v).toNatClampNeg = v := n_cl (by omega)
    have hp := pow_10 (show v < 10 by omega)
    refine x_aload_n (pc := 0) dX7_days_0 rfl ?_
    refine x_iload_n (pc := 1) dX7_days_1 rfl ?_
    refine x_cv1p (ci := 7) (pc := 2) dX7_days_2 ks_X7_167 (by assumption) (by rfl) (by omega) (by rfl) (by rfl) (by rfl) (c_m_isVerdict okc hK hC _) ?_
    refine x_if_ne (pc := 5) dX7_days_5 (tgt := 10) (by decide) (fun h_5 => ?_) (fun h_5 => ?_)
    · skip
      try first | rw [n_b0] at h_5 | rw [n_eq0 (by omega)] at h_5
      refine x_aload_n (pc := 10) dX7_days_10 rfl ?_
      refine x_iload_n (pc := 11) dX7_days_11 rfl ?_
      refine x_cv1 (q1 := 0) (q2 := 0) (ci := 7) (pc := 12) dX7_days_12 ks_X7_170 (by assumption) (by rfl) (by omega) (by rfl) (by rfl) (by rfl) (m_hasWhole hm ok hv) (va_kk fun v w hP => ?_)
      obtain ⟨rfl, hm', ⟨F, hS⟩, hq⟩ := hP
      obtain ⟨ty', at', so', un', ke', rl', f', -, hK', hC', h61', hs', -⟩ := hm'.op
      obtain ⟨t0, t1, t2, t3, t4, t5, t6, t7, t8⟩ := hS.row okc hv
      obtain ⟨h62, h63, h64, h65, h66, h67, h68, h69, h70⟩ := id hS.1
      obtain ⟨fm, fk, fc, fds, fh, fv, fp, fd, h53, h54, h55, h56, h57, h58, h59, h60, e1, e2, e3, e4, e5⟩ := id hC'
      refine x_if_eq (pc := 15) dX7_days_15 (tgt := 37) (by decide) (fun h_15 => ?_) (fun h_15 => ?_)
      · skip
        try first | rw [n_b0] at h_15 | rw [n_eq0 (by omega)] at h_15
        have e : daS C h (nI v) = -4 := by rw [daS, if_pos hb, hcl]; rw [if_pos (by rw [z_fo, h_15]; rfl)]
        refine x_bipush (pc := 37) dX7_days_37 (v := -4) (by decide) ?_
        refine x_iret (pc := 39) dX7_days_39 rfl rfl ?_
        exact va_i ⟨by rw [e], hm', hq⟩
      · skip
        try first | rw [n_b0] at h_15 | rw [n_eq0 (by omega)] at h_15
        simp only [Bool.not_eq_false] at h_15
        have e : daS C h (nI v) = nI (sp C v + dayM C (P9 C none h.2 v)) := by rw [daS, if_pos hb, hcl]; rw [if_neg (by rw [z_fo, h_15]; exact Nat.ne_of_gt (List.length_pos_iff.mpr (hw_yes h_15).2)), z_fe okc hv h_15]
        refine x_aload_n (pc := 18) dX7_days_18 rfl ?_
        refine x_getf (pc := 19) dX7_days_19 kf_X7_23 (by assumption) (by rfl) ?_
        refine x_iload_n (pc := 22) dX7_days_22 rfl ?_
        refine xn_iald (pc := 23) dX7_days_23 (by assumption) (by first | omega | assumption) (by rfl) ?_
        rw [(e4 _ hv).2.2.1]
        refine x_aload_n (pc := 24) dX7_days_24 rfl ?_
        refine x_getf (pc := 25) dX7_days_25 kf_X7_53 (by assumption) (by rfl) ?_
        refine x_iload_n (pc := 28) dX7_days_28 rfl ?_
        refine x_cs1p (pc := 29) dX7_days_29 ks_X7_164 (by omega) (by rfl) (by rfl) (by rfl) (m_rowOf (by omega)) ?_
        refine xn_iald (pc := 32) dX7_days_32 (by assumption) (by first | omega | assumption) (by rfl) ?_
        rw [t4]
        first | refine xn_iadd (pc := 33) dX7_days_33 ?_ | refine x_iadd (pc := 33) dX7_days_33 ?_
        refine x_goto (pc := 34) dX7_days_34 (tgt := 39) (by decide) ?_
        refine x_iret (pc := 39) dX7_days_39 rfl rfl ?_
        exact va_i ⟨by rw [e], hm', hq⟩
    · replace h_5 := Classical.not_not.mp h_5
      try first | rw [n_b0] at h_5 | rw [n_eq0 (by omega)] at h_5
      rw [hb] at h_5; cases h_5
theorem bst_pre {C : Crt} {last L op : Nat} {f : Nat → List (List Nat)} : ∀ j q, bstM C last L (preF f op j) = some q → ∃ b p c, b < j ∧ op.testBit b = true ∧ q.2 = b :: p ∧ bstM C b (L + 1) (f b) = some (c, p)
  | 0, q, h => by cases h
  | j + 1, q, h => by
    rw [preF_s, bstM_app] at h
    by_cases hb : op.testBit j = true
    · rw [if_pos hb, bstM_map] at h
      cases hf : bstM C j (L + 1) (f j) with
      | none =>
        rw [hf] at h
        obtain ⟨b, p, c, h1, h2⟩ := bst_pre j q h
        exact ⟨b, p, c, by omega, h2⟩
      | some q2 =>
        rw [hf] at h
        cases hx : bstM C last L (preF f op j) with
        | none =>
          rw [hx, none_btC] at h
          cases h
          exact ⟨j, q2.2, q2.1, by omega, hb, rfl, hf⟩
        | some q3 =>
          rw [hx] at h
          simp only [btC, Option.map_some] at h
          split at h
          · cases h
            exact ⟨j, q2.2, q2.1, by omega, hb, rfl, hf⟩
          · cases h
            obtain ⟨b, p, c, h1, h2⟩ := bst_pre j _ hx
            exact ⟨b, p, c, by omega, h2⟩
    · rw [if_neg hb] at h
      obtain ⟨b, p, c, h1, h2⟩ := bst_pre j q h
      exact ⟨b, p, c, by omega, h2⟩
theorem getD_ge {r : List Nat} {i : Nat} (h : r.length ≤ i) : r.getD i 0 = 0 := by
  rw [List.getD_eq_getElem?_getD, List.getElem?_eq_none h]; rfl
theorem m_followFrom {w0 : ax_W} {n : Nat} {C : Crt} (okc : okC C) {ty at_ so un ke rl : Int32} (hK0 : w0 51 = om ty at_ so un ke rl) (hC0 : mR w0 C) {sk : Nat} {F : Nat → Nat → Int32} (hS0 : mS w0 C none sk F) {f71 : Nat → Int32} (h710 : w0 71 = ai 10 f71) {v : Nat} (hv : v < cn C) {b : Nat × List Nat} (hb : bstM C v 1 (P9 C none sk v) = some b) : Run m_X7_followFrom 0 0 0 0 (l_ent m_X7_followFrom [.ref 51, .int (nI v)]) [] w0 n (Vo (fun w' => w' 51 = om ty at_ so un ke (nI (b.2.length + 1)) ∧ (∃ g : Nat → Int32, w' 71 = ai 10 g ∧ ∀ i, i < b.2.length + 1 → g i = nI ((v :: b.2).getD i 0)) ∧ ∀ j, (j < 51 ∨ (51 < j ∧ j < 71) ∨ 71 < j) → w' j = w0 j) n) := by
  have hn := okc.1
  have hbm := P9_mem okc hv b.2 (bstM_mem hb).1
  have hb9 : b.2.length ≤ 9 := (pthO_mem okc 9 _ v hv b.2 (bstM_mem hb).1).2
  have loop : ∀ (p : List Nat) (ch last L c : Nat) (g : Nat → Int32) (w : ax_W), ch < 2 ^ cn C → last < cn C → ch.testBit last = true → cnt ch 10 = L → L + p.length = b.2.length + 1 → bstM C last L (pthO C (onB none) sk (10 - L) ch last) = some (c, p) → w 51 = om ty at_ so un ke (nI L) → w 71 = ai 10 g → (∀ i, i < L → g i = nI ((v :: b.2).getD i 0)) → (∀ i, i < p.length → (v :: b.2).getD (L + i) 0 = p.getD i 0) → (∀ j, (j < 51 ∨ (51 < j ∧ j < 71) ∨ 71 < j) → w j = w0 j) → Run m_X7_followFrom 0 0 0 18 [some (.ref 51), some (.int (nI v)), some (.int (nI ch)), some (.int (nI last))] [] w n (Vo (fun w' => w' 51 = om ty at_ so un ke (nI (b.2.length + 1)) ∧ (∃ g : Nat → Int32, w' 71 = ai 10 g ∧ ∀ i, i < b.2.length + 1 → g i = nI ((v :: b.2).getD i 0)) ∧ ∀ j, (j < 51 ∨ (51 < j ∧ j < 71) ∨ 71 < j) → w' j = w0 j) n) := by
    intro p
    induction p with
    | nil =>
      intro ch last L c g w h1 h2 h3 h4 h5 h6 hK h71 hg hr hfr
      have hkd : kd C last = 4 := by
        refine Classical.byContradiction fun hk => ?_
        have hgv := goOn_val okc (o := none) (sk := sk) (ch := ch) h2 hk h4 rfl
        rw [← hgv.1] at h6
        obtain ⟨b', p', c', -, -, h7, -⟩ := bst_pre _ _ h6
        cases h7
      have hC := hC0.go fun i _ _ => hfr i (by omega)
      obtain ⟨fm, fk, fc, fds, fh, fv, fp, fd, h53, h54, h55, h56, h57, h58, h59, h60, e1, e2, e3, e4, e5⟩ := id hC
      simp only [List.length_nil, Nat.add_zero] at h5
      refine x_aload_n (pc := 18) dX7_followFrom_18 rfl ?_
      refine x_getf (pc := 19) dX7_followFrom_19 kf_X7_17 (by assumption) (by rfl) ?_
      refine x_iload_n (pc := 22) dX7_followFrom_22 rfl ?_
      refine xn_iald (pc := 23) dX7_followFrom_23 (by assumption) (by first | omega | assumption) (by rfl) ?_
      rw [(e4 _ h2).1, hkd]
      refine x_iconst (pc := 24) dX7_followFrom_24 (v := nI 4) (by decide) ?_
      refine x_icmp_eq_t (pc := 25) dX7_followFrom_25 (tgt := 69) (by decide) rfl ?_
      refine x_vret (pc := 69) dX7_followFrom_69 rfl ?_
      exact vo_i ⟨by rw [← h5]; exact hK, ⟨g, h71, fun i hi => hg i (by omega)⟩, hfr⟩
    | cons x p ih =>
      intro ch last L c g w h1 h2 h3 h4 h5 h6 hK h71 hg hr hfr
      have hch : ch < 1024 := Nat.lt_of_lt_of_le h1 okc.lt
      have hkd4 := (okc.2.2.2.1 last h2).1
      have hkd : kd C last ≠ 4 := by
        intro hk
        rw [pthO_night hk] at h6
        have h7 := bstM_mem h6
        simp [onB] at h7
      have hgv := goOn_val okc (o := none) (sk := sk) (ch := ch) h2 hkd h4 rfl
      have h6' := h6
      rw [← hgv.1] at h6'
      obtain ⟨b', p', c', h7, h8, h9, h10⟩ := bst_pre _ _ h6'
      cases h9
      have hcb : ch.testBit x = false := by
        rw [opn_bit okc h2] at h8
        simp only [Bool.and_eq_true, Bool.not_eq_true'] at h8
        exact h8.1.2
      have hK3 := (hS0.2 ch last h1 h2 h3).2.2.2.1
      rw [h4, h6] at hK3
      have hK3' : F 3 (10 * ch + last) = nI x := hK3
      have hC := hC0.go fun i _ _ => hfr i (by omega)
      have h65 := (hfr 65 (by omega)).trans hS0.1.2.2.2.1
      have hlen : (x :: p).length = p.length + 1 := rfl
      have hx0 := hr 0 (by simp)
      obtain ⟨fm, fk, fc, fds, fh, fv, fp, fd, h53, h54, h55, h56, h57, h58, h59, h60, e1, e2, e3, e4, e5⟩ := id hC
      refine x_aload_n (pc := 18) dX7_followFrom_18 rfl ?_
      refine x_getf (pc := 19) dX7_followFrom_19 kf_X7_17 (by assumption) (by rfl) ?_
      refine x_iload_n (pc := 22) dX7_followFrom_22 rfl ?_
      refine xn_iald (pc := 23) dX7_followFrom_23 (by assumption) (by first | omega | assumption) (by rfl) ?_
      rw [(e4 _ h2).1]
      refine x_iconst (pc := 24) dX7_followFrom_24 (v := nI 4) (by decide) ?_
      refine x_icmp_eq_f (pc := 25) dX7_followFrom_25 (tgt := 69) (by decide) (by rw [n_eq (by omega) (by omega)]; exact hkd) ?_
      refine x_aload_n (pc := 28) dX7_followFrom_28 rfl ?_
      refine x_getf (pc := 29) dX7_followFrom_29 kf_X7_50 (by assumption) (by rfl) ?_
      refine x_bipush (pc := 32) dX7_followFrom_32 (v := nI 10) (by decide) ?_
      refine x_iload_n (pc := 34) dX7_followFrom_34 rfl ?_
      first | refine xn_imul (pc := 35) dX7_followFrom_35 ?_ | refine x_imul (pc := 35) dX7_followFrom_35 ?_
      refine x_iload_n (pc := 36) dX7_followFrom_36 rfl ?_
      first | refine xn_iadd (pc := 37) dX7_followFrom_37 ?_ | refine x_iadd (pc := 37) dX7_followFrom_37 ?_
      refine xn_iald (pc := 38) dX7_followFrom_38 (by assumption) (by first | omega | assumption) (by rfl) ?_
      rw [hK3']
      refine x_istore_n (pc := 39) dX7_followFrom_39 rfl ?_
      refine x_iload_n (pc := 40) dX7_followFrom_40 rfl ?_
      refine x_iconst (pc := 41) dX7_followFrom_41 (v := nI 1) (by decide) ?_
      refine x_iload_n (pc := 42) dX7_followFrom_42 rfl ?_
      first | refine xn_shl1 (pc := 43) dX7_followFrom_43 (by omega) ?_ | refine xn_ishl (pc := 43) dX7_followFrom_43 (by omega) (by omega) ?_ | refine x_ishl (pc := 43) dX7_followFrom_43 ?_
      first | refine xn_ior (pc := 44) dX7_followFrom_44 ?_ | refine x_ior (pc := 44) dX7_followFrom_44 ?_
      refine x_istore_n (pc := 45) dX7_followFrom_45 rfl ?_
      refine x_aload_n (pc := 46) dX7_followFrom_46 rfl ?_
      refine x_getf (pc := 47) dX7_followFrom_47 kf_X7_68 (by assumption) (by rfl) ?_
      refine x_aload_n (pc := 50) dX7_followFrom_50 rfl ?_
      refine x_getf (pc := 51) dX7_followFrom_51 kf_X7_173 (by assumption) (by rfl) ?_
      refine x_iload_n (pc := 54) dX7_followFrom_54 rfl ?_
      refine xw_iast (pc := 55) dX7_followFrom_55 (by assumption) (by first | omega | assumption) (by rfl) (fun w hnew hne => ?_)
      replace hK := (hne _ (by omega)).trans hK
      replace h71 := hnew
      replace hfr := fun j (hj : j < 51 ∨ (51 < j ∧ j < 71) ∨ 71 < j) => (hne j (by omega)).trans (hfr j hj)
      clear hne
      refine x_aload_n (pc := 56) dX7_followFrom_56 rfl ?_
      refine x_dup (pc := 57) dX7_followFrom_57 rfl ?_
      refine x_getf (pc := 58) dX7_followFrom_58 kf_X7_173 (by assumption) (by rfl) ?_
      refine x_iconst (pc := 61) dX7_followFrom_61 (v := nI 1) (by decide) ?_
      first | refine xn_iadd (pc := 62) dX7_followFrom_62 ?_ | refine x_iadd (pc := 62) dX7_followFrom_62 ?_
      refine xw_puti (pc := 63) dX7_followFrom_63 kf_X7_173 (by assumption) (by rfl) (by rfl) rfl rfl (fun w hnew hne => ?_)
      replace hK := hnew
      replace h71 := (hne _ (by omega)).trans h71
      replace hfr := fun j (hj : j < 51 ∨ (51 < j ∧ j < 71) ∨ 71 < j) => (hne j (by omega)).trans (hfr j hj)
      clear hne
      refine x_goto (pc := 66) dX7_followFrom_66 (tgt := 18) (by decide) ?_
      refine ih (ch ||| 2 ^ x) x (L + 1) c' _ _ (Nat.or_lt_two_pow h1 (pow_lt h7)) h7 (by rw [b_orp]; simp) (by rw [cnt_bit 10 x (by omega) hcb, h4]) (by omega) h10 hK h71 (fun i hi => ?_) (fun i hi => ?_) hfr
      · by_cases q : i = L
        · subst q
          rw [upd_same]
          rw [Nat.add_zero] at hx0
          rw [hx0]; rfl
        · rw [upd_ne _ _ q]; exact hg i (by omega)
      · have := hr (i + 1) (by omega)
        rw [show L + (i + 1) = L + 1 + i by omega] at this
        rw [this]; simp
  have hfr : ∀ j, (j < 51 ∨ (51 < j ∧ j < 71) ∨ 71 < j) → w0 j = w0 j := fun _ _ => rfl
  replace hK := hK0
  have h71 := h710
  clear hK0 h710
  refine x_iconst (pc := 0) dX7_followFrom_0 (v := nI 1) (by decide) ?_
  refine x_iload_n (pc := 1) dX7_followFrom_1 rfl ?_
  first | refine xn_shl1 (pc := 2) dX7_followFrom_2 (by omega) ?_ | refine xn_ishl (pc := 2) dX7_followFrom_2 (by omega) (by omega) ?_ | refine x_ishl (pc := 2) dX7_followFrom_2 ?_
  refine x_istore_n (pc := 3) dX7_followFrom_3 rfl ?_
  refine x_iload_n (pc := 4) dX7_followFrom_4 rfl ?_
  refine x_istore_n (pc := 5) dX7_followFrom_5 rfl ?_
  refine x_aload_n (pc := 6) dX7_followFrom_6 rfl ?_
  refine x_getf (pc := 7) dX7_followFrom_7 kf_X7_68 (by assumption) (by rfl) ?_
  refine x_iconst (pc := 10) dX7_followFrom_10 (v := nI 0) (by decide) ?_
  refine x_iload_n (pc := 11) dX7_followFrom_11 rfl ?_
  refine xw_iast (pc := 12) dX7_followFrom_12 (by assumption) (by first | omega | assumption) (by rfl) (fun w hnew hne => ?_)
  replace hK := (hne _ (by omega)).trans hK
  replace h71 := hnew
  replace hfr := fun j (hj : j < 51 ∨ (51 < j ∧ j < 71) ∨ 71 < j) => (hne j (by omega)).trans (hfr j hj)
  clear hne
  refine x_aload_n (pc := 13) dX7_followFrom_13 rfl ?_
  refine x_iconst (pc := 14) dX7_followFrom_14 (v := nI 1) (by decide) ?_
  refine xw_puti (pc := 15) dX7_followFrom_15 kf_X7_173 (by assumption) (by rfl) (by rfl) rfl rfl (fun w hnew hne => ?_)
  replace hK := hnew
  replace h71 := (hne _ (by omega)).trans h71
  replace hfr := fun j (hj : j < 51 ∨ (51 < j ∧ j < 71) ∨ 71 < j) => (hne j (by omega)).trans (hfr j hj)
  clear hne
  refine loop b.2 (2 ^ v) v 1 b.1 _ _ (pow_lt hv) hv (by rw [b_pow]; simp) (cnt_pow v (by omega)) (by omega) hb hK h71 (fun i hi => ?_) (fun i hi => ?_) hfr
  · rw [show i = 0 by omega, upd_same]; rfl
  · rw [show 1 + i = i + 1 by omega]; simp
theorem isM.rl {w w' : ax_W} {T : List Nat} {C : Crt} {h : Hrg} {L K : List Hrg} (hm : isM w T C h L K) {rl' : Int32} {g : Nat → Int32} (hK : ∀ ty at_ so un ke rl, w 51 = om ty at_ so un ke rl → w' 51 = om ty at_ so un ke rl') (h71 : w' 71 = ai 10 g) (hq : ∀ j, (j < 51 ∨ (51 < j ∧ j < 71) ∨ 71 < j) → w' j = w j) : isM w' T C h L K := by
  obtain ⟨a, s, r, D, h1, h2, h3, h4, h5, h6, h7, h8⟩ := hm
  refine ⟨a, s, rl', D, h1, h2, h3, hK _ _ _ _ _ _ h4, h5.go fun j _ _ => hq j (by omega), h6.go fun j _ _ => hq j (by omega), h7.go fun j _ _ => hq j (by omega), ?_⟩
  obtain ⟨h9, -⟩ := h8
  refine ⟨fun i hi => ?_, g, h71⟩
  obtain ⟨f, hf⟩ := h9 i hi
  exact ⟨f, (hq _ (by omega)).trans hf⟩
theorem om_inj {a b c d e f a' b' c' d' e' f' : Int32} (h : om a b c d e f = om a' b' c' d' e' f') : a = a' ∧ b = b' ∧ c = c' ∧ d = d' ∧ e = e' := by
  injection h with h
  injection h with h
  injection h with _ h
  simp only [List.cons.injEq, Value.int.injEq, true_and] at h
  exact ⟨h.1, h.2.1, h.2.2.1, h.2.2.2.1, h.2.2.2.2.1⟩
/-- the chain followed: what is known behind it -/
theorem m_follow {w : ax_W} {n : Nat} {T : List Nat} {C : Crt} {h : Hrg} {L K : List Hrg} (hm : isM w T C h L K) (okc : okC C) {F : Nat → Nat → Int32} (hS : mS w C none h.2 F) {v : Nat} (hv : v < cn C) {b : Nat × List Nat} (hb : bstM C v 1 (P9 C none h.2 v) = some b) : Run m_X7_followFrom 0 0 0 0 (l_ent m_X7_followFrom [.ref 51, .int (nI v)]) [] w n (Vo (fun w' => isM w' T C h L K ∧ mS w' C none h.2 F ∧ (∃ ty at_ so un ke, w' 51 = om ty at_ so un ke (nI (b.2.length + 1))) ∧ (∃ g : Nat → Int32, w' 71 = ai 10 g ∧ ∀ i, i < b.2.length + 1 → g i = nI ((v :: b.2).getD i 0)) ∧ same50 w w') n) := by
  obtain ⟨ty, at_, so, un, ke, rl, f, F', hK, hC, h61, hs, hB⟩ := hm.op
  obtain ⟨a, s, r, D, h1, h2, h3, h4, h5, h6, h7, ⟨h8, f71, h71⟩⟩ := id hm
  refine (m_followFrom okc hK hC hS h71 hv hb).mono ?_
  intro r2 w' n' hP
  obtain ⟨rfl, rfl, hK', ⟨g, hg, hg2⟩, hq⟩ := hP
  refine vo_i ⟨hm.rl (rl' := nI (b.2.length + 1)) (fun ty2 at2 so2 un2 ke2 rl2 h9 => ?_) hg hq, ⟨hS.1.go fun j _ _ => hq j (by omega), hS.2⟩, ⟨_, _, _, _, _, hK'⟩, ⟨g, hg, hg2⟩, fun j hj => hq j (by omega)⟩
  obtain ⟨rfl, rfl, rfl, rfl, rfl⟩ := om_inj (hK.symm.trans h9)
  exact hK'
theorem m_shortest {w : ax_W} {n : Nat} {T : List Nat} {C : Crt} {h : Hrg} {L K : List Hrg} (hm : isM w T C h L K) (ok : okX T C h L K) (x y : Int32) : Run m_X7_shortest 4 0 0 0 (l_ent m_X7_shortest [.ref 51, .int x, .int y]) [] w n (PM (shS C h x y) T C h L K w n) := by
  have hm0 := hm
  have okc := ok.2.1
  have hn := okc.1
  obtain ⟨a0, s0, r0, D0, q1, q2, q3, hK, -, hC, -⟩ := id hm
  by_cases hbad : vtB C x = true ∧ ¬ y < -2
  · obtain ⟨hb, hy⟩ := hbad
    rcases vtB_cases okc x with hb' | ⟨v, hv, rfl, -⟩
    · rw [hb] at hb'; cases hb'
    have hcl : (nI v).toNatClampNeg = v := n_cl (by omega)
    have hp := pow_10 (show v < 10 by omega)
    refine x_aload_n (pc := 0) dX7_shortest_0 rfl ?_
    refine x_iload_n (pc := 1) dX7_shortest_1 rfl ?_
    refine x_cv1p (ci := 7) (pc := 2) dX7_shortest_2 ks_X7_167 (by assumption) (by rfl) (by omega) (by rfl) (by rfl) (by rfl) (c_m_isVerdict okc hK hC _) ?_
    refine x_if_eq (pc := 5) dX7_shortest_5 (tgt := 14) (by decide) (fun h_5 => ?_) (fun h_5 => ?_)
    · skip
      try first | rw [n_b0] at h_5 | rw [n_eq0 (by omega)] at h_5
      rw [hb] at h_5; cases h_5
    · skip
      try first | rw [n_b0] at h_5 | rw [n_eq0 (by omega)] at h_5
      refine x_iload_n (pc := 8) dX7_shortest_8 rfl ?_
      refine x_bipush (pc := 9) dX7_shortest_9 (v := -2) (by decide) ?_
      refine x_icmp_ge_t (pc := 11) dX7_shortest_11 (tgt := 16) (by decide) (Int32.not_lt.mp hy) ?_
      refine x_aload_n (pc := 16) dX7_shortest_16 rfl ?_
      refine x_iload_n (pc := 17) dX7_shortest_17 rfl ?_
      refine x_cv1 (q1 := 0) (q2 := 0) (ci := 7) (pc := 18) dX7_shortest_18 ks_X7_170 (by assumption) (by rfl) (by omega) (by rfl) (by rfl) (by rfl) (m_hasWhole hm ok hv) (va_kk fun v w hP => ?_)
      obtain ⟨rfl, hm', ⟨F, hS⟩, hq⟩ := hP
      obtain ⟨ty1, at1, so1, un1, ke1, rl1, f1, -, hK1, -⟩ := hm'.op
      refine x_if_ne (pc := 21) dX7_shortest_21 (tgt := 27) (by decide) (fun h_21 => ?_) (fun h_21 => ?_)
      · skip
        try first | rw [n_b0] at h_21 | rw [n_eq0 (by omega)] at h_21
        simp only [Bool.not_eq_false] at h_21
        obtain ⟨bb, hbb, z1, z2, z3⟩ := z_best h_21
        have hbm := P9_mem okc hv bb.2 (bstM_mem hbb).1
        have hb9 : bb.2.length ≤ 9 := (pthO_mem okc 9 _ v hv bb.2 (bstM_mem hbb).1).2
        have hbl := les_le okc (L := 1) (P9_mem okc hv) hbb
        have hcst := cst_le okc hv none 0
        have hfo : ¬ v_fo (surZ C h.2 v) = 0 := by rw [z_fo, h_21]; exact Nat.ne_of_gt (List.length_pos_iff.mpr (hw_yes h_21).2)
        refine x_aload_n (pc := 27) dX7_shortest_27 rfl ?_
        refine x_iload_n (pc := 28) dX7_shortest_28 rfl ?_
        refine x_cv1 (q1 := 0) (q2 := 0) (ci := 7) (pc := 29) dX7_shortest_29 ks_X7_176 (by assumption) (by rfl) (by omega) (by rfl) (by rfl) (by rfl) (m_follow hm' okc hS hv hbb) (vo_kk fun w hP => ?_)
        obtain ⟨hm2, hS2, ⟨ty', at', so', un', ke', hK'⟩, ⟨g, h71, hg⟩, hq2⟩ := hP
        obtain ⟨-, -, -, -, -, -, f', -, -, hC', -⟩ := hm2.op
        obtain ⟨t0, t1, t2, t3, t4, t5, t6, t7, t8⟩ := hS2.row okc hv
        obtain ⟨h62, h63, h64, h65, h66, h67, h68, h69, h70⟩ := id hS2.1
        rw [hbb] at t1
        have t1' : F 1 (10 * 2 ^ v + v) = nI bb.1 := t1
        have hqq : same50 _ _ := fun j hj => (hq2 j hj).trans (hq j hj)
        refine x_iload_n (pc := 32) dX7_shortest_32 rfl ?_
        refine x_bipush (pc := 33) dX7_shortest_33 (v := -2) (by decide) ?_
        refine x_icmp_ne (pc := 35) dX7_shortest_35 (tgt := 57) (by decide) (fun h_35 => ?_) (fun h_35 => ?_)
        · skip
          try first | rw [n_b1] at h_35 | rw [n_b00] at h_35 | rw [n_eq (by omega) (by omega)] at h_35
          refine x_iload_n (pc := 57) dX7_shortest_57 rfl ?_
          refine x_iconst (pc := 58) dX7_shortest_58 (v := -1) (by decide) ?_
          refine x_icmp_ne (pc := 59) dX7_shortest_59 (tgt := 69) (by decide) (fun h_59 => ?_) (fun h_59 => ?_)
          · skip
            try first | rw [n_b1] at h_59 | rw [n_b00] at h_59 | rw [n_eq (by omega) (by omega)] at h_59
            obtain ⟨j, hj, rfl⟩ := y_nat hy h_35 h_59
            have hyc : (nI j).toNatClampNeg = j := n_cl hj
            refine x_iload_n (pc := 69) dX7_shortest_69 rfl ?_
            refine x_aload_n (pc := 70) dX7_shortest_70 rfl ?_
            refine x_getf (pc := 71) dX7_shortest_71 kf_X7_173 (by assumption) (by rfl) ?_
            refine x_icmp_ge (pc := 74) dX7_shortest_74 (tgt := 86) (by decide) (fun h_74 => ?_) (fun h_74 => ?_)
            · skip
              try first | rw [n_b1] at h_74 | rw [n_b00] at h_74 | rw [n_le (by omega) (by omega)] at h_74
              have e : shS C h (nI v) (nI j) = -4 := by rw [shS, if_pos ⟨hb, hy⟩, hcl, if_neg hfo, if_neg h_35, if_neg h_59, z2, if_neg (by rw [n_lt (by omega) (by omega)]; omega)]
              refine x_bipush (pc := 86) dX7_shortest_86 (v := -4) (by decide) ?_
              refine x_iret (pc := 88) dX7_shortest_88 rfl rfl ?_
              exact va_i ⟨by rw [e], hm2, hqq⟩
            · skip
              try first | rw [n_b1] at h_74 | rw [n_b00] at h_74 | rw [n_le (by omega) (by omega)] at h_74
              have e : shS C h (nI v) (nI j) = nI ((v :: bb.2).getD j 0) := by rw [shS, if_pos ⟨hb, hy⟩, hcl, if_neg hfo, if_neg h_35, if_neg h_59, z2, if_pos (by rw [n_lt (by omega) (by omega)]; omega), hyc, z3 j (by omega)]
              refine x_aload_n (pc := 77) dX7_shortest_77 rfl ?_
              refine x_getf (pc := 78) dX7_shortest_78 kf_X7_68 (by assumption) (by rfl) ?_
              refine x_iload_n (pc := 81) dX7_shortest_81 rfl ?_
              refine xn_iald (pc := 82) dX7_shortest_82 (by assumption) (by first | omega | assumption) (by rfl) ?_
              rw [hg j (by omega)]
              refine x_goto (pc := 83) dX7_shortest_83 (tgt := 88) (by decide) ?_
              refine x_iret (pc := 88) dX7_shortest_88 rfl rfl ?_
              exact va_i ⟨by rw [e], hm2, hqq⟩
          · replace h_59 := Classical.not_not.mp h_59
            try first | rw [n_b1] at h_59 | rw [n_b00] at h_59 | rw [n_eq (by omega) (by omega)] at h_59
            have e : shS C h (nI v) y = nI (bb.2.length + 1) := by rw [shS, if_pos ⟨hb, hy⟩, hcl, if_neg hfo, if_neg h_35, if_pos h_59, z2]
            refine x_aload_n (pc := 62) dX7_shortest_62 rfl ?_
            refine x_getf (pc := 63) dX7_shortest_63 kf_X7_173 (by assumption) (by rfl) ?_
            refine x_goto (pc := 66) dX7_shortest_66 (tgt := 88) (by decide) ?_
            refine x_iret (pc := 88) dX7_shortest_88 rfl rfl ?_
            exact va_i ⟨by rw [e], hm2, hqq⟩
        · replace h_35 := Classical.not_not.mp h_35
          try first | rw [n_b1] at h_35 | rw [n_b00] at h_35 | rw [n_eq (by omega) (by omega)] at h_35
          have e : shS C h (nI v) y = nI (cst C none 0 v + bb.1) := by rw [shS, if_pos ⟨hb, hy⟩, hcl, if_neg hfo, if_pos h_35, z1]
          refine x_aload_n (pc := 38) dX7_shortest_38 rfl ?_
          refine x_iload_n (pc := 39) dX7_shortest_39 rfl ?_
          refine x_iconst (pc := 40) dX7_shortest_40 (v := nI 0) (by decide) ?_
          refine x_bipush (pc := 41) dX7_shortest_41 (v := -4) (by decide) ?_
          refine x_cv3p (ci := 7) (pc := 43) dX7_shortest_43 ks_X7_141 (by assumption) (by rfl) (by omega) (by rfl) (by rfl) (by rfl) (m_cost okc hK' hC' hv (by omega) (z := none) (fun b q => by cases q)) ?_
          refine x_aload_n (pc := 46) dX7_shortest_46 rfl ?_
          refine x_getf (pc := 47) dX7_shortest_47 kf_X7_44 (by assumption) (by rfl) ?_
          refine x_iload_n (pc := 50) dX7_shortest_50 rfl ?_
          refine x_cs1p (pc := 51) dX7_shortest_51 ks_X7_164 (by omega) (by rfl) (by rfl) (by rfl) (m_rowOf (by omega)) ?_
          refine xn_iald (pc := 54) dX7_shortest_54 (by assumption) (by first | omega | assumption) (by rfl) ?_
          rw [t1']
          first | refine xn_iadd (pc := 55) dX7_shortest_55 ?_ | refine x_iadd (pc := 55) dX7_shortest_55 ?_
          refine x_iret (pc := 56) dX7_shortest_56 rfl rfl ?_
          exact va_i ⟨by rw [e], hm2, hqq⟩
      · replace h_21 := Classical.not_not.mp h_21
        try first | rw [n_b0] at h_21 | rw [n_eq0 (by omega)] at h_21
        have e : shS C h (nI v) y = -4 := by rw [shS, if_pos ⟨hb, hy⟩, hcl, if_pos (by rw [z_fo, h_21]; rfl)]
        refine x_bipush (pc := 24) dX7_shortest_24 (v := -4) (by decide) ?_
        refine x_iret (pc := 26) dX7_shortest_26 rfl rfl ?_
        exact va_i ⟨by rw [e], hm', hq⟩
  · have e : shS C h x y = -1 := by rw [shS, if_neg hbad]
    have go14 : Run m_X7_shortest 4 0 0 14 [some (.ref 51), some (.int x), some (.int y)] [] w n (PM (shS C h x y) T C h L K w n) := by
      refine x_iconst (pc := 14) dX7_shortest_14 (v := -1) (by decide) ?_
      refine x_iret (pc := 15) dX7_shortest_15 rfl rfl ?_
      exact va_i ⟨by rw [e], hm0, fun _ _ => rfl⟩
    refine x_aload_n (pc := 0) dX7_shortest_0 rfl ?_
    refine x_iload_n (pc := 1) dX7_shortest_1 rfl ?_
    refine x_cv1p (ci := 7) (pc := 2) dX7_shortest_2 ks_X7_167 (by assumption) (by rfl) (by omega) (by rfl) (by rfl) (by rfl) (c_m_isVerdict okc hK hC _) ?_
    refine x_if_eq (pc := 5) dX7_shortest_5 (tgt := 14) (by decide) (fun h_5 => ?_) (fun h_5 => ?_)
    · skip
      try first | rw [n_b0] at h_5 | rw [n_eq0 (by omega)] at h_5
      exact go14
    · skip
      try first | rw [n_b0] at h_5 | rw [n_eq0 (by omega)] at h_5
      refine x_iload_n (pc := 8) dX7_shortest_8 rfl ?_
      refine x_bipush (pc := 9) dX7_shortest_9 (v := -2) (by decide) ?_
      refine x_icmp_ge (pc := 11) dX7_shortest_11 (tgt := 16) (by decide) (fun h_11 => ?_) (fun h_11 => ?_)
      · skip
        try first | rw [n_b1] at h_11 | rw [n_b00] at h_11 | rw [n_le (by omega) (by omega)] at h_11
        exact absurd ⟨by simpa using h_5, Int32.not_lt.mpr h_11⟩ hbad
      · skip
        try first | rw [n_b1] at h_11 | rw [n_b00] at h_11 | rw [n_le (by omega) (by omega)] at h_11
        exact go14
theorem if_neg_or {C : Crt} {h : Hrg} {v j : Nat} {a b : Int32} {N : Nat} (_hfo : ¬ v_fo (surZ C h.2 v) = 0) (z2 : v_bl (surZ C h.2 v) = N) (h35 : ¬ nI j < nI N) : (if v_fo (surZ C h.2 v) = 0 ∨ ¬ nI j < nI (v_bl (surZ C h.2 v)) then a else b) = a := if_pos (Or.inr (by rw [z2]; exact h35))
theorem m_laid_loop {w w0 : ax_W} {n : Nat} {T : List Nat} {C : Crt} {h : Hrg} {L K : List Hrg} {ty at_ so un ke rl : Int32} {row : Nat → Nat} {v k : Nat} {g fds : Nat → Int32} {x y : Int32} (hK : w 51 = om ty at_ so un ke rl) (h71 : w 71 = ai 10 g) (h56 : w 56 = ai 20 fds) (hg : ∀ i, i < k + 1 → g i = nI (row i)) (hd : ∀ i, i < k + 1 → fds (row i) = nI (sp C (row i))) (hr : ∀ i, i < k + 1 → row i < 10) (hk : k < 10) (j : Nat) (hj : j ≤ k + 1) (hm : isM w T C h L K) (hq : same50 w0 w) (e : ldS C h x y = nI (dayA C row (k + 1))) : Run m_X7_laid 4 0 0 46 [some (.ref 51), some (.int (nI v)), some (.int (nI k)), some (.int (nI (dayA C row j))), some (.int (nI j))] [] w n (PM (ldS C h x y) T C h L K w0 n) := by
  have loop : ∀ m j, j + m = k + 1 → Run m_X7_laid 4 0 0 46 [some (.ref 51), some (.int (nI v)), some (.int (nI k)), some (.int (nI (dayA C row j))), some (.int (nI j))] [] w n (PM (ldS C h x y) T C h L K w0 n) := by
    intro m
    induction m with
    | zero =>
      intro j hj
      have hjj : j = k + 1 := by omega
      subst hjj
      refine x_iload (pc := 46) dX7_laid_46 rfl ?_
      refine x_iload_n (pc := 48) dX7_laid_48 rfl ?_
      refine x_icmp_gt_t (pc := 49) dX7_laid_49 (tgt := 73) (by decide) ((n_lt (by omega) (by omega)).mpr (by omega)) ?_
      refine x_iload_n (pc := 73) dX7_laid_73 rfl ?_
      refine x_iret (pc := 74) dX7_laid_74 rfl rfl ?_
      exact va_i ⟨by rw [e], hm, hq⟩
    | succ m ih =>
      intro j hj
      have hrj := hr j (by omega)
      refine x_iload (pc := 46) dX7_laid_46 rfl ?_
      refine x_iload_n (pc := 48) dX7_laid_48 rfl ?_
      refine x_icmp_gt_f (pc := 49) dX7_laid_49 (tgt := 73) (by decide) (by rw [n_lt (by omega) (by omega)]; omega) ?_
      refine x_iload_n (pc := 52) dX7_laid_52 rfl ?_
      refine x_aload_n (pc := 53) dX7_laid_53 rfl ?_
      refine x_getf (pc := 54) dX7_laid_54 kf_X7_23 (by assumption) (by rfl) ?_
      refine x_aload_n (pc := 57) dX7_laid_57 rfl ?_
      refine x_getf (pc := 58) dX7_laid_58 kf_X7_68 (by assumption) (by rfl) ?_
      refine x_iload (pc := 61) dX7_laid_61 rfl ?_
      refine xn_iald (pc := 63) dX7_laid_63 (by assumption) (by first | omega | assumption) (by rfl) ?_
      rw [hg j (by omega)]
      refine xn_iald (pc := 64) dX7_laid_64 (by assumption) (by first | omega | assumption) (by rfl) ?_
      rw [hd j (by omega)]
      first | refine xn_iadd (pc := 65) dX7_laid_65 ?_ | refine x_iadd (pc := 65) dX7_laid_65 ?_
      refine x_istore_n (pc := 66) dX7_laid_66 rfl ?_
      refine xn_iinc (pc := 67) dX7_laid_67 rfl rfl ?_
      refine x_goto (pc := 70) dX7_laid_70 (tgt := 46) (by decide) ?_
      exact ih (j + 1) (by omega)
  exact loop (k + 1 - j) j (by omega)
theorem m_laid {w : ax_W} {n : Nat} {T : List Nat} {C : Crt} {h : Hrg} {L K : List Hrg} (hm : isM w T C h L K) (ok : okX T C h L K) (x y : Int32) : Run m_X7_laid 4 0 0 0 (l_ent m_X7_laid [.ref 51, .int x, .int y]) [] w n (PM (ldS C h x y) T C h L K w n) := by
  have hm0 := hm
  have okc := ok.2.1
  have hn := okc.1
  obtain ⟨a0, s0, r0, D0, q1, q2, q3, hK, -, hC, -⟩ := id hm
  by_cases hbad : vtB C x = true ∧ ¬ y < 0
  · obtain ⟨hb, hy⟩ := hbad
    rcases vtB_cases okc x with hb' | ⟨v, hv, rfl, -⟩
    · rw [hb] at hb'; cases hb'
    have hcl : (nI v).toNatClampNeg = v := n_cl (by omega)
    obtain ⟨j, hj, rfl⟩ := nI_of hy
    have hyc : (nI j).toNatClampNeg = j := n_cl hj
    refine x_aload_n (pc := 0) dX7_laid_0 rfl ?_
    refine x_iload_n (pc := 1) dX7_laid_1 rfl ?_
    refine x_cv1p (ci := 7) (pc := 2) dX7_laid_2 ks_X7_167 (by assumption) (by rfl) (by omega) (by rfl) (by rfl) (by rfl) (c_m_isVerdict okc hK hC _) ?_
    refine x_if_eq (pc := 5) dX7_laid_5 (tgt := 12) (by decide) (fun h_5 => ?_) (fun h_5 => ?_)
    · skip
      try first | rw [n_b0] at h_5 | rw [n_eq0 (by omega)] at h_5
      rw [hb] at h_5; cases h_5
    · skip
      try first | rw [n_b0] at h_5 | rw [n_eq0 (by omega)] at h_5
      refine x_iload_n (pc := 8) dX7_laid_8 rfl ?_
      refine x_if_ge_t (pc := 9) dX7_laid_9 (tgt := 14) (by decide) (nI_pos' hj) ?_
      refine x_aload_n (pc := 14) dX7_laid_14 rfl ?_
      refine x_iload_n (pc := 15) dX7_laid_15 rfl ?_
      refine x_cv1 (q1 := 0) (q2 := 0) (ci := 7) (pc := 16) dX7_laid_16 ks_X7_170 (by assumption) (by rfl) (by omega) (by rfl) (by rfl) (by rfl) (m_hasWhole hm ok hv) (va_kk fun v w hP => ?_)
      obtain ⟨rfl, hm', ⟨F, hS⟩, hq⟩ := hP
      obtain ⟨ty1, at1, so1, un1, ke1, rl1, f1, -, hK1, -⟩ := hm'.op
      refine x_if_ne (pc := 19) dX7_laid_19 (tgt := 25) (by decide) (fun h_19 => ?_) (fun h_19 => ?_)
      · skip
        try first | rw [n_b0] at h_19 | rw [n_eq0 (by omega)] at h_19
        simp only [Bool.not_eq_false] at h_19
        obtain ⟨bb, hbb, z1, z2, z3⟩ := z_best h_19
        have hbm := P9_mem okc hv bb.2 (bstM_mem hbb).1
        have hb9 : bb.2.length ≤ 9 := (pthO_mem okc 9 _ v hv bb.2 (bstM_mem hbb).1).2
        have hfo : ¬ v_fo (surZ C h.2 v) = 0 := by rw [z_fo, h_19]; exact Nat.ne_of_gt (List.length_pos_iff.mpr (hw_yes h_19).2)
        refine x_aload_n (pc := 25) dX7_laid_25 rfl ?_
        refine x_iload_n (pc := 26) dX7_laid_26 rfl ?_
        refine x_cv1 (q1 := 0) (q2 := 0) (ci := 7) (pc := 27) dX7_laid_27 ks_X7_176 (by assumption) (by rfl) (by omega) (by rfl) (by rfl) (by rfl) (m_follow hm' okc hS hv hbb) (vo_kk fun w hP => ?_)
        obtain ⟨hm2, hS2, ⟨ty', at', so', un', ke', hK'⟩, ⟨g, h71, hg⟩, hq2⟩ := hP
        obtain ⟨-, -, -, -, -, -, f', -, -, hC', -⟩ := hm2.op
        obtain ⟨fm, fk, fc, fds, fh, fv, fp, fd, h53, h54, h55, h56, h57, h58, h59, h60, e1, e2, e3, e4, e5⟩ := id hC'
        have hqq : same50 _ _ := fun j hj => (hq2 j hj).trans (hq j hj)
        refine x_iload_n (pc := 30) dX7_laid_30 rfl ?_
        refine x_aload_n (pc := 31) dX7_laid_31 rfl ?_
        refine x_getf (pc := 32) dX7_laid_32 kf_X7_173 (by assumption) (by rfl) ?_
        refine x_icmp_lt (pc := 35) dX7_laid_35 (tgt := 41) (by decide) (fun h_35 => ?_) (fun h_35 => ?_)
        · skip
          try first | rw [n_b1] at h_35 | rw [n_b00] at h_35 | rw [n_lt (by omega) (by omega)] at h_35
          have hjb : j < bb.2.length + 1 := h_35
          have e : ldS C h (nI v) (nI j) = nI (dayA C (v_br (surZ C h.2 v)) (j + 1)) := by rw [ldS, if_pos ⟨hb, hy⟩, hcl, hyc, if_neg (fun q => q.elim (fun q => hfo q) (fun q => q (by rw [z2, n_lt (by omega) (by omega)]; exact hjb)))]
          have hrow : ∀ i, i < bb.2.length + 1 → (v :: bb.2).getD i 0 < cn C := by
            intro i hi
            have := getD_mem (l := v :: bb.2) (i := i) hi
            rcases List.mem_cons.mp this with q | q
            · rw [q]; exact hv
            · exact hbm.1 _ q
          refine x_iconst (pc := 41) dX7_laid_41 (v := nI 0) (by decide) ?_
          refine x_istore_n (pc := 42) dX7_laid_42 rfl ?_
          refine x_iconst (pc := 43) dX7_laid_43 (v := nI 0) (by decide) ?_
          refine x_istore (pc := 44) dX7_laid_44 rfl ?_
          exact m_laid_loop hK' h71 h56 (fun i hi => by rw [hg i (by omega), z3 i (by omega)]) (fun i hi => by rw [z3 i (by omega)]; exact (e4 _ (hrow i (by omega))).2.2.1) (fun i hi => by rw [z3 i (by omega)]; exact Nat.lt_of_lt_of_le (hrow i (by omega)) hn) (by omega) 0 (by omega) hm2 hqq e
        · skip
          try first | rw [n_b1] at h_35 | rw [n_b00] at h_35 | rw [n_lt (by omega) (by omega)] at h_35
          have e : ldS C h (nI v) (nI j) = -4 := by rw [ldS, if_pos ⟨hb, hy⟩, hcl, if_neg_or hfo z2 (by rw [n_lt (by omega) (by omega)]; exact h_35)]
          refine x_bipush (pc := 38) dX7_laid_38 (v := -4) (by decide) ?_
          refine x_iret (pc := 40) dX7_laid_40 rfl rfl ?_
          exact va_i ⟨by rw [e], hm2, hqq⟩
      · replace h_19 := Classical.not_not.mp h_19
        try first | rw [n_b0] at h_19 | rw [n_eq0 (by omega)] at h_19
        have e : ldS C h (nI v) (nI j) = -4 := by rw [ldS, if_pos ⟨hb, hy⟩, hcl, if_pos (Or.inl (by rw [z_fo, h_19]; rfl))]
        refine x_bipush (pc := 22) dX7_laid_22 (v := -4) (by decide) ?_
        refine x_iret (pc := 24) dX7_laid_24 rfl rfl ?_
        exact va_i ⟨by rw [e], hm', hq⟩
  · have e : ldS C h x y = -1 := by rw [ldS, if_neg hbad]
    have go12 : Run m_X7_laid 4 0 0 12 [some (.ref 51), some (.int x), some (.int y), none, none] [] w n (PM (ldS C h x y) T C h L K w n) := by
      refine x_iconst (pc := 12) dX7_laid_12 (v := -1) (by decide) ?_
      refine x_iret (pc := 13) dX7_laid_13 rfl rfl ?_
      exact va_i ⟨by rw [e], hm0, fun _ _ => rfl⟩
    refine x_aload_n (pc := 0) dX7_laid_0 rfl ?_
    refine x_iload_n (pc := 1) dX7_laid_1 rfl ?_
    refine x_cv1p (ci := 7) (pc := 2) dX7_laid_2 ks_X7_167 (by assumption) (by rfl) (by omega) (by rfl) (by rfl) (by rfl) (c_m_isVerdict okc hK hC _) ?_
    refine x_if_eq (pc := 5) dX7_laid_5 (tgt := 12) (by decide) (fun h_5 => ?_) (fun h_5 => ?_)
    · skip
      try first | rw [n_b0] at h_5 | rw [n_eq0 (by omega)] at h_5
      exact go12
    · skip
      try first | rw [n_b0] at h_5 | rw [n_eq0 (by omega)] at h_5
      refine x_iload_n (pc := 8) dX7_laid_8 rfl ?_
      refine x_if_ge (pc := 9) dX7_laid_9 (tgt := 14) (by decide) (fun h_9 => ?_) (fun h_9 => ?_)
      · skip
        try first | rw [n_b0] at h_9 | rw [n_0le (by omega)] at h_9
        exact absurd ⟨by simpa using h_5, Int32.not_lt.mpr h_9⟩ hbad
      · skip
        try first | rw [n_b0] at h_9 | rw [n_0le (by omega)] at h_9
        exact go12
theorem nd_or {A t x : Nat} (hA : A < 4294967296) : nd (nd A t) x = nd A (t ||| x) := by
  refine Nat.eq_of_testBit_eq fun i => ?_
  rw [nd_bit (nd_lt hA), nd_bit hA, nd_bit hA, Nat.testBit_or]
  cases A.testBit i <;> cases t.testBit i <;> cases x.testBit i <;> rfl
theorem and_m1 {a : Nat} (h : a < 4294967296) : nI a &&& (-1 : Int32) = nI a := by
  rw [n_m1, n_and]
  have := Nat.and_two_pow_sub_one_eq_mod a 32
  rw [show (2 : Nat) ^ 32 - 1 = 4294967295 by decide, show (2 : Nat) ^ 32 = 4294967296 by decide] at this
  rw [this, Nat.mod_eq_of_lt h]
theorem tdA_end {C : Crt} (okc : okC C) (sk : Nat) : ∀ j, tdA C sk (cn C + j) = tdA C sk (cn C)
  | 0 => rfl
  | j + 1 => by
    rw [show cn C + (j + 1) = cn C + j + 1 by omega, tdA, if_neg (by rw [bit_lt okc.2.2.1 (by omega)]; decide), tdA_end okc sk j]
theorem m_forgotten {w : ax_W} {n : Nat} {T : List Nat} {C : Crt} {h : Hrg} {L K : List Hrg} (hm : isM w T C h L K) (ok : okX T C h L K) : Run m_X7_forgotten 4 0 0 0 (l_ent m_X7_forgotten [.ref 51]) [] w n (PM (nI (fgS' C h)) T C h L K w n) := by
  have okc := ok.2.1
  have hn := okc.1
  have hv := okc.vd
  have hsk := ok.2.2.1.sk okc
  have hp10 := okc.lt
  have hp1 : 1 ≤ 2 ^ cn C := Nat.one_le_two_pow
  obtain ⟨ty, at_, so, un, ke, rl, f, F, hK, hC, h61, hs, hB⟩ := hm.op
  obtain ⟨a0, s0, r0, D0, q1, q2, q3, hKb, -, hCb, -⟩ := id hm
  have hA : nd (2 ^ cn C - 1) h.2 < 1024 := nd_lt (by omega)
  have e10 : tdA C h.2 10 = tdA C h.2 (cn C) := by
    have := tdA_end okc h.2 (10 - cn C)
    rw [show cn C + (10 - cn C) = 10 by omega] at this
    exact this
  have e00 : nd (nd (2 ^ cn C - 1) h.2) (tdA C h.2 0) = nd (2 ^ cn C - 1) h.2 := Nat.eq_of_testBit_eq fun i => by
    rw [nd_bit (by omega), show tdA C h.2 0 = 0 from rfl, Nat.zero_testBit, Bool.not_false, Bool.and_true]
  have main : ∀ (w1 : ax_W) (F : Nat → Nat → Int32), isM w1 T C h L K → mS w1 C none h.2 F → same50 w w1 → ∀ m v (z3 : Option Value), v + m = cn C → Run m_X7_forgotten 4 0 0 28 [some (.ref 51), some (.int (nI (nd (nd (2 ^ cn C - 1) h.2) (tdA C h.2 v)))), some (.int (nI v)), z3] [] w1 n (PM (nI (fgS' C h)) T C h L K w n) := by
    intro w1 F hm1 hS hq
    obtain ⟨ty, at_, so, un, ke, rl, f, -, hK, hR, h61, hs, -⟩ := hm1.op
    obtain ⟨a0, s0, r0, D0, q1, q2, q3, hKb, -, hCb, -⟩ := id hm1
    obtain ⟨fm, fk, fc, fds, fh, fv, fp, fd, h53, h54, h55, h56, h57, h58, h59, h60, e1, e2, e3, e4, e5⟩ := id hR
    obtain ⟨h62, h63, h64, h65, h66, h67, h68, h69, h70⟩ := id hS.1
    intro m
    induction m with
    | zero =>
      intro v z3 hvm
      have hvv : v = cn C := by omega
      subst hvv
      refine x_iload_n (pc := 28) dX7_forgotten_28 rfl ?_
      refine x_aload_n (pc := 29) dX7_forgotten_29 rfl ?_
      refine x_getf (pc := 30) dX7_forgotten_30 kf_X7_13 (by assumption) (by rfl) ?_
      refine x_iconst (pc := 33) dX7_forgotten_33 (v := nI 0) (by decide) ?_
      refine xn_iald (pc := 34) dX7_forgotten_34 (by assumption) (by first | omega | assumption) (by rfl) ?_
      rw [e1]
      refine x_icmp_ge_t (pc := 35) dX7_forgotten_35 (tgt := 104) (by decide) (nI_le (by omega) (by omega)) ?_
      refine x_iload_n (pc := 104) dX7_forgotten_104 rfl ?_
      refine x_iret (pc := 105) dX7_forgotten_105 rfl rfl ?_
      exact va_i ⟨by rw [fgS', e10], hm1, hq⟩
    | succ m ih =>
      intro v z3 hvm
      have hvn : v < cn C := by omega
      have hv10 : v < 10 := by omega
      have hp := pow_10 hv10
      have hlen := P9_len C none h.2 v
      obtain ⟨t0, t1, t2, t3, t4, t5, t6, t7, t8⟩ := hS.row okc hvn
      have hset : nd (nd (2 ^ cn C - 1) h.2) (tdA C h.2 v) < 1024 := nd_lt hA
      have fin : ∀ (b : Bool), b = ((vd C).testBit v && hwB C h.2 v) → Run m_X7_forgotten 4 0 0 71 [some (.ref 51), some (.int (nI (nd (nd (2 ^ cn C - 1) h.2) (tdA C h.2 v)))), some (.int (nI v)), z3] [.int (nI (bN b))] w1 n (PM (nI (fgS' C h)) T C h L K w n) := by
        intro b hb
        cases b with
        | false =>
          have e : tdA C h.2 (v + 1) = tdA C h.2 v := by
            rw [tdA]
            by_cases hx : (vd C).testBit v = true
            · rw [if_pos hx]
              rw [hx, Bool.true_and] at hb
              rw [z_td, ← hb, if_neg (by decide), Nat.or_zero]
            · rw [if_neg hx]
          refine x_istore_n (pc := 71) dX7_forgotten_71 rfl ?_
          refine x_iload_n (pc := 72) dX7_forgotten_72 rfl ?_
          refine x_iload_n (pc := 73) dX7_forgotten_73 rfl ?_
          refine x_if_eq_t (pc := 74) dX7_forgotten_74 (tgt := 95) (by decide) rfl ?_
          refine x_iconst (pc := 95) dX7_forgotten_95 (v := -1) (by decide) ?_
          refine x_iand (pc := 96) dX7_forgotten_96 ?_
          rw [and_m1 (by omega)]
          refine x_istore_n (pc := 97) dX7_forgotten_97 rfl ?_
          refine xn_iinc (pc := 98) dX7_forgotten_98 rfl rfl ?_
          refine x_goto (pc := 101) dX7_forgotten_101 (tgt := 28) (by decide) ?_
          exact (by rw [← e]; exact ih (v + 1) _ (by omega))
        | true =>
          have hb2 := hb.symm
          simp only [Bool.and_eq_true] at hb2
          have e : nd (nd (nd (2 ^ cn C - 1) h.2) (tdA C h.2 v)) (anyM (P9 C none h.2 v) ||| 2 ^ v) = nd (nd (2 ^ cn C - 1) h.2) (tdA C h.2 (v + 1)) := by
            rw [nd_or (by omega), tdA, if_pos hb2.1, z_td, hb2.2, if_pos rfl]
          refine x_istore_n (pc := 71) dX7_forgotten_71 rfl ?_
          refine x_iload_n (pc := 72) dX7_forgotten_72 rfl ?_
          refine x_iload_n (pc := 73) dX7_forgotten_73 rfl ?_
          refine x_if_eq_f (pc := 74) dX7_forgotten_74 (tgt := 95) (by decide) (by decide +kernel) ?_
          refine x_aload_n (pc := 77) dX7_forgotten_77 rfl ?_
          refine x_getf (pc := 78) dX7_forgotten_78 kf_X7_59 (by assumption) (by rfl) ?_
          refine x_iload_n (pc := 81) dX7_forgotten_81 rfl ?_
          refine x_cs1p (pc := 82) dX7_forgotten_82 ks_X7_164 (by omega) (by rfl) (by rfl) (by rfl) (m_rowOf (by omega)) ?_
          refine xn_iald (pc := 85) dX7_forgotten_85 (by assumption) (by first | omega | assumption) (by rfl) ?_
          rw [t6]
          refine x_iconst (pc := 86) dX7_forgotten_86 (v := nI 1) (by decide) ?_
          refine x_iload_n (pc := 87) dX7_forgotten_87 rfl ?_
          first | refine xn_shl1 (pc := 88) dX7_forgotten_88 (by omega) ?_ | refine xn_ishl (pc := 88) dX7_forgotten_88 (by omega) (by omega) ?_ | refine x_ishl (pc := 88) dX7_forgotten_88 ?_
          first | refine xn_ior (pc := 89) dX7_forgotten_89 ?_ | refine x_ior (pc := 89) dX7_forgotten_89 ?_
          refine x_iconst (pc := 90) dX7_forgotten_90 (v := nI 4294967295) (by decide) ?_
          first | refine xn_ixor (pc := 91) dX7_forgotten_91 ?_ | refine x_ixor (pc := 91) dX7_forgotten_91 ?_
          refine x_goto (pc := 92) dX7_forgotten_92 (tgt := 96) (by decide) ?_
          first | refine xn_bit (pc := 96) dX7_forgotten_96 ?_ | refine xn_nd (pc := 96) dX7_forgotten_96 ?_ | refine xn_iand (pc := 96) dX7_forgotten_96 ?_ | refine x_iand (pc := 96) dX7_forgotten_96 ?_
          refine x_istore_n (pc := 97) dX7_forgotten_97 rfl ?_
          refine xn_iinc (pc := 98) dX7_forgotten_98 rfl rfl ?_
          refine x_goto (pc := 101) dX7_forgotten_101 (tgt := 28) (by decide) ?_
          exact (by rw [e]; exact ih (v + 1) _ (by omega))
      refine x_iload_n (pc := 28) dX7_forgotten_28 rfl ?_
      refine x_aload_n (pc := 29) dX7_forgotten_29 rfl ?_
      refine x_getf (pc := 30) dX7_forgotten_30 kf_X7_13 (by assumption) (by rfl) ?_
      refine x_iconst (pc := 33) dX7_forgotten_33 (v := nI 0) (by decide) ?_
      refine xn_iald (pc := 34) dX7_forgotten_34 (by assumption) (by first | omega | assumption) (by rfl) ?_
      rw [e1]
      refine x_icmp_ge_f (pc := 35) dX7_forgotten_35 (tgt := 104) (by decide) (nI_ge (by omega) (by omega)) ?_
      refine x_aload_n (pc := 38) dX7_forgotten_38 rfl ?_
      refine x_iload_n (pc := 39) dX7_forgotten_39 rfl ?_
      refine x_cv1p (ci := 7) (pc := 40) dX7_forgotten_40 ks_X7_167 (by assumption) (by rfl) (by omega) (by rfl) (by rfl) (by rfl) (c_m_isVerdict okc hKb hCb _) ?_
      rw [vtB_nat okc (by omega)]
      refine x_if_eq (pc := 43) dX7_forgotten_43 (tgt := 70) (by decide) (fun h_43 => ?_) (fun h_43 => ?_)
      · skip
        try first | rw [n_b0] at h_43 | rw [n_eq0 (by omega)] at h_43
        have e : false = ((vd C).testBit v && hwB C h.2 v) := by rw [h_43]; rfl
        refine x_iconst (pc := 70) dX7_forgotten_70 (v := nI 0) (by decide) ?_
        exact fin _ e
      · skip
        try first | rw [n_b0] at h_43 | rw [n_eq0 (by omega)] at h_43
        simp only [Bool.not_eq_false] at h_43
        refine x_aload_n (pc := 46) dX7_forgotten_46 rfl ?_
        refine x_iload_n (pc := 47) dX7_forgotten_47 rfl ?_
        refine x_cv1p (ci := 7) (pc := 48) dX7_forgotten_48 ks_X7_161 (by assumption) (by rfl) (by omega) (by rfl) (by rfl) (by rfl) (m_isStruck hK hsk h61 hs (by omega)) ?_
        refine x_if_ne (pc := 51) dX7_forgotten_51 (tgt := 70) (by decide) (fun h_51 => ?_) (fun h_51 => ?_)
        · skip
          try first | rw [n_b0] at h_51 | rw [n_eq0 (by omega)] at h_51
          have e : false = ((vd C).testBit v && hwB C h.2 v) := by simp only [Bool.not_eq_false] at h_51; unfold hwB; rw [h_51]; simp
          refine x_iconst (pc := 70) dX7_forgotten_70 (v := nI 0) (by decide) ?_
          exact fin _ e
        · replace h_51 := Classical.not_not.mp h_51
          try first | rw [n_b0] at h_51 | rw [n_eq0 (by omega)] at h_51
          refine x_aload_n (pc := 54) dX7_forgotten_54 rfl ?_
          refine x_getf (pc := 55) dX7_forgotten_55 kf_X7_41 (by assumption) (by rfl) ?_
          refine x_iload_n (pc := 58) dX7_forgotten_58 rfl ?_
          refine x_cs1p (pc := 59) dX7_forgotten_59 ks_X7_164 (by omega) (by rfl) (by rfl) (by rfl) (m_rowOf (by omega)) ?_
          refine xn_iald (pc := 62) dX7_forgotten_62 (by assumption) (by first | omega | assumption) (by rfl) ?_
          rw [t0]
          refine x_if_le (pc := 63) dX7_forgotten_63 (tgt := 70) (by decide) (fun h_63 => ?_) (fun h_63 => ?_)
          · skip
            try first | rw [n_b0] at h_63 | rw [n_le0 (by omega)] at h_63
            have e : false = ((vd C).testBit v && hwB C h.2 v) := by unfold hwB; rw [h_63]; simp
            refine x_iconst (pc := 70) dX7_forgotten_70 (v := nI 0) (by decide) ?_
            exact fin _ e
          · skip
            try first | rw [n_b0] at h_63 | rw [n_le0 (by omega)] at h_63
            have e : true = ((vd C).testBit v && hwB C h.2 v) := by unfold hwB; rw [h_43, h_51, decide_eq_true (by omega)]; rfl
            refine x_iconst (pc := 66) dX7_forgotten_66 (v := nI 1) (by decide) ?_
            refine x_goto (pc := 67) dX7_forgotten_67 (tgt := 71) (by decide) ?_
            exact fin _ e
  refine x_aload_n (pc := 0) dX7_forgotten_0 rfl ?_
  refine x_bipush (pc := 1) dX7_forgotten_1 (v := -4) (by decide) ?_
  refine x_cv1 (q1 := 0) (q2 := 0) (ci := 7) (pc := 3) dX7_forgotten_3 ks_X7_157 (by assumption) (by rfl) (by omega) (by rfl) (by rfl) (by rfl) (m_solve okc hK hC h61 hs hB (o := none) (fun b q => by cases q)) (vo_kk fun w hP => ?_)
  obtain ⟨⟨F', hS⟩, hq⟩ := hP
  have hm' := hm.tab hq hS.1
  obtain ⟨ty', at', so', un', ke', rl', f', -, hK', hR', h61', hs', -⟩ := hm'.op
  obtain ⟨fm, fk, fc, fds, fh, fv, fp, fd, h53, h54, h55, h56, h57, h58, h59, h60, e1, e2, e3, e4, e5⟩ := id hR'
  refine x_iconst (pc := 6) dX7_forgotten_6 (v := nI 1) (by decide) ?_
  refine x_aload_n (pc := 7) dX7_forgotten_7 rfl ?_
  refine x_getf (pc := 8) dX7_forgotten_8 kf_X7_13 (by assumption) (by rfl) ?_
  refine x_iconst (pc := 11) dX7_forgotten_11 (v := nI 0) (by decide) ?_
  refine xn_iald (pc := 12) dX7_forgotten_12 (by assumption) (by first | omega | assumption) (by rfl) ?_
  rw [e1]
  first | refine xn_shl1 (pc := 13) dX7_forgotten_13 (by omega) ?_ | refine xn_ishl (pc := 13) dX7_forgotten_13 (by omega) (by omega) ?_ | refine x_ishl (pc := 13) dX7_forgotten_13 ?_
  refine x_iconst (pc := 14) dX7_forgotten_14 (v := nI 1) (by decide) ?_
  first | refine xn_isub (pc := 15) dX7_forgotten_15 (by omega) ?_ | refine x_isub (pc := 15) dX7_forgotten_15 ?_
  refine x_aload_n (pc := 16) dX7_forgotten_16 rfl ?_
  refine x_getf (pc := 17) dX7_forgotten_17 kf_X7_38 (by assumption) (by rfl) ?_
  refine x_iconst (pc := 20) dX7_forgotten_20 (v := nI 1) (by decide) ?_
  refine xn_iald (pc := 21) dX7_forgotten_21 (by assumption) (by first | omega | assumption) (by rfl) ?_
  rw [hs']
  refine x_iconst (pc := 22) dX7_forgotten_22 (v := nI 4294967295) (by decide) ?_
  first | refine xn_ixor (pc := 23) dX7_forgotten_23 ?_ | refine x_ixor (pc := 23) dX7_forgotten_23 ?_
  first | refine xn_bit (pc := 24) dX7_forgotten_24 ?_ | refine xn_nd (pc := 24) dX7_forgotten_24 ?_ | refine xn_iand (pc := 24) dX7_forgotten_24 ?_ | refine x_iand (pc := 24) dX7_forgotten_24 ?_
  refine x_istore_n (pc := 25) dX7_forgotten_25 rfl ?_
  refine x_iconst (pc := 26) dX7_forgotten_26 (v := nI 0) (by decide) ?_
  refine x_istore_n (pc := 27) dX7_forgotten_27 rfl ?_
  exact (by rw [← e00]; exact main _ F' hm' hS (fun j hj => hq j (by omega)) (cn C) 0 none (by omega))
