/-! the reference's small readings: statement, argued, count, who, cost, trial -/
theorem m_manyOf {w : ax_W} {n : Nat} {m : Nat} (hm : m < 2147483648) : Run m_X7_manyOf 0 0 0 0 (l_ent m_X7_manyOf [.int (nI m)]) [] w n (Pu (.int (nI (cnt m 10))) w n) := by
  have loop : ∀ k i, i + k = 10 → Run m_X7_manyOf 0 0 0 4 [some (.int (nI m)), some (.int (nI (cnt m i))), some (.int (nI i))] [] w n (Pu (.int (nI (cnt m 10))) w n) := by
    intro k
    induction k with
    | zero =>
      intro i hi
      have hii : i = 10 := by omega
      subst hii
      refine x_iload_n (pc := 4) dX7_manyOf_4 rfl ?_
      refine x_bipush (pc := 5) dX7_manyOf_5 (v := nI 10) (by decide) ?_
      refine x_icmp_ge_t (pc := 7) dX7_manyOf_7 (tgt := 24) (by decide) (nI_le (by omega) (by omega)) ?_
      refine x_iload_n (pc := 24) dX7_manyOf_24 rfl ?_
      refine x_iret (pc := 25) dX7_manyOf_25 rfl rfl ?_
      exact pu_n rfl
    | succ k ih =>
      intro i hi
      have hc : cnt m i + bN (m.testBit i) = cnt m (i + 1) := rfl
      refine x_iload_n (pc := 4) dX7_manyOf_4 rfl ?_
      refine x_bipush (pc := 5) dX7_manyOf_5 (v := nI 10) (by decide) ?_
      refine x_icmp_ge_f (pc := 7) dX7_manyOf_7 (tgt := 24) (by decide) (nI_ge (by omega) (by omega)) ?_
      refine x_iload_n (pc := 10) dX7_manyOf_10 rfl ?_
      refine x_iload_n (pc := 11) dX7_manyOf_11 rfl ?_
      refine x_iload_n (pc := 12) dX7_manyOf_12 rfl ?_
      first | refine xn_ishr (pc := 13) dX7_manyOf_13 (by omega) (by omega) ?_ | refine x_ishr (pc := 13) dX7_manyOf_13 ?_
      refine x_iconst (pc := 14) dX7_manyOf_14 (v := nI 1) (by decide) ?_
      first | refine xn_bit (pc := 15) dX7_manyOf_15 ?_ | refine xn_nd (pc := 15) dX7_manyOf_15 ?_ | refine xn_iand (pc := 15) dX7_manyOf_15 ?_ | refine x_iand (pc := 15) dX7_manyOf_15 ?_
      first | refine xn_iadd (pc := 16) dX7_manyOf_16 ?_ | refine x_iadd (pc := 16) dX7_manyOf_16 ?_
      refine x_istore_n (pc := 17) dX7_manyOf_17 rfl ?_
      refine xn_iinc (pc := 18) dX7_manyOf_18 rfl rfl ?_
      refine x_goto (pc := 21) dX7_manyOf_21 (tgt := 4) (by decide) ?_
      exact (by rw [← hc] at *; exact (hc ▸ ih (i + 1) (by omega)))
  refine x_iconst (pc := 0) dX7_manyOf_0 (v := nI 0) (by decide) ?_
  refine x_istore_n (pc := 1) dX7_manyOf_1 rfl ?_
  refine x_iconst (pc := 2) dX7_manyOf_2 (v := nI 0) (by decide) ?_
  refine x_istore_n (pc := 3) dX7_manyOf_3 rfl ?_
  exact loop 10 0 (by omega)
theorem m_couldHave {w : ax_W} {n : Nat} {C : Crt} (okc : okC C) {ty at_ so un ke rl : Int32} (hK : w 51 = om ty at_ so un ke rl) (hC : mR w C) {a : Nat} (ha : a < 10) : Run m_X7_couldHave 0 0 0 0 (l_ent m_X7_couldHave [.ref 51, .int (nI a)]) [] w n (Pu (.int (nI (whoS C a))) w n) := by
  have hn := okc.1
  have hp5 := okc.2.1
  obtain ⟨fm, fk, fc, fs, fh, fv, fp, fd, h53, h54, h55, h56, h57, h58, h59, h60, e1, e2, e3, e4, e5⟩ := hC
  have loop : ∀ m p, p + m = np C → Run m_X7_couldHave 0 0 0 4 [some (.ref 51), some (.int (nI a)), some (.int (nI (mkM (fun p => (de C p).testBit a) p))), some (.int (nI p))] [] w n (Pu (.int (nI (whoS C a))) w n) := by
    intro m
    induction m with
    | zero =>
      intro p hp
      have hpp : p = np C := by omega
      subst hpp
      refine x_iload_n (pc := 4) dX7_couldHave_4 rfl ?_
      refine x_aload_n (pc := 5) dX7_couldHave_5 rfl ?_
      refine x_getf (pc := 6) dX7_couldHave_6 kf_X7_32 (by first | assumption | exact hC.1 | exact hH.1 | exact hV0.1 | exact hT.1) (by rfl) ?_
      refine x_iconst (pc := 9) dX7_couldHave_9 (v := nI 0) (by decide) ?_
      refine xn_iald (pc := 10) dX7_couldHave_10 (by assumption) (by first | omega | assumption) (by rfl) ?_
      rw [e3]
      refine x_icmp_ge_t (pc := 11) dX7_couldHave_11 (tgt := 44) (by decide) (nI_le (by omega) (by omega)) ?_
      refine x_iload_n (pc := 44) dX7_couldHave_44 rfl ?_
      refine x_iret (pc := 45) dX7_couldHave_45 rfl rfl ?_
      exact pu_n rfl
    | succ m ih =>
      intro p hp
      have hd := okc.de (show p < np C by omega)
      refine x_iload_n (pc := 4) dX7_couldHave_4 rfl ?_
      refine x_aload_n (pc := 5) dX7_couldHave_5 rfl ?_
      refine x_getf (pc := 6) dX7_couldHave_6 kf_X7_32 (by first | assumption | exact hC.1 | exact hH.1 | exact hV0.1 | exact hT.1) (by rfl) ?_
      refine x_iconst (pc := 9) dX7_couldHave_9 (v := nI 0) (by decide) ?_
      refine xn_iald (pc := 10) dX7_couldHave_10 (by assumption) (by first | omega | assumption) (by rfl) ?_
      rw [e3]
      refine x_icmp_ge_f (pc := 11) dX7_couldHave_11 (tgt := 44) (by decide) (nI_ge (by omega) (by omega)) ?_
      refine x_iload_n (pc := 14) dX7_couldHave_14 rfl ?_
      refine x_aload_n (pc := 15) dX7_couldHave_15 rfl ?_
      refine x_getf (pc := 16) dX7_couldHave_16 kf_X7_35 (by first | assumption | exact hC.1 | exact hH.1 | exact hV0.1 | exact hT.1) (by rfl) ?_
      refine x_iload_n (pc := 19) dX7_couldHave_19 rfl ?_
      refine xn_iald (pc := 20) dX7_couldHave_20 (by assumption) (by first | omega | assumption) (by rfl) ?_
      rw [e5 p (by omega)]
      refine x_iload_n (pc := 21) dX7_couldHave_21 rfl ?_
      first | refine xn_ishr (pc := 22) dX7_couldHave_22 (by omega) (by omega) ?_ | refine x_ishr (pc := 22) dX7_couldHave_22 ?_
      refine x_iconst (pc := 23) dX7_couldHave_23 (v := nI 1) (by decide) ?_
      first | refine xn_bit (pc := 24) dX7_couldHave_24 ?_ | refine xn_nd (pc := 24) dX7_couldHave_24 ?_ | refine xn_iand (pc := 24) dX7_couldHave_24 ?_ | refine x_iand (pc := 24) dX7_couldHave_24 ?_
      refine x_iconst (pc := 25) dX7_couldHave_25 (v := nI 1) (by decide) ?_
      refine x_icmp_ne (pc := 26) dX7_couldHave_26 (tgt := 35) (by decide) (fun h_26 => ?_) (fun h_26 => ?_)
      · skip
        try first | rw [n_b1] at h_26 | rw [n_b00] at h_26 | rw [n_eq (by omega) (by omega)] at h_26
        have hb : (de C p).testBit a = false := by simpa using h_26
        have hs : mkM (fun p => (de C p).testBit a) (p + 1) = mkM (fun p => (de C p).testBit a) p ||| 0 := by simp [mkM, hb]
        refine x_iconst (pc := 35) dX7_couldHave_35 (v := nI 0) (by decide) ?_
        first | refine xn_ior (pc := 36) dX7_couldHave_36 ?_ | refine x_ior (pc := 36) dX7_couldHave_36 ?_
        refine x_istore_n (pc := 37) dX7_couldHave_37 rfl ?_
        refine xn_iinc (pc := 38) dX7_couldHave_38 rfl rfl ?_
        refine x_goto (pc := 41) dX7_couldHave_41 (tgt := 4) (by decide) ?_
        exact (by rw [← hs]; exact ih (p + 1) (by omega))
      · replace h_26 := Classical.not_not.mp h_26
        try first | rw [n_b1] at h_26 | rw [n_b00] at h_26 | rw [n_eq (by omega) (by omega)] at h_26
        have hb : (de C p).testBit a = true := by simpa using h_26
        have hs : mkM (fun p => (de C p).testBit a) (p + 1) = mkM (fun p => (de C p).testBit a) p ||| 2 ^ p := by simp [mkM, hb]
        refine x_iconst (pc := 29) dX7_couldHave_29 (v := nI 1) (by decide) ?_
        refine x_iload_n (pc := 30) dX7_couldHave_30 rfl ?_
        first | refine xn_shl1 (pc := 31) dX7_couldHave_31 (by omega) ?_ | refine xn_ishl (pc := 31) dX7_couldHave_31 (by omega) (by omega) ?_ | refine x_ishl (pc := 31) dX7_couldHave_31 ?_
        refine x_goto (pc := 32) dX7_couldHave_32 (tgt := 36) (by decide) ?_
        first | refine xn_ior (pc := 36) dX7_couldHave_36 ?_ | refine x_ior (pc := 36) dX7_couldHave_36 ?_
        refine x_istore_n (pc := 37) dX7_couldHave_37 rfl ?_
        refine xn_iinc (pc := 38) dX7_couldHave_38 rfl rfl ?_
        refine x_goto (pc := 41) dX7_couldHave_41 (tgt := 4) (by decide) ?_
        exact (by rw [← hs]; exact ih (p + 1) (by omega))
  refine x_iconst (pc := 0) dX7_couldHave_0 (v := nI 0) (by decide) ?_
  refine x_istore_n (pc := 1) dX7_couldHave_1 rfl ?_
  refine x_iconst (pc := 2) dX7_couldHave_2 (v := nI 0) (by decide) ?_
  refine x_istore_n (pc := 3) dX7_couldHave_3 rfl ?_
  exact loop (np C) 0 (by omega)
theorem rsI'_ne {b : Nat} (h : b < 1000) : ¬ nI b = -4 := by
  intro q
  have := congrArg (fun x : Int32 => x.toInt) q
  rw [show (nI b).toInt = (b : Int) from nI_toInt (by omega), show ((-4 : Int32)).toInt = -4 from by decide +kernel] at this
  omega
theorem m_cost {w : ax_W} {n : Nat} {C : Crt} (okc : okC C) {ty at_ so un ke rl : Int32} (hK : w 51 = om ty at_ so un ke rl) (hC : mR w C) {a far : Nat} (ha : a < cn C) (hfar : far < 1000) {z : Option Nat} (hz : ∀ b, z = some b → b < cn C) : Run m_X7_cost 0 0 0 0 (l_ent m_X7_cost [.ref 51, .int (nI a), .int (nI far), .int (rsI' z)]) [] w n (Pu (.int (nI (cst C z far a))) w n) := by
  have hn := okc.1
  have hka := okc.2.2.2.1 a ha
  obtain ⟨fm, fk, fc, fs, fh, fv, fp, fd, h53, h54, h55, h56, h57, h58, h59, h60, e1, e2, e3, e4, e5⟩ := hC
  obtain ⟨k1, k2, k3, k4⟩ := e4 a ha
  have hti : (nI (kd C a)).toInt = (kd C a : Nat) := nI_toInt (by omega)
  refine x_aload_n (pc := 0) dX7_cost_0 rfl ?_
  refine x_getf (pc := 1) dX7_cost_1 kf_X7_20 (by first | assumption | exact hC.1 | exact hH.1 | exact hV0.1 | exact hT.1) (by rfl) ?_
  refine x_iload_n (pc := 4) dX7_cost_4 rfl ?_
  refine xn_iald (pc := 5) dX7_cost_5 (by assumption) (by first | omega | assumption) (by rfl) ?_
  rw [k2]
  refine x_istore (pc := 6) dX7_cost_6 rfl ?_
  refine x_aload_n (pc := 8) dX7_cost_8 rfl ?_
  refine x_getf (pc := 9) dX7_cost_9 kf_X7_17 (by first | assumption | exact hC.1 | exact hH.1 | exact hV0.1 | exact hT.1) (by rfl) ?_
  refine x_iload_n (pc := 12) dX7_cost_12 rfl ?_
  refine xn_iald (pc := 13) dX7_cost_13 (by assumption) (by first | omega | assumption) (by rfl) ?_
  rw [k1]
  rcases (by omega : kd C a = 0 ∨ kd C a = 1 ∨ kd C a = 2 ∨ kd C a = 3 ∨ kd C a = 4) with hk | hk | hk | hk | hk
  · refine x_tableOut (pc := 14) dX7_cost_14 (tgt := 76) (by omega) (by decide) ?_
    refine x_iload (pc := 76) dX7_cost_76 rfl ?_
    refine x_iret (pc := 78) dX7_cost_78 rfl rfl ?_
    exact pu_n (by simp [cst, hk])
  · refine x_tableIn (pc := 14) dX7_cost_14 (tgt := 40) (off := 26) (by omega) (by omega) (by rw [hti, hk]; rfl) (by decide) ?_
    cases z with
    | none =>
      refine x_iload_n (pc := 40) dX7_cost_40 rfl ?_
      refine x_bipush (pc := 41) dX7_cost_41 (v := -4) (by decide) ?_
      refine x_icmp_eq_t (pc := 43) dX7_cost_43 (tgt := 63) (by decide) rfl ?_
      refine x_iload (pc := 63) dX7_cost_63 rfl ?_
      refine x_iret (pc := 65) dX7_cost_65 rfl rfl ?_
      exact pu_n (by simp [cst, hk])
    | some b =>
      have hb := hz b rfl
      have hkb := (okc.2.2.2.1 b hb).1
      refine x_iload_n (pc := 40) dX7_cost_40 rfl ?_
      refine x_bipush (pc := 41) dX7_cost_41 (v := -4) (by decide) ?_
      refine x_icmp_eq_f (pc := 43) dX7_cost_43 (tgt := 63) (by decide) (rsI'_ne (by omega)) ?_
      refine x_aload_n (pc := 46) dX7_cost_46 rfl ?_
      refine x_getf (pc := 47) dX7_cost_47 kf_X7_17 (by first | assumption | exact hC.1 | exact hH.1 | exact hV0.1 | exact hT.1) (by rfl) ?_
      refine x_iload_n (pc := 50) dX7_cost_50 rfl ?_
      refine xn_iald (pc := 51) dX7_cost_51 (by assumption) (by first | omega | assumption) (by rfl) ?_
      rw [(e4 b hb).1]
      refine x_iconst (pc := 52) dX7_cost_52 (v := nI 1) (by decide) ?_
      refine x_icmp_ne (pc := 53) dX7_cost_53 (tgt := 63) (by decide) (fun h_53 => ?_) (fun h_53 => ?_)
      · skip
        try first | rw [n_b1] at h_53 | rw [n_b00] at h_53 | rw [n_eq (by omega) (by omega)] at h_53
        have e : cst C (some b) far a = co C a := by simp [cst, hk, h_53]
        refine x_iload (pc := 63) dX7_cost_63 rfl ?_
        refine x_iret (pc := 65) dX7_cost_65 rfl rfl ?_
        exact pu_n e.symm
      · replace h_53 := Classical.not_not.mp h_53
        try first | rw [n_b1] at h_53 | rw [n_b00] at h_53 | rw [n_eq (by omega) (by omega)] at h_53
        have e : cst C (some b) far a = co C a + 2 := by simp [cst, hk, h_53]
        refine x_iload (pc := 56) dX7_cost_56 rfl ?_
        refine x_iconst (pc := 58) dX7_cost_58 (v := nI 2) (by decide) ?_
        first | refine xn_iadd (pc := 59) dX7_cost_59 ?_ | refine x_iadd (pc := 59) dX7_cost_59 ?_
        refine x_goto (pc := 60) dX7_cost_60 (tgt := 65) (by decide) ?_
        refine x_iret (pc := 65) dX7_cost_65 rfl rfl ?_
        exact pu_n e.symm
  · refine x_tableIn (pc := 14) dX7_cost_14 (tgt := 66) (off := 52) (by omega) (by omega) (by rw [hti, hk]; rfl) (by decide) ?_
    refine x_iconst (pc := 66) dX7_cost_66 (v := nI 2) (by decide) ?_
    refine x_iload (pc := 67) dX7_cost_67 rfl ?_
    first | refine xn_imul (pc := 69) dX7_cost_69 ?_ | refine x_imul (pc := 69) dX7_cost_69 ?_
    refine x_iret (pc := 70) dX7_cost_70 rfl rfl ?_
    exact pu_n (by simp [cst, hk])
  · refine x_tableIn (pc := 14) dX7_cost_14 (tgt := 71) (off := 57) (by omega) (by omega) (by rw [hti, hk]; rfl) (by decide) ?_
    refine x_iload (pc := 71) dX7_cost_71 rfl ?_
    refine x_iload_n (pc := 73) dX7_cost_73 rfl ?_
    first | refine xn_iadd (pc := 74) dX7_cost_74 ?_ | refine x_iadd (pc := 74) dX7_cost_74 ?_
    refine x_iret (pc := 75) dX7_cost_75 rfl rfl ?_
    exact pu_n (by simp [cst, hk])
  · refine x_tableOut (pc := 14) dX7_cost_14 (tgt := 76) (by omega) (by decide) ?_
    refine x_iload (pc := 76) dX7_cost_76 rfl ?_
    refine x_iret (pc := 78) dX7_cost_78 rfl rfl ?_
    exact pu_n (by simp [cst, hk])
theorem m_who {w : ax_W} {n : Nat} {T : List Nat} {C : Crt} {h : Hrg} {L K : List Hrg} (hm : isM w T C h L K) (ok : okX T C h L K) (x : Int32) : Run m_X7_who 2 0 0 0 (l_ent m_X7_who [.ref 51, .int x]) [] w n (PM (whI C x) T C h L K w n) := by
  have hm0 := hm
  obtain ⟨a, s, r, D, h1, h2, h3, hK, ht, hC, hN, hD⟩ := hm
  have okc := ok.2.1
  have hn := okc.1
  rcases inB_cases x (n := cn C) (by omega) with hb | ⟨a, ha, rfl⟩
  · have e : whI C x = -1 := by unfold whI ntB; rw [hb]; rfl
    refine x_aload_n (pc := 0) dX7_who_0 rfl ?_
    refine x_iload_n (pc := 1) dX7_who_1 rfl ?_
    refine x_cv1p (ci := 7) (pc := 2) dX7_who_2 ks_X7_124 (by first | assumption | exact hC.1 | exact hH.1 | exact hV0.1 | exact hT.1) (by rfl) (by omega) (by rfl) (by rfl) (by rfl) (c_m_isStatement okc hK hC _) ?_
    refine x_if_eq (pc := 5) dX7_who_5 (tgt := 26) (by decide) (fun h_5 => ?_) (fun h_5 => ?_)
    · skip
      try first | rw [n_b0] at h_5 | rw [n_eq0 (by omega)] at h_5
      refine x_iconst (pc := 26) dX7_who_26 (v := -1) (by decide) ?_
      refine x_iret (pc := 27) dX7_who_27 rfl rfl ?_
      exact va_i ⟨by rw [e], hm0, fun _ _ => rfl⟩
    · skip
      try first | rw [n_b0] at h_5 | rw [n_eq0 (by omega)] at h_5
      rw [hb] at h_5; exact absurd rfl h_5
  · have hb : inB (nI a) (cn C) = true := by rw [inB_n (by omega) (by omega)]; simpa using ha
    have hcl : (nI a).toNatClampNeg = a := n_cl (by omega)
    have hkd := (okc.2.2.2.1 a ha).1
    have hR := hC.R
    obtain ⟨fm, fk, fc, fs, fh, fv, fp, fd, h53, h54, h55, h56, h57, h58, h59, h60, e1, e2, e3, e4, e5⟩ := id hR
    refine x_aload_n (pc := 0) dX7_who_0 rfl ?_
    refine x_iload_n (pc := 1) dX7_who_1 rfl ?_
    refine x_cv1p (ci := 7) (pc := 2) dX7_who_2 ks_X7_124 (by first | assumption | exact hC.1 | exact hH.1 | exact hV0.1 | exact hT.1) (by rfl) (by omega) (by rfl) (by rfl) (by rfl) (c_m_isStatement okc hK hC _) ?_
    refine x_if_eq (pc := 5) dX7_who_5 (tgt := 26) (by decide) (fun h_5 => ?_) (fun h_5 => ?_)
    · skip
      try first | rw [n_b0] at h_5 | rw [n_eq0 (by omega)] at h_5
      rw [hb] at h_5; cases h_5
    · skip
      try first | rw [n_b0] at h_5 | rw [n_eq0 (by omega)] at h_5
      refine x_aload_n (pc := 8) dX7_who_8 rfl ?_
      refine x_getf (pc := 9) dX7_who_9 kf_X7_17 (by first | assumption | exact hC.1 | exact hH.1 | exact hV0.1 | exact hT.1) (by rfl) ?_
      refine x_iload_n (pc := 12) dX7_who_12 rfl ?_
      refine xn_iald (pc := 13) dX7_who_13 (by assumption) (by first | omega | assumption) (by rfl) ?_
      rw [(e4 a ha).1]
      refine x_iconst (pc := 14) dX7_who_14 (v := nI 4) (by decide) ?_
      refine x_icmp_ne (pc := 15) dX7_who_15 (tgt := 26) (by decide) (fun h_15 => ?_) (fun h_15 => ?_)
      · skip
        try first | rw [n_b1] at h_15 | rw [n_b00] at h_15 | rw [n_eq (by omega) (by omega)] at h_15
        have e : whI C (nI a) = -1 := by unfold whI; rw [ntB_n okc ha, if_neg (by simpa using h_15)]
        refine x_iconst (pc := 26) dX7_who_26 (v := -1) (by decide) ?_
        refine x_iret (pc := 27) dX7_who_27 rfl rfl ?_
        exact va_i ⟨by rw [e], hm0, fun _ _ => rfl⟩
      · replace h_15 := Classical.not_not.mp h_15
        try first | rw [n_b1] at h_15 | rw [n_b00] at h_15 | rw [n_eq (by omega) (by omega)] at h_15
        have e : whI C (nI a) = nI (whoS C a) := by unfold whI; rw [ntB_n okc ha, if_pos (by simpa using h_15), hcl]
        refine x_aload_n (pc := 18) dX7_who_18 rfl ?_
        refine x_iload_n (pc := 19) dX7_who_19 rfl ?_
        refine x_cv1p (ci := 7) (pc := 20) dX7_who_20 ks_X7_145 (by first | assumption | exact hC.1 | exact hH.1 | exact hV0.1 | exact hT.1) (by rfl) (by omega) (by rfl) (by rfl) (by rfl) (m_couldHave okc hK hR (by omega)) ?_
        refine x_goto (pc := 23) dX7_who_23 (tgt := 27) (by decide) ?_
        refine x_iret (pc := 27) dX7_who_27 rfl rfl ?_
        exact va_i ⟨by rw [e], hm0, fun _ _ => rfl⟩
theorem m_argued {w : ax_W} {n : Nat} {T : List Nat} {C : Crt} {h : Hrg} {L K : List Hrg} (hm : isM w T C h L K) (ok : okX T C h L K) (x : Int32) : Run m_X7_argued 1 0 0 0 (l_ent m_X7_argued [.ref 51, .int x]) [] w n (PM (agS h x) T C h L K w n) := by
  have hm0 := hm
  obtain ⟨a, s, r, D, h1, h2, h3, hK, ht, hC, ⟨f, h61, hr, hL, hKK⟩, hD⟩ := hm
  have hl := ok.hl
  obtain ⟨r0, r1, r2⟩ := hr.row
  rcases inB_cases x (n := h.1.length) (by omega) with hb | ⟨a, ha, rfl⟩
  · refine x_iload_n (pc := 0) dX7_argued_0 rfl ?_
    refine x_iconst (pc := 1) dX7_argued_1 (v := nI 0) (by decide) ?_
    refine x_aload_n (pc := 2) dX7_argued_2 rfl ?_
    refine x_getf (pc := 3) dX7_argued_3 kf_X7_38 (by first | assumption | exact hC.1 | exact hH.1 | exact hV0.1 | exact hT.1) (by rfl) ?_
    refine x_iconst (pc := 6) dX7_argued_6 (v := nI 0) (by decide) ?_
    refine xn_iald (pc := 7) dX7_argued_7 (by assumption) (by first | omega | assumption) (by rfl) ?_
    rw [r0]
    refine x_iconst (pc := 8) dX7_argued_8 (v := nI 1) (by decide) ?_
    refine x_isub (pc := 9) dX7_argued_9 ?_
    refine x_cs3p (pc := 10) dX7_argued_10 ks_X7_82 (by omega) (by rfl) (by rfl) (by rfl) (c_in _ _ _) ?_
    rw [inI_m _ (by omega), hb]
    refine x_if_eq_t (pc := 13) dX7_argued_13 (tgt := 27) (by decide) rfl ?_
    refine x_iconst (pc := 27) dX7_argued_27 (v := -1) (by decide) ?_
    refine x_iret (pc := 28) dX7_argued_28 rfl rfl ?_
    exact va_i ⟨by rw [agS, if_neg (by rw [hb]; decide)], hm0, fun _ _ => rfl⟩
  · have hb : inB (nI a) h.1.length = true := by rw [inB_n (by omega) (by omega)]; simpa using ha
    have hcl : (nI a).toNatClampNeg = a := n_cl (by omega)
    refine x_iload_n (pc := 0) dX7_argued_0 rfl ?_
    refine x_iconst (pc := 1) dX7_argued_1 (v := nI 0) (by decide) ?_
    refine x_aload_n (pc := 2) dX7_argued_2 rfl ?_
    refine x_getf (pc := 3) dX7_argued_3 kf_X7_38 (by first | assumption | exact hC.1 | exact hH.1 | exact hV0.1 | exact hT.1) (by rfl) ?_
    refine x_iconst (pc := 6) dX7_argued_6 (v := nI 0) (by decide) ?_
    refine xn_iald (pc := 7) dX7_argued_7 (by assumption) (by first | omega | assumption) (by rfl) ?_
    rw [r0]
    refine x_iconst (pc := 8) dX7_argued_8 (v := nI 1) (by decide) ?_
    refine x_isub (pc := 9) dX7_argued_9 ?_
    refine x_cs3p (pc := 10) dX7_argued_10 ks_X7_82 (by omega) (by rfl) (by rfl) (by rfl) (c_in _ _ _) ?_
    rw [inI_m _ (by omega), hb]
    refine x_if_eq_f (pc := 13) dX7_argued_13 (tgt := 27) (by decide) (by decide +kernel) ?_
    refine x_aload_n (pc := 16) dX7_argued_16 rfl ?_
    refine x_getf (pc := 17) dX7_argued_17 kf_X7_38 (by first | assumption | exact hC.1 | exact hH.1 | exact hV0.1 | exact hT.1) (by rfl) ?_
    refine x_iconst (pc := 20) dX7_argued_20 (v := nI 2) (by decide) ?_
    refine x_iload_n (pc := 21) dX7_argued_21 rfl ?_
    first | refine xn_iadd (pc := 22) dX7_argued_22 ?_ | refine x_iadd (pc := 22) dX7_argued_22 ?_
    refine xn_iald (pc := 23) dX7_argued_23 (by assumption) (by first | omega | assumption) (by rfl) ?_
    rw [r2 a ha]
    refine x_goto (pc := 24) dX7_argued_24 (tgt := 28) (by decide) ?_
    refine x_iret (pc := 28) dX7_argued_28 rfl rfl ?_
    exact va_i ⟨by rw [agS, if_pos hb, hcl], hm0, fun _ _ => rfl⟩
theorem m_statement {w : ax_W} {n : Nat} {T : List Nat} {C : Crt} {h : Hrg} {L K : List Hrg} (hm : isM w T C h L K) (ok : okX T C h L K) (x y : Int32) : Run m_X7_statement 2 0 0 0 (l_ent m_X7_statement [.ref 51, .int x, .int y]) [] w n (PM (stS C h x y) T C h L K w n) := by
  have hm0 := hm
  obtain ⟨a, s, r, D, h1, h2, h3, hK, ht, hC, ⟨f, h61, hr, hL, hKK⟩, hD⟩ := hm
  have okc := ok.2.1
  have hn := okc.1
  have hv := okc.vd
  have hsk := ok.2.2.1.sk okc
  obtain ⟨r0, r1, r2⟩ := hr.row
  rcases inB_cases x (n := cn C) (by omega) with hb | ⟨a, ha, rfl⟩
  · refine x_aload_n (pc := 0) dX7_statement_0 rfl ?_
    refine x_iload_n (pc := 1) dX7_statement_1 rfl ?_
    refine x_cv1p (ci := 7) (pc := 2) dX7_statement_2 ks_X7_124 (by first | assumption | exact hC.1 | exact hH.1 | exact hV0.1 | exact hT.1) (by rfl) (by omega) (by rfl) (by rfl) (by rfl) (c_m_isStatement okc hK hC _) ?_
    refine x_if_ne (pc := 5) dX7_statement_5 (tgt := 10) (by decide) (fun h_5 => ?_) (fun h_5 => ?_)
    · skip
      try first | rw [n_b0] at h_5 | rw [n_eq0 (by omega)] at h_5
      exact absurd hb h_5
    · replace h_5 := Classical.not_not.mp h_5
      try first | rw [n_b0] at h_5 | rw [n_eq0 (by omega)] at h_5
      refine x_iconst (pc := 8) dX7_statement_8 (v := -1) (by decide) ?_
      refine x_iret (pc := 9) dX7_statement_9 rfl rfl ?_
      exact va_i ⟨by rw [stS, if_neg (by rw [hb]; decide)], hm0, fun _ _ => rfl⟩
  · have hb : inB (nI a) (cn C) = true := by rw [inB_n (by omega) (by omega)]; simpa using ha
    have hcl : (nI a).toNatClampNeg = a := n_cl (by omega)
    obtain ⟨fm, fk, fc, fs, fh, fv, fp, fd, h53, h54, h55, h56, h57, h58, h59, h60, e1, e2, e3, e4, e5⟩ := hC.R
    obtain ⟨k1, k2, k3, k4⟩ := e4 a ha
    refine x_aload_n (pc := 0) dX7_statement_0 rfl ?_
    refine x_iload_n (pc := 1) dX7_statement_1 rfl ?_
    refine x_cv1p (ci := 7) (pc := 2) dX7_statement_2 ks_X7_124 (by first | assumption | exact hC.1 | exact hH.1 | exact hV0.1 | exact hT.1) (by rfl) (by omega) (by rfl) (by rfl) (by rfl) (c_m_isStatement okc hK hC _) ?_
    refine x_if_ne (pc := 5) dX7_statement_5 (tgt := 10) (by decide) (fun h_5 => ?_) (fun h_5 => ?_)
    · skip
      try first | rw [n_b0] at h_5 | rw [n_eq0 (by omega)] at h_5
      refine x_iload_n (pc := 10) dX7_statement_10 rfl ?_
      rcases sw_cases y 6 (by decide) with ⟨i, hi, rfl⟩ | hout
      · rcases (by omega : i = 0 ∨ i = 1 ∨ i = 2 ∨ i = 3 ∨ i = 4 ∨ i = 5) with rfl | rfl | rfl | rfl | rfl | rfl
        · refine x_tableIn (pc := 11) dX7_statement_11 (tgt := 48) (off := 37) (by decide +kernel) (by decide +kernel) (by decide +kernel) (by decide) ?_
          refine x_aload_n (pc := 48) dX7_statement_48 rfl ?_
          refine x_getf (pc := 49) dX7_statement_49 kf_X7_17 (by first | assumption | exact hC.1 | exact hH.1 | exact hV0.1 | exact hT.1) (by rfl) ?_
          refine x_iload_n (pc := 52) dX7_statement_52 rfl ?_
          refine xn_iald (pc := 53) dX7_statement_53 (by assumption) (by first | omega | assumption) (by rfl) ?_
          rw [k1]
          refine x_iret (pc := 54) dX7_statement_54 rfl rfl ?_
          exact va_i ⟨by rw [stS, if_pos hb, if_pos rfl, hcl], hm0, fun _ _ => rfl⟩
        · refine x_tableIn (pc := 11) dX7_statement_11 (tgt := 55) (off := 44) (by decide +kernel) (by decide +kernel) (by decide +kernel) (by decide) ?_
          refine x_aload_n (pc := 55) dX7_statement_55 rfl ?_
          refine x_getf (pc := 56) dX7_statement_56 kf_X7_20 (by first | assumption | exact hC.1 | exact hH.1 | exact hV0.1 | exact hT.1) (by rfl) ?_
          refine x_iload_n (pc := 59) dX7_statement_59 rfl ?_
          refine xn_iald (pc := 60) dX7_statement_60 (by assumption) (by first | omega | assumption) (by rfl) ?_
          rw [k2]
          refine x_iret (pc := 61) dX7_statement_61 rfl rfl ?_
          exact va_i ⟨by rw [stS, if_pos hb, if_neg (by decide +kernel), if_pos rfl, hcl], hm0, fun _ _ => rfl⟩
        · refine x_tableIn (pc := 11) dX7_statement_11 (tgt := 62) (off := 51) (by decide +kernel) (by decide +kernel) (by decide +kernel) (by decide) ?_
          refine x_aload_n (pc := 62) dX7_statement_62 rfl ?_
          refine x_getf (pc := 63) dX7_statement_63 kf_X7_23 (by first | assumption | exact hC.1 | exact hH.1 | exact hV0.1 | exact hT.1) (by rfl) ?_
          refine x_iload_n (pc := 66) dX7_statement_66 rfl ?_
          refine xn_iald (pc := 67) dX7_statement_67 (by assumption) (by first | omega | assumption) (by rfl) ?_
          rw [k3]
          refine x_iret (pc := 68) dX7_statement_68 rfl rfl ?_
          exact va_i ⟨by rw [stS, if_pos hb, if_neg (by decide +kernel), if_neg (by decide +kernel), if_pos rfl, hcl], hm0, fun _ _ => rfl⟩
        · refine x_tableIn (pc := 11) dX7_statement_11 (tgt := 69) (off := 58) (by decide +kernel) (by decide +kernel) (by decide +kernel) (by decide) ?_
          refine x_aload_n (pc := 69) dX7_statement_69 rfl ?_
          refine x_getf (pc := 70) dX7_statement_70 kf_X7_29 (by first | assumption | exact hC.1 | exact hH.1 | exact hV0.1 | exact hT.1) (by rfl) ?_
          refine x_iconst (pc := 73) dX7_statement_73 (v := nI 0) (by decide) ?_
          refine xn_iald (pc := 74) dX7_statement_74 (by assumption) (by first | omega | assumption) (by rfl) ?_
          rw [e2]
          refine x_iload_n (pc := 75) dX7_statement_75 rfl ?_
          first | refine xn_ishr (pc := 76) dX7_statement_76 (by omega) (by omega) ?_ | refine x_ishr (pc := 76) dX7_statement_76 ?_
          refine x_iconst (pc := 77) dX7_statement_77 (v := nI 1) (by decide) ?_
          first | refine xn_bit (pc := 78) dX7_statement_78 ?_ | refine xn_nd (pc := 78) dX7_statement_78 ?_ | refine xn_iand (pc := 78) dX7_statement_78 ?_ | refine x_iand (pc := 78) dX7_statement_78 ?_
          refine x_iret (pc := 79) dX7_statement_79 rfl rfl ?_
          exact va_i ⟨by rw [stS, if_pos hb, if_neg (by decide +kernel), if_neg (by decide +kernel), if_neg (by decide +kernel), if_pos rfl, hcl], hm0, fun _ _ => rfl⟩
        · refine x_tableIn (pc := 11) dX7_statement_11 (tgt := 80) (off := 69) (by decide +kernel) (by decide +kernel) (by decide +kernel) (by decide) ?_
          refine x_aload_n (pc := 80) dX7_statement_80 rfl ?_
          refine x_getf (pc := 81) dX7_statement_81 kf_X7_26 (by first | assumption | exact hC.1 | exact hH.1 | exact hV0.1 | exact hT.1) (by rfl) ?_
          refine x_iload_n (pc := 84) dX7_statement_84 rfl ?_
          refine xn_iald (pc := 85) dX7_statement_85 (by assumption) (by first | omega | assumption) (by rfl) ?_
          rw [k4]
          refine x_iret (pc := 86) dX7_statement_86 rfl rfl ?_
          exact va_i ⟨by rw [stS, if_pos hb, if_neg (by decide +kernel), if_neg (by decide +kernel), if_neg (by decide +kernel), if_neg (by decide +kernel), if_pos rfl, hcl], hm0, fun _ _ => rfl⟩
        · refine x_tableIn (pc := 11) dX7_statement_11 (tgt := 87) (off := 76) (by decide +kernel) (by decide +kernel) (by decide +kernel) (by decide) ?_
          refine x_aload_n (pc := 87) dX7_statement_87 rfl ?_
          refine x_getf (pc := 88) dX7_statement_88 kf_X7_38 (by first | assumption | exact hC.1 | exact hH.1 | exact hV0.1 | exact hT.1) (by rfl) ?_
          refine x_iconst (pc := 91) dX7_statement_91 (v := nI 1) (by decide) ?_
          refine xn_iald (pc := 92) dX7_statement_92 (by assumption) (by first | omega | assumption) (by rfl) ?_
          rw [r1]
          refine x_iload_n (pc := 93) dX7_statement_93 rfl ?_
          first | refine xn_ishr (pc := 94) dX7_statement_94 (by omega) (by omega) ?_ | refine x_ishr (pc := 94) dX7_statement_94 ?_
          refine x_iconst (pc := 95) dX7_statement_95 (v := nI 1) (by decide) ?_
          first | refine xn_bit (pc := 96) dX7_statement_96 ?_ | refine xn_nd (pc := 96) dX7_statement_96 ?_ | refine xn_iand (pc := 96) dX7_statement_96 ?_ | refine x_iand (pc := 96) dX7_statement_96 ?_
          refine x_iret (pc := 97) dX7_statement_97 rfl rfl ?_
          exact va_i ⟨by rw [stS, if_pos hb, if_neg (by decide +kernel), if_neg (by decide +kernel), if_neg (by decide +kernel), if_neg (by decide +kernel), if_neg (by decide +kernel), if_pos rfl, hcl], hm0, fun _ _ => rfl⟩
      · refine x_tableOut (pc := 11) dX7_statement_11 (tgt := 98) hout (by decide) ?_
        refine x_iconst (pc := 98) dX7_statement_98 (v := -1) (by decide) ?_
        refine x_iret (pc := 99) dX7_statement_99 rfl rfl ?_
        exact va_i ⟨by rw [stS, if_pos hb, if_neg (sw_ne hout (by decide) (by decide)), if_neg (sw_ne hout (by decide) (by decide)), if_neg (sw_ne hout (by decide) (by decide)), if_neg (sw_ne hout (by decide) (by decide)), if_neg (sw_ne hout (by decide) (by decide)), if_neg (sw_ne hout (by decide) (by decide))], hm0, fun _ _ => rfl⟩
    · replace h_5 := Classical.not_not.mp h_5
      try first | rw [n_b0] at h_5 | rw [n_eq0 (by omega)] at h_5
      rw [hb] at h_5; cases h_5
theorem m_count {w : ax_W} {n : Nat} {T : List Nat} {C : Crt} {h : Hrg} {L K : List Hrg} (hm : isM w T C h L K) (ok : okX T C h L K) (x : Int32) : Run m_X7_count 1 0 0 0 (l_ent m_X7_count [.ref 51, .int x]) [] w n (PM (ctS T C h L K x) T C h L K w n) := by
  have hm0 := hm
  obtain ⟨a, s, r, D, h1, h2, h3, hK, ht, hC, ⟨f, h61, hr, hL, hKK⟩, hD⟩ := hm
  have okc := ok.2.1
  have hv := okc.vd
  have hsk := ok.2.2.1.sk okc
  obtain ⟨r0, r1, r2⟩ := hr.row
  obtain ⟨fm, fk, fc, fs, fh, fv, fp, fd, h53, h54, h55, h56, h57, h58, h59, h60, e1, e2, e3, e4, e5⟩ := hC.R
  refine x_iload_n (pc := 0) dX7_count_0 rfl ?_
  rcases sw_cases x 8 (by decide) with ⟨i, hi, rfl⟩ | hout
  · rcases (by omega : i = 0 ∨ i = 1 ∨ i = 2 ∨ i = 3 ∨ i = 4 ∨ i = 5 ∨ i = 6 ∨ i = 7) with rfl | rfl | rfl | rfl | rfl | rfl | rfl | rfl
    · refine x_tableIn (pc := 1) dX7_count_1 (tgt := 48) (off := 47) (by decide +kernel) (by decide +kernel) (by decide +kernel) (by decide) ?_
      refine x_aload_n (pc := 48) dX7_count_48 rfl ?_
      refine x_getf (pc := 49) dX7_count_49 kf_X7_13 (by first | assumption | exact hC.1 | exact hH.1 | exact hV0.1 | exact hT.1) (by rfl) ?_
      refine x_iconst (pc := 52) dX7_count_52 (v := nI 0) (by decide) ?_
      refine xn_iald (pc := 53) dX7_count_53 (by assumption) (by first | omega | assumption) (by rfl) ?_
      rw [e1]
      refine x_iret (pc := 54) dX7_count_54 rfl rfl ?_
      exact va_i ⟨by rw [ctS, if_pos rfl], hm0, fun _ _ => rfl⟩
    · refine x_tableIn (pc := 1) dX7_count_1 (tgt := 55) (off := 54) (by decide +kernel) (by decide +kernel) (by decide +kernel) (by decide) ?_
      refine x_aload_n (pc := 55) dX7_count_55 rfl ?_
      refine x_getf (pc := 56) dX7_count_56 kf_X7_29 (by first | assumption | exact hC.1 | exact hH.1 | exact hV0.1 | exact hT.1) (by rfl) ?_
      refine x_iconst (pc := 59) dX7_count_59 (v := nI 0) (by decide) ?_
      refine xn_iald (pc := 60) dX7_count_60 (by assumption) (by first | omega | assumption) (by rfl) ?_
      rw [e2]
      refine x_cs1p (pc := 61) dX7_count_61 ks_X7_148 (by omega) (by rfl) (by rfl) (by rfl) (m_manyOf (by omega)) ?_
      refine x_iret (pc := 64) dX7_count_64 rfl rfl ?_
      exact va_i ⟨by rw [ctS, if_neg (by decide +kernel), if_pos rfl], hm0, fun _ _ => rfl⟩
    · refine x_tableIn (pc := 1) dX7_count_1 (tgt := 65) (off := 64) (by decide +kernel) (by decide +kernel) (by decide +kernel) (by decide) ?_
      refine x_aload_n (pc := 65) dX7_count_65 rfl ?_
      refine x_getf (pc := 66) dX7_count_66 kf_X7_32 (by first | assumption | exact hC.1 | exact hH.1 | exact hV0.1 | exact hT.1) (by rfl) ?_
      refine x_iconst (pc := 69) dX7_count_69 (v := nI 0) (by decide) ?_
      refine xn_iald (pc := 70) dX7_count_70 (by assumption) (by first | omega | assumption) (by rfl) ?_
      rw [e3]
      refine x_iret (pc := 71) dX7_count_71 rfl rfl ?_
      exact va_i ⟨by rw [ctS, if_neg (by decide +kernel), if_neg (by decide +kernel), if_pos rfl], hm0, fun _ _ => rfl⟩
    · refine x_tableIn (pc := 1) dX7_count_1 (tgt := 72) (off := 71) (by decide +kernel) (by decide +kernel) (by decide +kernel) (by decide) ?_
      refine x_aload_n (pc := 72) dX7_count_72 rfl ?_
      refine x_getf (pc := 73) dX7_count_73 kf_X7_38 (by first | assumption | exact hC.1 | exact hH.1 | exact hV0.1 | exact hT.1) (by rfl) ?_
      refine x_iconst (pc := 76) dX7_count_76 (v := nI 0) (by decide) ?_
      refine xn_iald (pc := 77) dX7_count_77 (by assumption) (by first | omega | assumption) (by rfl) ?_
      rw [r0]
      refine x_iret (pc := 78) dX7_count_78 rfl rfl ?_
      exact va_i ⟨by rw [ctS, if_neg (by decide +kernel), if_neg (by decide +kernel), if_neg (by decide +kernel), if_pos rfl], hm0, fun _ _ => rfl⟩
    · refine x_tableIn (pc := 1) dX7_count_1 (tgt := 79) (off := 78) (by decide +kernel) (by decide +kernel) (by decide +kernel) (by decide) ?_
      refine x_aload_n (pc := 79) dX7_count_79 rfl ?_
      refine x_getf (pc := 80) dX7_count_80 kf_X7_38 (by first | assumption | exact hC.1 | exact hH.1 | exact hV0.1 | exact hT.1) (by rfl) ?_
      refine x_iconst (pc := 83) dX7_count_83 (v := nI 1) (by decide) ?_
      refine xn_iald (pc := 84) dX7_count_84 (by assumption) (by first | omega | assumption) (by rfl) ?_
      rw [r1]
      refine x_cs1p (pc := 85) dX7_count_85 ks_X7_148 (by omega) (by rfl) (by rfl) (by rfl) (m_manyOf (by omega)) ?_
      refine x_iret (pc := 88) dX7_count_88 rfl rfl ?_
      exact va_i ⟨by rw [ctS, if_neg (by decide +kernel), if_neg (by decide +kernel), if_neg (by decide +kernel), if_neg (by decide +kernel), if_pos rfl], hm0, fun _ _ => rfl⟩
    · refine x_tableIn (pc := 1) dX7_count_1 (tgt := 89) (off := 88) (by decide +kernel) (by decide +kernel) (by decide +kernel) (by decide) ?_
      refine x_aload_n (pc := 89) dX7_count_89 rfl ?_
      refine x_getf (pc := 90) dX7_count_90 kf_X7_112 (by first | assumption | exact hC.1 | exact hH.1 | exact hV0.1 | exact hT.1) (by rfl) ?_
      refine x_iret (pc := 93) dX7_count_93 rfl rfl ?_
      exact va_i ⟨by rw [ctS, if_neg (by decide +kernel), if_neg (by decide +kernel), if_neg (by decide +kernel), if_neg (by decide +kernel), if_neg (by decide +kernel), if_pos rfl], hm0, fun _ _ => rfl⟩
    · refine x_tableIn (pc := 1) dX7_count_1 (tgt := 94) (off := 93) (by decide +kernel) (by decide +kernel) (by decide +kernel) (by decide) ?_
      refine x_aload_n (pc := 94) dX7_count_94 rfl ?_
      refine x_getf (pc := 95) dX7_count_95 kf_X7_115 (by first | assumption | exact hC.1 | exact hH.1 | exact hV0.1 | exact hT.1) (by rfl) ?_
      refine x_iret (pc := 98) dX7_count_98 rfl rfl ?_
      exact va_i ⟨by rw [ctS, if_neg (by decide +kernel), if_neg (by decide +kernel), if_neg (by decide +kernel), if_neg (by decide +kernel), if_neg (by decide +kernel), if_neg (by decide +kernel), if_pos rfl], hm0, fun _ _ => rfl⟩
    · refine x_tableIn (pc := 1) dX7_count_1 (tgt := 99) (off := 98) (by decide +kernel) (by decide +kernel) (by decide +kernel) (by decide) ?_
      refine x_aload_n (pc := 99) dX7_count_99 rfl ?_
      refine x_getf (pc := 100) dX7_count_100 kf_X7_86 (by first | assumption | exact hC.1 | exact hH.1 | exact hV0.1 | exact hT.1) (by rfl) ?_
      refine x_iret (pc := 103) dX7_count_103 rfl rfl ?_
      exact va_i ⟨by rw [ctS, if_neg (by decide +kernel), if_neg (by decide +kernel), if_neg (by decide +kernel), if_neg (by decide +kernel), if_neg (by decide +kernel), if_neg (by decide +kernel), if_neg (by decide +kernel), if_pos rfl], hm0, fun _ _ => rfl⟩
  · refine x_tableOut (pc := 1) dX7_count_1 (tgt := 104) hout (by decide) ?_
    refine x_iconst (pc := 104) dX7_count_104 (v := -1) (by decide) ?_
    refine x_iret (pc := 105) dX7_count_105 rfl rfl ?_
    exact va_i ⟨by rw [ctS, if_neg (sw_ne hout (by decide) (by decide)), if_neg (sw_ne hout (by decide) (by decide)), if_neg (sw_ne hout (by decide) (by decide)), if_neg (sw_ne hout (by decide) (by decide)), if_neg (sw_ne hout (by decide) (by decide)), if_neg (sw_ne hout (by decide) (by decide)), if_neg (sw_ne hout (by decide) (by decide)), if_neg (sw_ne hout (by decide) (by decide))], hm0, fun _ _ => rfl⟩
theorem m_trial {w : ax_W} {n : Nat} {T : List Nat} {C : Crt} {h : Hrg} {L K : List Hrg} (hm : isM w T C h L K) (ok : okX T C h L K) (x : Int32) : Run m_X7_trial 2 0 0 0 (l_ent m_X7_trial [.ref 51, .int x]) [] w n (PM (trS C h x) T C h L K w n) := by
  have hm0 := hm
  obtain ⟨a, s, r, D, h1, h2, h3, hK, ht, hC, ⟨f, h61, hr, hL, hKK⟩, hD⟩ := hm
  have okc := ok.2.1
  have okh := ok.2.2.1
  have hn := okc.1
  have hl := ok.hl
  have hnx := nxS_1024 okc okh
  have hR := hC.R
  obtain ⟨r0, r1, r2⟩ := hr.row
  obtain ⟨fm, fk, fc, fs, fh, fv, fp, fd, h53, h54, h55, h56, h57, h58, h59, h60, e1, e2, e3, e4, e5⟩ := id hR
  have hin : inI x (nI 0) (nI 2) = inB x 3 := inI_r x (by omega)
  rcases inB_cases x (n := 3) (by omega) with hb | ⟨i, hi, rfl⟩
  · have hne : ∀ i, i < 3 → ¬ x = nI i := fun i hi q => by rw [q, inB_n (by omega) (by omega)] at hb; exact absurd (decide_eq_true hi) (by rw [hb]; decide)
    refine x_iload_n (pc := 0) dX7_trial_0 rfl ?_
    refine x_iconst (pc := 1) dX7_trial_1 (v := nI 0) (by decide) ?_
    refine x_iconst (pc := 2) dX7_trial_2 (v := nI 2) (by decide) ?_
    refine x_cs3p (pc := 3) dX7_trial_3 ks_X7_82 (by omega) (by rfl) (by rfl) (by rfl) (c_in _ _ _) ?_
    rw [hin, hb]
    refine x_if_ne_f (pc := 6) dX7_trial_6 (tgt := 11) (by decide) (fun q => q rfl) ?_
    refine x_iconst (pc := 9) dX7_trial_9 (v := -1) (by decide) ?_
    refine x_iret (pc := 10) dX7_trial_10 rfl rfl ?_
    exact va_i ⟨by rw [trS, if_neg (hne 0 (by omega)), if_neg (hne 1 (by omega)), if_neg (hne 2 (by omega))], hm0, fun _ _ => rfl⟩
  · have hb : inB (nI i) 3 = true := by rw [inB_n (by omega) (by omega)]; simpa using hi
    have t132 : ∀ (b1 b2 : Bool) (z4 : Option Value), b1 = enS C h → b2 = suS C h → Run m_X7_trial 2 0 0 130 [some (.ref 51), some (.int (nI i)), some (.int (nI (cosA C (fun i => h.1.getD i 0) h.1.length))), some (.int (nI (bN b1))), z4] [.int (nI (bN b2))] w n (PM (trS C h (nI i)) T C h L K w n) := by
      intro b1 b2 z4 q1 q2
      subst q1 q2
      rcases (by omega : i = 0 ∨ i = 1 ∨ i = 2) with rfl | rfl | rfl
      · refine x_istore (pc := 130) dX7_trial_130 rfl ?_
        refine x_iload_n (pc := 132) dX7_trial_132 rfl ?_
        refine x_if_ne_f (pc := 133) dX7_trial_133 (tgt := 140) (by decide) (fun q => q rfl) ?_
        refine x_iload_n (pc := 136) dX7_trial_136 rfl ?_
        refine x_goto (pc := 137) dX7_trial_137 (tgt := 167) (by decide) ?_
        refine x_iret (pc := 167) dX7_trial_167 rfl rfl ?_
        exact va_i ⟨by rw [trS, if_pos rfl], hm0, fun _ _ => rfl⟩
      · refine x_istore (pc := 130) dX7_trial_130 rfl ?_
        refine x_iload_n (pc := 132) dX7_trial_132 rfl ?_
        refine x_if_ne_t (pc := 133) dX7_trial_133 (tgt := 140) (by decide) (by decide +kernel) ?_
        refine x_iload_n (pc := 140) dX7_trial_140 rfl ?_
        refine x_iconst (pc := 141) dX7_trial_141 (v := nI 1) (by decide) ?_
        refine x_icmp_ne_f (pc := 142) dX7_trial_142 (tgt := 157) (by decide) (fun q => q rfl) ?_
        refine x_iload_n (pc := 145) dX7_trial_145 rfl ?_
        refine x_if_eq (pc := 146) dX7_trial_146 (tgt := 153) (by decide) (fun h_146 => ?_) (fun h_146 => ?_)
        · skip
          try first | rw [n_b0] at h_146 | rw [n_eq0 (by omega)] at h_146
          refine x_iconst (pc := 153) dX7_trial_153 (v := nI 0) (by decide) ?_
          refine x_goto (pc := 154) dX7_trial_154 (tgt := 167) (by decide) ?_
          refine x_iret (pc := 167) dX7_trial_167 rfl rfl ?_
          exact va_i ⟨by rw [trS, if_neg (by decide +kernel), if_pos rfl]; first | rw [h_146]; rfl | (simp only [Bool.not_eq_false] at h_146; rw [h_146]; rfl), hm0, fun _ _ => rfl⟩
        · skip
          try first | rw [n_b0] at h_146 | rw [n_eq0 (by omega)] at h_146
          refine x_iconst (pc := 149) dX7_trial_149 (v := nI 1) (by decide) ?_
          refine x_goto (pc := 150) dX7_trial_150 (tgt := 167) (by decide) ?_
          refine x_iret (pc := 167) dX7_trial_167 rfl rfl ?_
          exact va_i ⟨by rw [trS, if_neg (by decide +kernel), if_pos rfl]; first | rw [h_146]; rfl | (simp only [Bool.not_eq_false] at h_146; rw [h_146]; rfl), hm0, fun _ _ => rfl⟩
      · refine x_istore (pc := 130) dX7_trial_130 rfl ?_
        refine x_iload_n (pc := 132) dX7_trial_132 rfl ?_
        refine x_if_ne_t (pc := 133) dX7_trial_133 (tgt := 140) (by decide) (by decide +kernel) ?_
        refine x_iload_n (pc := 140) dX7_trial_140 rfl ?_
        refine x_iconst (pc := 141) dX7_trial_141 (v := nI 1) (by decide) ?_
        refine x_icmp_ne_t (pc := 142) dX7_trial_142 (tgt := 157) (by decide) (by decide +kernel) ?_
        refine x_iload (pc := 157) dX7_trial_157 rfl ?_
        refine x_if_eq (pc := 159) dX7_trial_159 (tgt := 166) (by decide) (fun h_159 => ?_) (fun h_159 => ?_)
        · skip
          try first | rw [n_b0] at h_159 | rw [n_eq0 (by omega)] at h_159
          refine x_iconst (pc := 166) dX7_trial_166 (v := nI 0) (by decide) ?_
          refine x_iret (pc := 167) dX7_trial_167 rfl rfl ?_
          exact va_i ⟨by rw [trS, if_neg (by decide +kernel), if_neg (by decide +kernel), if_pos rfl]; first | rw [h_159]; rfl | (simp only [Bool.not_eq_false] at h_159; rw [h_159]; rfl), hm0, fun _ _ => rfl⟩
        · skip
          try first | rw [n_b0] at h_159 | rw [n_eq0 (by omega)] at h_159
          refine x_iconst (pc := 162) dX7_trial_162 (v := nI 1) (by decide) ?_
          refine x_goto (pc := 163) dX7_trial_163 (tgt := 167) (by decide) ?_
          refine x_iret (pc := 167) dX7_trial_167 rfl rfl ?_
          exact va_i ⟨by rw [trS, if_neg (by decide +kernel), if_neg (by decide +kernel), if_pos rfl]; first | rw [h_159]; rfl | (simp only [Bool.not_eq_false] at h_159; rw [h_159]; rfl), hm0, fun _ _ => rfl⟩
    have t105 : ∀ (b1 : Bool) (z z4 : Option Value), b1 = enS C h → Run m_X7_trial 2 0 0 104 [some (.ref 51), some (.int (nI i)), some (.int (nI (cosA C (fun i => h.1.getD i 0) h.1.length))), z, z4] [.int (nI (bN b1))] w n (PM (trS C h (nI i)) T C h L K w n) := by
      intro b1 z z4 q1
      refine x_istore_n (pc := 104) dX7_trial_104 rfl ?_
      refine x_aload_n (pc := 105) dX7_trial_105 rfl ?_
      refine x_getf (pc := 106) dX7_trial_106 kf_X7_38 (by first | assumption | exact hC.1 | exact hH.1 | exact hV0.1 | exact hT.1) (by rfl) ?_
      refine x_iconst (pc := 109) dX7_trial_109 (v := nI 0) (by decide) ?_
      refine xn_iald (pc := 110) dX7_trial_110 (by assumption) (by first | omega | assumption) (by rfl) ?_
      rw [r0]
      refine x_if_le (pc := 111) dX7_trial_111 (tgt := 129) (by decide) (fun h_111 => ?_) (fun h_111 => ?_)
      · skip
        try first | rw [n_b0] at h_111 | rw [n_le0 (by omega)] at h_111
        have e : false = suS C h := by simp [suS, h_111]
        refine x_iconst (pc := 129) dX7_trial_129 (v := nI 0) (by decide) ?_
        exact t132 _ _ _ q1 e
      · skip
        try first | rw [n_b0] at h_111 | rw [n_le0 (by omega)] at h_111
        refine x_iload_n (pc := 114) dX7_trial_114 rfl ?_
        refine x_if_ne (pc := 115) dX7_trial_115 (tgt := 129) (by decide) (fun h_115 => ?_) (fun h_115 => ?_)
        · skip
          try first | rw [n_b0] at h_115 | rw [n_eq0 (by omega)] at h_115
          have e : false = suS C h := by simp only [Bool.not_eq_false] at h_115; simp [suS, ← q1, h_115]
          refine x_iconst (pc := 129) dX7_trial_129 (v := nI 0) (by decide) ?_
          exact t132 _ _ _ q1 e
        · replace h_115 := Classical.not_not.mp h_115
          try first | rw [n_b0] at h_115 | rw [n_eq0 (by omega)] at h_115
          refine x_aload_n (pc := 118) dX7_trial_118 rfl ?_
          refine x_cv0p (ci := 7) (pc := 119) dX7_trial_119 ks_X7_135 (by first | assumption | exact hC.1 | exact hH.1 | exact hV0.1 | exact hT.1) (by rfl) (by omega) (by rfl) (by rfl) (by rfl) (m_next0 okc okh hK hR h61 hr) ?_
          refine x_if_ne (pc := 122) dX7_trial_122 (tgt := 129) (by decide) (fun h_122 => ?_) (fun h_122 => ?_)
          · skip
            try first | rw [n_b0] at h_122 | rw [n_eq0 (by omega)] at h_122
            have e : false = suS C h := by simp [suS, h_122]
            refine x_iconst (pc := 129) dX7_trial_129 (v := nI 0) (by decide) ?_
            exact t132 _ _ _ q1 e
          · replace h_122 := Classical.not_not.mp h_122
            try first | rw [n_b0] at h_122 | rw [n_eq0 (by omega)] at h_122
            have e : true = suS C h := by simp only [suS]; exact (decide_eq_true ⟨by omega, by rw [← q1]; exact h_115, h_122⟩).symm
            refine x_iconst (pc := 125) dX7_trial_125 (v := nI 1) (by decide) ?_
            refine x_goto (pc := 126) dX7_trial_126 (tgt := 130) (by decide) ?_
            exact t132 _ _ _ q1 e
    have loop : ∀ m k (z : Option Value), k + m = h.1.length → Run m_X7_trial 2 0 0 15 [some (.ref 51), some (.int (nI i)), some (.int (nI (cosA C (fun i => h.1.getD i 0) k))), some (.int (nI k)), z] [] w n (PM (trS C h (nI i)) T C h L K w n) := by
      intro m
      induction m with
      | zero =>
        intro k z hk
        have hkk : k = h.1.length := by omega
        subst hkk
        refine x_iload_n (pc := 15) dX7_trial_15 rfl ?_
        refine x_aload_n (pc := 16) dX7_trial_16 rfl ?_
        refine x_getf (pc := 17) dX7_trial_17 kf_X7_38 (by first | assumption | exact hC.1 | exact hH.1 | exact hV0.1 | exact hT.1) (by rfl) ?_
        refine x_iconst (pc := 20) dX7_trial_20 (v := nI 0) (by decide) ?_
        refine xn_iald (pc := 21) dX7_trial_21 (by assumption) (by first | omega | assumption) (by rfl) ?_
        rw [r0]
        refine x_icmp_ge_t (pc := 22) dX7_trial_22 (tgt := 66) (by decide) (nI_le (by omega) (by omega)) ?_
        refine x_aload_n (pc := 66) dX7_trial_66 rfl ?_
        refine x_getf (pc := 67) dX7_trial_67 kf_X7_38 (by first | assumption | exact hC.1 | exact hH.1 | exact hV0.1 | exact hT.1) (by rfl) ?_
        refine x_iconst (pc := 70) dX7_trial_70 (v := nI 0) (by decide) ?_
        refine xn_iald (pc := 71) dX7_trial_71 (by assumption) (by first | omega | assumption) (by rfl) ?_
        rw [r0]
        refine x_if_le (pc := 72) dX7_trial_72 (tgt := 103) (by decide) (fun h_72 => ?_) (fun h_72 => ?_)
        · skip
          try first | rw [n_b0] at h_72 | rw [n_le0 (by omega)] at h_72
          have e : false = enS C h := by simp [enS, h_72]
          refine x_iconst (pc := 103) dX7_trial_103 (v := nI 0) (by decide) ?_
          exact t105 _ _ _ e
        · skip
          try first | rw [n_b0] at h_72 | rw [n_le0 (by omega)] at h_72
          have hlt := okh.at (i := h.1.length - 1) (by omega)
          have hk4 := (okc.2.2.2.1 _ hlt).1
          refine x_aload_n (pc := 75) dX7_trial_75 rfl ?_
          refine x_getf (pc := 76) dX7_trial_76 kf_X7_17 (by first | assumption | exact hC.1 | exact hH.1 | exact hV0.1 | exact hT.1) (by rfl) ?_
          refine x_aload_n (pc := 79) dX7_trial_79 rfl ?_
          refine x_getf (pc := 80) dX7_trial_80 kf_X7_38 (by first | assumption | exact hC.1 | exact hH.1 | exact hV0.1 | exact hT.1) (by rfl) ?_
          refine x_iconst (pc := 83) dX7_trial_83 (v := nI 2) (by decide) ?_
          refine x_aload_n (pc := 84) dX7_trial_84 rfl ?_
          refine x_getf (pc := 85) dX7_trial_85 kf_X7_38 (by first | assumption | exact hC.1 | exact hH.1 | exact hV0.1 | exact hT.1) (by rfl) ?_
          refine x_iconst (pc := 88) dX7_trial_88 (v := nI 0) (by decide) ?_
          refine xn_iald (pc := 89) dX7_trial_89 (by assumption) (by first | omega | assumption) (by rfl) ?_
          rw [r0]
          first | refine xn_iadd (pc := 90) dX7_trial_90 ?_ | refine x_iadd (pc := 90) dX7_trial_90 ?_
          refine x_iconst (pc := 91) dX7_trial_91 (v := nI 1) (by decide) ?_
          first | refine xn_isub (pc := 92) dX7_trial_92 (by omega) ?_ | refine x_isub (pc := 92) dX7_trial_92 ?_
          refine xn_iald (pc := 93) dX7_trial_93 (by assumption) (by first | omega | assumption) (by rfl) ?_
          rw [show 2 + h.1.length - 1 = 2 + (h.1.length - 1) by omega, r2 _ (by omega)]
          refine xn_iald (pc := 94) dX7_trial_94 (by assumption) (by first | omega | assumption) (by rfl) ?_
          rw [(e4 _ hlt).1]
          refine x_iconst (pc := 95) dX7_trial_95 (v := nI 4) (by decide) ?_
          refine x_icmp_ne (pc := 96) dX7_trial_96 (tgt := 103) (by decide) (fun h_96 => ?_) (fun h_96 => ?_)
          · skip
            try first | rw [n_b1] at h_96 | rw [n_b00] at h_96 | rw [n_eq (by omega) (by omega)] at h_96
            have e : false = enS C h := by simp only [enS]; exact (decide_eq_false (fun q => h_96 q.2)).symm
            refine x_iconst (pc := 103) dX7_trial_103 (v := nI 0) (by decide) ?_
            exact t105 _ _ _ e
          · replace h_96 := Classical.not_not.mp h_96
            try first | rw [n_b1] at h_96 | rw [n_b00] at h_96 | rw [n_eq (by omega) (by omega)] at h_96
            have e : true = enS C h := by simp only [enS]; exact (decide_eq_true ⟨by omega, h_96⟩).symm
            refine x_iconst (pc := 99) dX7_trial_99 (v := nI 1) (by decide) ?_
            refine x_goto (pc := 100) dX7_trial_100 (tgt := 104) (by decide) ?_
            exact t105 _ _ _ e
      | succ m ih =>
        intro k z hk
        have hrk := okh.at (i := k) (by omega)
        cases k with
        | zero =>
          refine x_iload_n (pc := 15) dX7_trial_15 rfl ?_
          refine x_aload_n (pc := 16) dX7_trial_16 rfl ?_
          refine x_getf (pc := 17) dX7_trial_17 kf_X7_38 (by first | assumption | exact hC.1 | exact hH.1 | exact hV0.1 | exact hT.1) (by rfl) ?_
          refine x_iconst (pc := 20) dX7_trial_20 (v := nI 0) (by decide) ?_
          refine xn_iald (pc := 21) dX7_trial_21 (by assumption) (by first | omega | assumption) (by rfl) ?_
          rw [r0]
          refine x_icmp_ge_f (pc := 22) dX7_trial_22 (tgt := 66) (by decide) (nI_ge (by omega) (by omega)) ?_
          refine x_iload_n (pc := 25) dX7_trial_25 rfl ?_
          refine x_aload_n (pc := 26) dX7_trial_26 rfl ?_
          refine x_aload_n (pc := 27) dX7_trial_27 rfl ?_
          refine x_getf (pc := 28) dX7_trial_28 kf_X7_38 (by first | assumption | exact hC.1 | exact hH.1 | exact hV0.1 | exact hT.1) (by rfl) ?_
          refine x_iconst (pc := 31) dX7_trial_31 (v := nI 2) (by decide) ?_
          refine x_iload_n (pc := 32) dX7_trial_32 rfl ?_
          first | refine xn_iadd (pc := 33) dX7_trial_33 ?_ | refine x_iadd (pc := 33) dX7_trial_33 ?_
          refine xn_iald (pc := 34) dX7_trial_34 (by assumption) (by first | omega | assumption) (by rfl) ?_
          rw [r2 0 (by omega)]
          refine x_iload_n (pc := 35) dX7_trial_35 rfl ?_
          refine x_iload_n (pc := 36) dX7_trial_36 rfl ?_
          refine x_if_ne_f (pc := 37) dX7_trial_37 (tgt := 45) (by decide) (fun q => q rfl) ?_
          refine x_bipush (pc := 40) dX7_trial_40 (v := -4) (by decide) ?_
          refine x_goto (pc := 42) dX7_trial_42 (tgt := 55) (by decide) ?_
          refine x_cv3p (ci := 7) (pc := 55) dX7_trial_55 ks_X7_141 (by first | assumption | exact hC.1 | exact hH.1 | exact hV0.1 | exact hT.1) (by rfl) (by omega) (by rfl) (by rfl) (by rfl) (m_cost okc hK hR hrk (by omega) (z := none) (fun b q => by cases q)) ?_
          first | refine xn_iadd (pc := 58) dX7_trial_58 ?_ | refine x_iadd (pc := 58) dX7_trial_58 ?_
          refine x_istore_n (pc := 59) dX7_trial_59 rfl ?_
          refine xn_iinc (pc := 60) dX7_trial_60 rfl rfl ?_
          refine x_goto (pc := 63) dX7_trial_63 (tgt := 15) (by decide) ?_
          exact ih 1 _ (by omega)
        | succ k =>
          refine x_iload_n (pc := 15) dX7_trial_15 rfl ?_
          refine x_aload_n (pc := 16) dX7_trial_16 rfl ?_
          refine x_getf (pc := 17) dX7_trial_17 kf_X7_38 (by first | assumption | exact hC.1 | exact hH.1 | exact hV0.1 | exact hT.1) (by rfl) ?_
          refine x_iconst (pc := 20) dX7_trial_20 (v := nI 0) (by decide) ?_
          refine xn_iald (pc := 21) dX7_trial_21 (by assumption) (by first | omega | assumption) (by rfl) ?_
          rw [r0]
          refine x_icmp_ge_f (pc := 22) dX7_trial_22 (tgt := 66) (by decide) (nI_ge (by omega) (by omega)) ?_
          refine x_iload_n (pc := 25) dX7_trial_25 rfl ?_
          refine x_aload_n (pc := 26) dX7_trial_26 rfl ?_
          refine x_aload_n (pc := 27) dX7_trial_27 rfl ?_
          refine x_getf (pc := 28) dX7_trial_28 kf_X7_38 (by first | assumption | exact hC.1 | exact hH.1 | exact hV0.1 | exact hT.1) (by rfl) ?_
          refine x_iconst (pc := 31) dX7_trial_31 (v := nI 2) (by decide) ?_
          refine x_iload_n (pc := 32) dX7_trial_32 rfl ?_
          first | refine xn_iadd (pc := 33) dX7_trial_33 ?_ | refine x_iadd (pc := 33) dX7_trial_33 ?_
          refine xn_iald (pc := 34) dX7_trial_34 (by assumption) (by first | omega | assumption) (by rfl) ?_
          rw [r2 (k + 1) (by omega)]
          refine x_iload_n (pc := 35) dX7_trial_35 rfl ?_
          refine x_iload_n (pc := 36) dX7_trial_36 rfl ?_
          refine x_if_ne_t (pc := 37) dX7_trial_37 (tgt := 45) (by decide) (by rw [n_eq0 (by omega)]; omega) ?_
          refine x_aload_n (pc := 45) dX7_trial_45 rfl ?_
          refine x_getf (pc := 46) dX7_trial_46 kf_X7_38 (by first | assumption | exact hC.1 | exact hH.1 | exact hV0.1 | exact hT.1) (by rfl) ?_
          refine x_iconst (pc := 49) dX7_trial_49 (v := nI 2) (by decide) ?_
          refine x_iload_n (pc := 50) dX7_trial_50 rfl ?_
          first | refine xn_iadd (pc := 51) dX7_trial_51 ?_ | refine x_iadd (pc := 51) dX7_trial_51 ?_
          refine x_iconst (pc := 52) dX7_trial_52 (v := nI 1) (by decide) ?_
          first | refine xn_isub (pc := 53) dX7_trial_53 (by omega) ?_ | refine x_isub (pc := 53) dX7_trial_53 ?_
          refine xn_iald (pc := 54) dX7_trial_54 (by assumption) (by first | omega | assumption) (by rfl) ?_
          rw [show 2 + (k + 1) - 1 = 2 + k by omega, r2 k (by omega)]
          refine x_cv3p (ci := 7) (pc := 55) dX7_trial_55 ks_X7_141 (by first | assumption | exact hC.1 | exact hH.1 | exact hV0.1 | exact hT.1) (by rfl) (by omega) (by rfl) (by rfl) (by rfl) (m_cost okc hK hR hrk (by omega) (z := some (h.1.getD k 0)) (fun b q => by cases q; exact okh.at (by omega))) ?_
          first | refine xn_iadd (pc := 58) dX7_trial_58 ?_ | refine x_iadd (pc := 58) dX7_trial_58 ?_
          refine x_istore_n (pc := 59) dX7_trial_59 rfl ?_
          refine xn_iinc (pc := 60) dX7_trial_60 rfl rfl ?_
          refine x_goto (pc := 63) dX7_trial_63 (tgt := 15) (by decide) ?_
          exact ih (k + 1 + 1) _ (by omega)
    refine x_iload_n (pc := 0) dX7_trial_0 rfl ?_
    refine x_iconst (pc := 1) dX7_trial_1 (v := nI 0) (by decide) ?_
    refine x_iconst (pc := 2) dX7_trial_2 (v := nI 2) (by decide) ?_
    refine x_cs3p (pc := 3) dX7_trial_3 ks_X7_82 (by omega) (by rfl) (by rfl) (by rfl) (c_in _ _ _) ?_
    rw [hin, hb]
    refine x_if_ne_t (pc := 6) dX7_trial_6 (tgt := 11) (by decide) (by decide +kernel) ?_
    refine x_iconst (pc := 11) dX7_trial_11 (v := nI 0) (by decide) ?_
    refine x_istore_n (pc := 12) dX7_trial_12 rfl ?_
    refine x_iconst (pc := 13) dX7_trial_13 (v := nI 0) (by decide) ?_
    refine x_istore_n (pc := 14) dX7_trial_14 rfl ?_
    exact loop h.1.length 0 _ (by omega)
