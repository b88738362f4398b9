/-! chances, trials by draws -/
theorem out_n (x : Int32) {N : Nat} (hN : N < 2147483647) : decide (x < nI 0 ∨ nI N < x) = !inB x (N + 1) := by
  unfold inB
  rw [← decide_not]
  refine decide_eq_decide.mpr ?_
  have e0 : (nI 0).toInt = 0 := by decide +kernel
  have e2 : ((0 : Int32)).toInt = 0 := by decide +kernel
  have e1 : (nI N).toInt = N := nI_toInt (by omega)
  have e3 : (nI (N + 1)).toInt = (N + 1 : Nat) := nI_toInt (by omega)
  rw [Int32.lt_iff_toInt_lt, Int32.lt_iff_toInt_lt, Int32.lt_iff_toInt_lt, Int32.lt_iff_toInt_lt, e0, e1, e2, e3]
  omega
theorem cnt_5 : ∀ m, m < 32 → cnt m 10 ≤ 5 := by decide +kernel
theorem ftF_cnt {C : Crt} (ok : okC C) (h : Hrg) (a : Nat) : cnt (fitS C h a) 10 ≤ 5 := cnt_5 _ (ftF_lt ok _ _)
def odU (k t : Nat) : Nat := 10 ^ k - (10 - t) ^ k
def gcS (k t : Nat) : Nat := euS 100 (if odU k t < 10 ^ k then 10 ^ k else odU k t) (if 10 ^ k < odU k t then 10 ^ k else odU k t)
theorem gc_ne : ∀ k, k < 6 → ∀ t, t < 11 → gcS k t ≠ 0 ∧ gcS k t < 200000 := by decide +kernel
def odS (C : Crt) (h : Hrg) (x y z : Int32) : Int32 := if vtB C x = true ∧ inB y 11 = true ∧ y01 z = true then (if z = nI 0 then nI (odU (cnt (fitS C h x.toNatClampNeg) 10) y.toNatClampNeg / gcS (cnt (fitS C h x.toNatClampNeg) 10) y.toNatClampNeg) else nI (10 ^ (cnt (fitS C h x.toNatClampNeg) 10) / gcS (cnt (fitS C h x.toNatClampNeg) 10) y.toNatClampNeg)) else -1
theorem c_odds {w0 : ax_W} {n : Nat} {T : List Nat} {C : Crt} {h : Hrg} {L K : List Hrg} (hx : isX w0 T C h L K) (ok : okX T C h L K) (x y z : Int32) : Run m_X6_odds 16 0 0 0 (l_ent m_X6_odds [.ref 0, .int x, .int y, .int z]) [] w0 n (PX (odS C h x y z) T C h L K w0 n) := by
  have hx0 := hx
  obtain ⟨hX, hT, hR, hC, hD, hH, hP1, hP2, hV, hV2⟩ := hx
  have okC := ok.2.1
  have hn := okC.1
  obtain ⟨hC1, -⟩ := id hC
  rcases vtB_cases okC x with hb | ⟨a, ha, rfl, hb⟩
  · refine x_aload_n (pc := 0) dX6_odds_0 rfl ?_
    refine x_getf (pc := 1) dX6_odds_1 kf_X6_26 (by first | assumption | exact hC.1 | exact hH.1 | exact hV0.1 | exact hT.1) (by rfl) ?_
    refine x_iload_n (pc := 4) dX6_odds_4 rfl ?_
    refine x_cv1p (ci := 0) (pc := 5) dX6_odds_5 ks_X6_116 (by first | assumption | exact hC.1 | exact hH.1 | exact hV0.1 | exact hT.1) (by rfl) (by omega) (by rfl) (by rfl) (by rfl) (c_isVerdict hC okC _) ?_
    refine x_if_eq (pc := 8) dX6_odds_8 (tgt := 30) (by decide) (fun h_8 => ?_) (fun h_8 => ?_)
    · skip
      try first | rw [n_b0] at h_8 | rw [n_eq0 (by omega)] at h_8
      refine x_iconst (pc := 30) dX6_odds_30 (v := -1) (by decide) ?_
      refine x_iret (pc := 31) dX6_odds_31 rfl rfl ?_
      exact va_i ⟨by rw [odS, if_neg (fun q => by rw [hb] at q; cases q.1)], hx0, fun _ _ => rfl⟩
    · skip
      try first | rw [n_b0] at h_8 | rw [n_eq0 (by omega)] at h_8
      exact absurd hb h_8
  have hcl : (nI a).toNatClampNeg = a := n_cl (by omega)
  have hk5 := ftF_cnt okC h a
  refine x_aload_n (pc := 0) dX6_odds_0 rfl ?_
  refine x_getf (pc := 1) dX6_odds_1 kf_X6_26 (by first | assumption | exact hC.1 | exact hH.1 | exact hV0.1 | exact hT.1) (by rfl) ?_
  refine x_iload_n (pc := 4) dX6_odds_4 rfl ?_
  refine x_cv1p (ci := 0) (pc := 5) dX6_odds_5 ks_X6_116 (by first | assumption | exact hC.1 | exact hH.1 | exact hV0.1 | exact hT.1) (by rfl) (by omega) (by rfl) (by rfl) (by rfl) (c_isVerdict hC okC _) ?_
  refine x_if_eq (pc := 8) dX6_odds_8 (tgt := 30) (by decide) (fun h_8 => ?_) (fun h_8 => ?_)
  · skip
    try first | rw [n_b0] at h_8 | rw [n_eq0 (by omega)] at h_8
    rw [hb] at h_8; cases h_8
  · skip
    try first | rw [n_b0] at h_8 | rw [n_eq0 (by omega)] at h_8
    refine x_iload_n (pc := 11) dX6_odds_11 rfl ?_
    refine x_iconst (pc := 12) dX6_odds_12 (v := nI 0) (by decide) ?_
    refine x_bipush (pc := 13) dX6_odds_13 (v := nI 10) (by decide) ?_
    refine x_cs3p (pc := 15) dX6_odds_15 ks_X6_75 (by omega) (by rfl) (by rfl) (by rfl) (c_outside _ _ _) ?_
    rw [out_n y (by omega)]
    refine x_if_ne (pc := 18) dX6_odds_18 (tgt := 30) (by decide) (fun h_18 => ?_) (fun h_18 => ?_)
    · skip
      try first | rw [n_b0] at h_18 | rw [n_eq0 (by omega)] at h_18
      have hy : inB y 11 = false := by simpa using h_18
      refine x_iconst (pc := 30) dX6_odds_30 (v := -1) (by decide) ?_
      refine x_iret (pc := 31) dX6_odds_31 rfl rfl ?_
      exact va_i ⟨by rw [odS, if_neg (fun q => by rw [hy] at q; cases q.2.1)], hx0, fun _ _ => rfl⟩
    · replace h_18 := Classical.not_not.mp h_18
      try first | rw [n_b0] at h_18 | rw [n_eq0 (by omega)] at h_18
      have hy : inB y 11 = true := by simpa using h_18
      obtain ⟨t, ht, rfl⟩ := inB_of hy (by omega)
      refine x_iload_n (pc := 21) dX6_odds_21 rfl ?_
      refine x_iconst (pc := 22) dX6_odds_22 (v := nI 0) (by decide) ?_
      refine x_iconst (pc := 23) dX6_odds_23 (v := nI 1) (by decide) ?_
      refine x_cs3p (pc := 24) dX6_odds_24 ks_X6_75 (by omega) (by rfl) (by rfl) (by rfl) (c_outside _ _ _) ?_
      rw [y01_out]
      refine x_if_eq (pc := 27) dX6_odds_27 (tgt := 32) (by decide) (fun h_27 => ?_) (fun h_27 => ?_)
      · skip
        try first | rw [n_b0] at h_27 | rw [n_eq0 (by omega)] at h_27
        simp at h_27
        refine x_aload_n (pc := 32) dX6_odds_32 rfl ?_
        refine x_iload_n (pc := 33) dX6_odds_33 rfl ?_
        refine x_cv1 (q1 := 0) (q2 := 0) (ci := 6) (pc := 34) dX6_odds_34 ks_X6_212 (by first | assumption | exact hC.1 | exact hH.1 | exact hV0.1 | exact hT.1) (by rfl) (by omega) (by rfl) (by rfl) (by rfl) (c_fittingPeople hx0 ok ha) (va_kk fun v w hP => ?_)
        obtain ⟨rfl, hx1, hfr⟩ := hP
        have hfl : fitS C h a < 32 := ftF_lt okC _ _
        refine x_cs1p (pc := 37) dX6_odds_37 ks_X6_215 (by omega) (by rfl) (by rfl) (by rfl) (c_bitCount (by omega)) ?_
        refine x_istore (pc := 40) dX6_odds_40 rfl ?_
        refine x_iconst (pc := 42) dX6_odds_42 (v := nI 1) (by decide) ?_
        refine x_istore (pc := 43) dX6_odds_43 rfl ?_
        refine x_iconst (pc := 45) dX6_odds_45 (v := nI 1) (by decide) ?_
        refine x_istore (pc := 46) dX6_odds_46 rfl ?_
        refine x_iconst (pc := 48) dX6_odds_48 (v := nI 0) (by decide) ?_
        refine x_istore (pc := 49) dX6_odds_49 rfl ?_
        have e : odS C h (nI a) (nI t) z = if z = nI 0 then nI (odU (cnt (fitS C h a) 10) t / gcS (cnt (fitS C h a) 10) t) else nI (10 ^ (cnt (fitS C h a) 10) / gcS (cnt (fitS C h a) 10) t) := by rw [odS, if_pos ⟨hb, hy, h_27⟩, hcl, n_cl (by omega)]
        obtain ⟨hg1, hg2⟩ := gc_ne _ (show cnt (fitS C h a) 10 < 6 by omega) t ht
        have loop : ∀ m b z8, b + m = cnt (fitS C h a) 10 → Run m_X6_odds 16 0 0 51 [some (.ref 0), some (.int (nI a)), some (.int (nI t)), some (.int z), some (.int (nI (cnt (fitS C h a) 10))), some (.int (nI (10 ^ b))), some (.int (nI ((10 - t) ^ b))), some (.int (nI b)), z8] [] w n (PX (odS C h (nI a) (nI t) z) T C h L K w0 n) := by
          intro m
          induction m with
          | zero =>
            intro b z8 hbm
            have hbb : cnt (fitS C h a) 10 = b := by omega
            rw [hbb] at e hg1 hg2
            have hle : (10 - t) ^ b ≤ 10 ^ b := Nat.pow_le_pow_left (by omega) b
            have hp5 : 10 ^ b ≤ 10 ^ 5 := Nat.pow_le_pow_right (by omega) (by omega)
            have hu : odU b t ≤ 10 ^ b := Nat.sub_le _ _
            refine x_iload (pc := 51) dX6_odds_51 rfl ?_
            refine x_iload (pc := 53) dX6_odds_53 rfl ?_
            refine x_icmp_ge_t (pc := 55) dX6_odds_55 (tgt := 80) (by decide) (by rw [hbb]; exact nI_le (by omega) (by omega)) ?_
            refine x_iload (pc := 80) dX6_odds_80 rfl ?_
            refine x_iload (pc := 82) dX6_odds_82 rfl ?_
            first | refine xn_isub (pc := 84) dX6_odds_84 (by omega) ?_ | refine x_isub (pc := 84) dX6_odds_84 ?_
            refine Run.top (v' := .int (nI (odU b t))) rfl ?_
            refine x_istore (pc := 85) dX6_odds_85 rfl ?_
            refine x_iload (pc := 87) dX6_odds_87 rfl ?_
            refine x_iload (pc := 89) dX6_odds_89 rfl ?_
            refine x_cs2p (pc := 91) dX6_odds_91 ks_X6_223 (by omega) (by rfl) (by rfl) (by rfl) (c_commonDivisor (by omega) (by omega)) ?_
            refine Run.top (v' := .int (nI (gcS b t))) rfl ?_
            refine x_istore (pc := 94) dX6_odds_94 rfl ?_
            refine x_iload (pc := 96) dX6_odds_96 rfl ?_
            refine x_if_ne_t (pc := 98) dX6_odds_98 (tgt := 103) (by decide) (by rw [n_eq0 (by omega)]; exact hg1) ?_
            refine x_iload_n (pc := 103) dX6_odds_103 rfl ?_
            refine x_if_ne (pc := 104) dX6_odds_104 (tgt := 115) (by decide) (fun h_104 => ?_) (fun h_104 => ?_)
            · skip
              try first | rw [n_b0] at h_104 | rw [n_eq0 (by omega)] at h_104
              have e0 : ¬ z = nI 0 := h_104
              rw [if_neg e0] at e
              refine x_iload (pc := 115) dX6_odds_115 rfl ?_
              refine x_iload (pc := 117) dX6_odds_117 rfl ?_
              first | refine xn_idiv (pc := 119) dX6_odds_119 (by omega) (by omega) (by omega) ?_ | refine x_idiv (pc := 119) dX6_odds_119 (by assumption) ?_
              refine x_iret (pc := 120) dX6_odds_120 rfl rfl ?_
              exact va_i ⟨by rw [e], hx1, hfr⟩
            · replace h_104 := Classical.not_not.mp h_104
              try first | rw [n_b0] at h_104 | rw [n_eq0 (by omega)] at h_104
              have e0 : z = nI 0 := h_104
              rw [if_pos e0] at e
              refine x_iload (pc := 107) dX6_odds_107 rfl ?_
              refine x_iload (pc := 109) dX6_odds_109 rfl ?_
              first | refine xn_idiv (pc := 111) dX6_odds_111 (by omega) (by omega) (by omega) ?_ | refine x_idiv (pc := 111) dX6_odds_111 (by assumption) ?_
              refine x_goto (pc := 112) dX6_odds_112 (tgt := 120) (by decide) ?_
              refine x_iret (pc := 120) dX6_odds_120 rfl rfl ?_
              exact va_i ⟨by rw [e], hx1, hfr⟩
          | succ m ih =>
            intro b z8 hbm
            refine x_iload (pc := 51) dX6_odds_51 rfl ?_
            refine x_iload (pc := 53) dX6_odds_53 rfl ?_
            refine x_icmp_ge_f (pc := 55) dX6_odds_55 (tgt := 80) (by decide) (nI_ge (by omega) (by omega)) ?_
            refine x_iload (pc := 58) dX6_odds_58 rfl ?_
            refine x_bipush (pc := 60) dX6_odds_60 (v := nI 10) (by decide) ?_
            first | refine xn_imul (pc := 62) dX6_odds_62 ?_ | refine x_imul (pc := 62) dX6_odds_62 ?_
            refine x_istore (pc := 63) dX6_odds_63 rfl ?_
            refine x_iload (pc := 65) dX6_odds_65 rfl ?_
            refine x_bipush (pc := 67) dX6_odds_67 (v := nI 10) (by decide) ?_
            refine x_iload_n (pc := 69) dX6_odds_69 rfl ?_
            first | refine xn_isub (pc := 70) dX6_odds_70 (by omega) ?_ | refine x_isub (pc := 70) dX6_odds_70 ?_
            first | refine xn_imul (pc := 71) dX6_odds_71 ?_ | refine x_imul (pc := 71) dX6_odds_71 ?_
            refine x_istore (pc := 72) dX6_odds_72 rfl ?_
            refine xn_iinc (pc := 74) dX6_odds_74 rfl rfl ?_
            refine x_goto (pc := 77) dX6_odds_77 (tgt := 51) (by decide) ?_
            have e1 : 10 ^ (b + 1) = 10 ^ b * 10 := rfl
            have e2 : (10 - t) ^ (b + 1) = (10 - t) ^ b * (10 - t) := rfl
            have hih := ih (b + 1) z8 (by omega)
            rw [e1, e2] at hih
            exact hih
        exact loop (cnt (fitS C h a) 10) 0 _ (by omega)
      · skip
        try first | rw [n_b0] at h_27 | rw [n_eq0 (by omega)] at h_27
        simp at h_27
        refine x_iconst (pc := 30) dX6_odds_30 (v := -1) (by decide) ?_
        refine x_iret (pc := 31) dX6_odds_31 rfl rfl ?_
        exact va_i ⟨by rw [odS, if_neg (fun q => by rw [h_27] at q; cases q.2.2)], hx0, fun _ _ => rfl⟩
/-! a trial by draws -/
def nthF (op r : Nat) : Nat → Nat → Nat
  | 0, _ => 0
  | k + 1, b => if op.testBit b = true ∧ cnt op b = r then b else nthF op r k (b + 1)
theorem nthF_ok {op r : Nat} : ∀ k b, b + k = 10 → cnt op b ≤ r → r < cnt op 10 → nthF op r k b < 10 ∧ op.testBit (nthF op r k b) = true ∧ cnt op (nthF op r k b) = r
  | 0, b, hb, h1, h2 => by
    have : b = 10 := by omega
    subst this; omega
  | k + 1, b, hb, h1, h2 => by
    simp only [nthF]
    by_cases hq : op.testBit b = true ∧ cnt op b = r
    · rw [if_pos hq]; exact ⟨by omega, hq⟩
    · rw [if_neg hq]
      refine nthF_ok k (b + 1) (by omega) ?_ h2
      by_cases hbit : op.testBit b = true
      · have : cnt op (b + 1) = cnt op b + 1 := by simp [cnt, hbit]
        have : cnt op b ≠ r := fun z => hq ⟨hbit, z⟩
        omega
      · have : cnt op (b + 1) = cnt op b := by simp [cnt, hbit]
        omega
def tbF (C : Crt) (sk z : Nat) : Nat → Nat → Nat → Nat → Nat × Nat
  | 0, L, _, last => (L, last)
  | m + 1, L, ch, last => if cnt (opn C last ch sk) 10 = 0 then (L, last) else tbF C sk z m (L + 1) (ch ||| 2 ^ nthF (opn C last ch sk) (drawS z L % cnt (opn C last ch sk) 10) 10 0) (nthF (opn C last ch sk) (drawS z L % cnt (opn C last ch sk) 10) 10 0)
def tbA (C : Crt) (y : Int32) (p : Nat × Nat) : Int32 := if y = nI 0 then nI p.1 else if kd C p.2 = 4 then nI p.2 else -4
def tbS (C : Crt) (h : Hrg) (z x y : Int32) : Int32 := if inB z 10000 = true ∧ vtB C x = true ∧ y01 y = true then tbA C y (tbF C h.2 z.toNatClampNeg (if h.2.testBit x.toNatClampNeg then 0 else 9) 1 (2 ^ x.toNatClampNeg) x.toNatClampNeg) else -1
theorem c_trialBy {w : ax_W} {n : Nat} {T : List Nat} {C : Crt} {h : Hrg} {LL K : List Hrg} (hx : isX w T C h LL K) (ok : okX T C h LL K) (z x y : Int32) : Run m_X6_trialBy 16 0 0 0 (l_ent m_X6_trialBy [.ref 0, .int z, .int x, .int y]) [] w n (PX (tbS C h z x y) T C h LL K w n) := by
  have hx0 := hx
  obtain ⟨hX, hT, hR, hC, hD, hH, hP1, hP2, hV, hV2⟩ := hx
  obtain ⟨-, okC, okH, -⟩ := ok
  have hn := okC.1
  have hsk := okH.sk okC
  obtain ⟨hC1, -⟩ := id hC
  obtain ⟨hH1, -⟩ := id hH
  cases hz : inB z 10000 with
  | false =>
    refine x_iload_n (pc := 0) dX6_trialBy_0 rfl ?_
    refine x_iconst (pc := 1) dX6_trialBy_1 (v := nI 0) (by decide) ?_
    refine x_sipush (pc := 2) dX6_trialBy_2 (v := nI 9999) (by decide) ?_
    refine x_cs3p (pc := 5) dX6_trialBy_5 ks_X6_75 (by omega) (by rfl) (by rfl) (by rfl) (c_outside _ _ _) ?_
    rw [out_n z (by omega)]
    refine x_if_ne (pc := 8) dX6_trialBy_8 (tgt := 31) (by decide) (fun h_8 => ?_) (fun h_8 => ?_)
    · skip
      try first | rw [n_b0] at h_8 | rw [n_eq0 (by omega)] at h_8
      refine x_iconst (pc := 31) dX6_trialBy_31 (v := -1) (by decide) ?_
      refine x_iret (pc := 32) dX6_trialBy_32 rfl rfl ?_
      exact va_i ⟨by rw [tbS, if_neg (fun q => by rw [hz] at q; cases q.1)], hx0, fun _ _ => rfl⟩
    · replace h_8 := Classical.not_not.mp h_8
      try first | rw [n_b0] at h_8 | rw [n_eq0 (by omega)] at h_8
      rw [hz] at h_8; cases h_8
  | true =>
    obtain ⟨c, hc, rfl⟩ := inB_of hz (by omega)
    rcases vtB_cases okC x with hb | ⟨a, ha, rfl, hb⟩
    · refine x_iload_n (pc := 0) dX6_trialBy_0 rfl ?_
      refine x_iconst (pc := 1) dX6_trialBy_1 (v := nI 0) (by decide) ?_
      refine x_sipush (pc := 2) dX6_trialBy_2 (v := nI 9999) (by decide) ?_
      refine x_cs3p (pc := 5) dX6_trialBy_5 ks_X6_75 (by omega) (by rfl) (by rfl) (by rfl) (c_outside _ _ _) ?_
      rw [out_n (nI c) (by omega)]
      refine x_if_ne (pc := 8) dX6_trialBy_8 (tgt := 31) (by decide) (fun h_8 => ?_) (fun h_8 => ?_)
      · skip
        try first | rw [n_b0] at h_8 | rw [n_eq0 (by omega)] at h_8
        rw [hz] at h_8; exact absurd rfl h_8
      · replace h_8 := Classical.not_not.mp h_8
        try first | rw [n_b0] at h_8 | rw [n_eq0 (by omega)] at h_8
        refine x_aload_n (pc := 11) dX6_trialBy_11 rfl ?_
        refine x_getf (pc := 12) dX6_trialBy_12 kf_X6_26 (by first | assumption | exact hC.1 | exact hH.1 | exact hV0.1 | exact hT.1) (by rfl) ?_
        refine x_iload_n (pc := 15) dX6_trialBy_15 rfl ?_
        refine x_cv1p (ci := 0) (pc := 16) dX6_trialBy_16 ks_X6_116 (by first | assumption | exact hC.1 | exact hH.1 | exact hV0.1 | exact hT.1) (by rfl) (by omega) (by rfl) (by rfl) (by rfl) (c_isVerdict hC okC _) ?_
        refine x_if_eq (pc := 19) dX6_trialBy_19 (tgt := 31) (by decide) (fun h_19 => ?_) (fun h_19 => ?_)
        · skip
          try first | rw [n_b0] at h_19 | rw [n_eq0 (by omega)] at h_19
          refine x_iconst (pc := 31) dX6_trialBy_31 (v := -1) (by decide) ?_
          refine x_iret (pc := 32) dX6_trialBy_32 rfl rfl ?_
          exact va_i ⟨by rw [tbS, if_neg (fun q => by rw [hb] at q; cases q.2.1)], hx0, fun _ _ => rfl⟩
        · skip
          try first | rw [n_b0] at h_19 | rw [n_eq0 (by omega)] at h_19
          exact absurd hb h_19
    have hcl : (nI a).toNatClampNeg = a := n_cl (by omega)
    have hcc : (nI c).toNatClampNeg = c := n_cl (by omega)
    refine x_iload_n (pc := 0) dX6_trialBy_0 rfl ?_
    refine x_iconst (pc := 1) dX6_trialBy_1 (v := nI 0) (by decide) ?_
    refine x_sipush (pc := 2) dX6_trialBy_2 (v := nI 9999) (by decide) ?_
    refine x_cs3p (pc := 5) dX6_trialBy_5 ks_X6_75 (by omega) (by rfl) (by rfl) (by rfl) (c_outside _ _ _) ?_
    rw [out_n (nI c) (by omega)]
    refine x_if_ne (pc := 8) dX6_trialBy_8 (tgt := 31) (by decide) (fun h_8 => ?_) (fun h_8 => ?_)
    · skip
      try first | rw [n_b0] at h_8 | rw [n_eq0 (by omega)] at h_8
      rw [hz] at h_8; exact absurd rfl h_8
    · replace h_8 := Classical.not_not.mp h_8
      try first | rw [n_b0] at h_8 | rw [n_eq0 (by omega)] at h_8
      refine x_aload_n (pc := 11) dX6_trialBy_11 rfl ?_
      refine x_getf (pc := 12) dX6_trialBy_12 kf_X6_26 (by first | assumption | exact hC.1 | exact hH.1 | exact hV0.1 | exact hT.1) (by rfl) ?_
      refine x_iload_n (pc := 15) dX6_trialBy_15 rfl ?_
      refine x_cv1p (ci := 0) (pc := 16) dX6_trialBy_16 ks_X6_116 (by first | assumption | exact hC.1 | exact hH.1 | exact hV0.1 | exact hT.1) (by rfl) (by omega) (by rfl) (by rfl) (by rfl) (c_isVerdict hC okC _) ?_
      refine x_if_eq (pc := 19) dX6_trialBy_19 (tgt := 31) (by decide) (fun h_19 => ?_) (fun h_19 => ?_)
      · skip
        try first | rw [n_b0] at h_19 | rw [n_eq0 (by omega)] at h_19
        rw [hb] at h_19; cases h_19
      · skip
        try first | rw [n_b0] at h_19 | rw [n_eq0 (by omega)] at h_19
        refine x_iload_n (pc := 22) dX6_trialBy_22 rfl ?_
        refine x_iconst (pc := 23) dX6_trialBy_23 (v := nI 0) (by decide) ?_
        refine x_iconst (pc := 24) dX6_trialBy_24 (v := nI 1) (by decide) ?_
        refine x_cs3p (pc := 25) dX6_trialBy_25 ks_X6_75 (by omega) (by rfl) (by rfl) (by rfl) (c_outside _ _ _) ?_
        rw [y01_out]
        refine x_if_eq (pc := 28) dX6_trialBy_28 (tgt := 33) (by decide) (fun h_28 => ?_) (fun h_28 => ?_)
        · skip
          try first | rw [n_b0] at h_28 | rw [n_eq0 (by omega)] at h_28
          simp at h_28
          have loop : ∀ m L ch last z8 z9, L + m < 11 → ch < 1024 → last < cn C → Run m_X6_trialBy 16 0 0 67 [some (.ref 0), some (.int (nI c)), some (.int (nI a)), some (.int y), some (.int (nI (L + m))), some (.int (nI ch)), some (.int (nI last)), some (.int (nI L)), z8, z9] [] w n (PX (tbA C y (tbF C h.2 c m L ch last)) T C h LL K w n) := by
            intro m
            induction m with
            | zero =>
              intro L ch last z8 z9 hLm hch hl
              refine x_iload (pc := 67) dX6_trialBy_67 rfl ?_
              refine x_iload (pc := 69) dX6_trialBy_69 rfl ?_
              refine x_icmp_ge_t (pc := 71) dX6_trialBy_71 (tgt := 141) (by decide) (nI_le (by omega) (by omega)) ?_
              refine x_iload_n (pc := 141) dX6_trialBy_141 rfl ?_
              refine x_if_ne (pc := 142) dX6_trialBy_142 (tgt := 148) (by decide) (fun h_142 => ?_) (fun h_142 => ?_)
              · skip
                try first | rw [n_b0] at h_142 | rw [n_eq0 (by omega)] at h_142
                have e0 : ¬ y = nI 0 := h_142
                refine x_aload_n (pc := 148) dX6_trialBy_148 rfl ?_
                refine x_getf (pc := 149) dX6_trialBy_149 kf_X6_26 (by first | assumption | exact hC.1 | exact hH.1 | exact hV0.1 | exact hT.1) (by rfl) ?_
                refine x_iload (pc := 152) dX6_trialBy_152 rfl ?_
                refine x_cv1p (ci := 0) (pc := 154) dX6_trialBy_154 ks_X6_206 (by first | assumption | exact hC.1 | exact hH.1 | exact hV0.1 | exact hT.1) (by rfl) (by omega) (by rfl) (by rfl) (by rfl) (c_isNight hC okC _) ?_
                rw [ntB_n okC hl]
                refine x_if_eq (pc := 157) dX6_trialBy_157 (tgt := 165) (by decide) (fun h_157 => ?_) (fun h_157 => ?_)
                · skip
                  try first | rw [n_b0] at h_157 | rw [n_eq0 (by omega)] at h_157
                  simp at h_157
                  have e : tbA C y (tbF C h.2 c 0 L ch last) = -4 := by rw [tbF, tbA, if_neg e0, if_neg h_157]
                  refine x_bipush (pc := 165) dX6_trialBy_165 (v := -4) (by decide) ?_
                  refine x_iret (pc := 167) dX6_trialBy_167 rfl rfl ?_
                  exact va_i ⟨by rw [e], hx0, fun _ _ => rfl⟩
                · skip
                  try first | rw [n_b0] at h_157 | rw [n_eq0 (by omega)] at h_157
                  simp at h_157
                  have e : tbA C y (tbF C h.2 c 0 L ch last) = nI last := by rw [tbF, tbA, if_neg e0, if_pos h_157]
                  refine x_iload (pc := 160) dX6_trialBy_160 rfl ?_
                  refine x_goto (pc := 162) dX6_trialBy_162 (tgt := 167) (by decide) ?_
                  refine x_iret (pc := 167) dX6_trialBy_167 rfl rfl ?_
                  exact va_i ⟨by rw [e], hx0, fun _ _ => rfl⟩
              · replace h_142 := Classical.not_not.mp h_142
                try first | rw [n_b0] at h_142 | rw [n_eq0 (by omega)] at h_142
                have e0 : y = nI 0 := h_142
                refine x_iload (pc := 145) dX6_trialBy_145 rfl ?_
                refine x_iret (pc := 147) dX6_trialBy_147 rfl rfl ?_
                exact va_i ⟨by rw [tbF, tbA, if_pos e0], hx0, fun _ _ => rfl⟩
            | succ m ih =>
              intro L ch last z8 z9 hLm hch hl
              have hop := opn_1024 okC (ch := ch) (sk := h.2) hl
              have hopn := opn_lt okC (ch := ch) (sk := h.2) hl
              have hcn := cnt_le (opn C last ch h.2) 10
              refine x_iload (pc := 67) dX6_trialBy_67 rfl ?_
              refine x_iload (pc := 69) dX6_trialBy_69 rfl ?_
              refine x_icmp_ge_f (pc := 71) dX6_trialBy_71 (tgt := 141) (by decide) (nI_ge (by omega) (by omega)) ?_
              refine x_aload_n (pc := 74) dX6_trialBy_74 rfl ?_
              refine x_getf (pc := 75) dX6_trialBy_75 kf_X6_26 (by first | assumption | exact hC.1 | exact hH.1 | exact hV0.1 | exact hT.1) (by rfl) ?_
              refine x_iload (pc := 78) dX6_trialBy_78 rfl ?_
              refine x_iload (pc := 80) dX6_trialBy_80 rfl ?_
              refine x_aload_n (pc := 82) dX6_trialBy_82 rfl ?_
              refine x_getf (pc := 83) dX6_trialBy_83 kf_X6_36 (by first | assumption | exact hC.1 | exact hH.1 | exact hV0.1 | exact hT.1) (by rfl) ?_
              refine x_getf (pc := 86) dX6_trialBy_86 kf_X6_126 (by first | assumption | exact hC.1 | exact hH.1 | exact hV0.1 | exact hT.1) (by rfl) ?_
              refine x_cs4p (pc := 89) dX6_trialBy_89 ks_X6_227 (by omega) (by rfl) (by rfl) (by rfl) (c_openBehind hC okC hl) ?_
              refine x_istore (pc := 92) dX6_trialBy_92 rfl ?_
              refine x_iload (pc := 94) dX6_trialBy_94 rfl ?_
              refine x_cs1p (pc := 96) dX6_trialBy_96 ks_X6_215 (by omega) (by rfl) (by rfl) (by rfl) (c_bitCount (by omega)) ?_
              refine x_istore (pc := 99) dX6_trialBy_99 rfl ?_
              refine x_iload (pc := 101) dX6_trialBy_101 rfl ?_
              refine x_if_ne (pc := 103) dX6_trialBy_103 (tgt := 109) (by decide) (fun h_103 => ?_) (fun h_103 => ?_)
              · skip
                try first | rw [n_b0] at h_103 | rw [n_eq0 (by omega)] at h_103
                have e1 : tbF C h.2 c (m + 1) L ch last = tbF C h.2 c m (L + 1) (ch ||| 2 ^ nthF (opn C last ch h.2) (drawS c L % cnt (opn C last ch h.2) 10) 10 0) (nthF (opn C last ch h.2) (drawS c L % cnt (opn C last ch h.2) 10) 10 0) := by rw [tbF, if_neg h_103]
                rw [e1]
                have hdr := drawS_lt c L
                obtain ⟨n1, n2, n3⟩ := nthF_ok (op := opn C last ch h.2) (r := drawS c L % cnt (opn C last ch h.2) 10) 10 0 rfl (Nat.zero_le _) (Nat.mod_lt _ (by omega))
                have hbn := bit_in hopn n2
                refine x_iload (pc := 109) dX6_trialBy_109 rfl ?_
                refine x_iload_n (pc := 111) dX6_trialBy_111 rfl ?_
                refine x_iload (pc := 112) dX6_trialBy_112 rfl ?_
                refine x_cs2p (pc := 114) dX6_trialBy_114 ks_X6_231 (by omega) (by rfl) (by rfl) (by rfl) (c_draw (by omega) (by omega)) ?_
                refine x_iload (pc := 117) dX6_trialBy_117 rfl ?_
                first | refine xn_irem (pc := 119) dX6_trialBy_119 (by omega) (by omega) (by omega) ?_ | refine x_irem (pc := 119) dX6_trialBy_119 (by assumption) ?_
                refine x_cs2p (pc := 120) dX6_trialBy_120 ks_X6_234 (by omega) (by rfl) (by rfl) (by rfl) (c_bitByRank hop n1 n2 n3) ?_
                refine x_istore (pc := 123) dX6_trialBy_123 rfl ?_
                refine x_iload (pc := 125) dX6_trialBy_125 rfl ?_
                refine x_iload (pc := 127) dX6_trialBy_127 rfl ?_
                refine x_cs1p (pc := 129) dX6_trialBy_129 ks_X6_147 (by omega) (by rfl) (by rfl) (by rfl) (c_bit n1) ?_
                first | refine xn_ior (pc := 132) dX6_trialBy_132 ?_ | refine x_ior (pc := 132) dX6_trialBy_132 ?_
                refine x_istore (pc := 133) dX6_trialBy_133 rfl ?_
                refine xn_iinc (pc := 135) dX6_trialBy_135 rfl rfl ?_
                refine x_goto (pc := 138) dX6_trialBy_138 (tgt := 67) (by decide) ?_
                have hih := ih (L + 1) (ch ||| 2 ^ nthF (opn C last ch h.2) (drawS c L % cnt (opn C last ch h.2) 10) 10 0) (nthF (opn C last ch h.2) (drawS c L % cnt (opn C last ch h.2) 10) 10 0) (some (.int (nI (opn C last ch h.2)))) (some (.int (nI (cnt (opn C last ch h.2) 10)))) (by omega) (or_1024 hch (pow_10 n1)) hbn
                rw [show L + 1 + m = L + (m + 1) by omega] at hih
                exact hih
              · replace h_103 := Classical.not_not.mp h_103
                try first | rw [n_b0] at h_103 | rw [n_eq0 (by omega)] at h_103
                have e1 : tbF C h.2 c (m + 1) L ch last = (L, last) := by rw [tbF, if_pos h_103]
                rw [e1]
                refine x_goto (pc := 106) dX6_trialBy_106 (tgt := 141) (by decide) ?_
                refine x_iload_n (pc := 141) dX6_trialBy_141 rfl ?_
                refine x_if_ne (pc := 142) dX6_trialBy_142 (tgt := 148) (by decide) (fun h_142 => ?_) (fun h_142 => ?_)
                · skip
                  try first | rw [n_b0] at h_142 | rw [n_eq0 (by omega)] at h_142
                  have e0 : ¬ y = nI 0 := h_142
                  refine x_aload_n (pc := 148) dX6_trialBy_148 rfl ?_
                  refine x_getf (pc := 149) dX6_trialBy_149 kf_X6_26 (by first | assumption | exact hC.1 | exact hH.1 | exact hV0.1 | exact hT.1) (by rfl) ?_
                  refine x_iload (pc := 152) dX6_trialBy_152 rfl ?_
                  refine x_cv1p (ci := 0) (pc := 154) dX6_trialBy_154 ks_X6_206 (by first | assumption | exact hC.1 | exact hH.1 | exact hV0.1 | exact hT.1) (by rfl) (by omega) (by rfl) (by rfl) (by rfl) (c_isNight hC okC _) ?_
                  rw [ntB_n okC hl]
                  refine x_if_eq (pc := 157) dX6_trialBy_157 (tgt := 165) (by decide) (fun h_157 => ?_) (fun h_157 => ?_)
                  · skip
                    try first | rw [n_b0] at h_157 | rw [n_eq0 (by omega)] at h_157
                    simp at h_157
                    have e : tbA C y (L, last) = -4 := by rw [tbA, if_neg e0, if_neg h_157]
                    refine x_bipush (pc := 165) dX6_trialBy_165 (v := -4) (by decide) ?_
                    refine x_iret (pc := 167) dX6_trialBy_167 rfl rfl ?_
                    exact va_i ⟨by rw [e], hx0, fun _ _ => rfl⟩
                  · skip
                    try first | rw [n_b0] at h_157 | rw [n_eq0 (by omega)] at h_157
                    simp at h_157
                    have e : tbA C y (L, last) = nI last := by rw [tbA, if_neg e0, if_pos h_157]
                    refine x_iload (pc := 160) dX6_trialBy_160 rfl ?_
                    refine x_goto (pc := 162) dX6_trialBy_162 (tgt := 167) (by decide) ?_
                    refine x_iret (pc := 167) dX6_trialBy_167 rfl rfl ?_
                    exact va_i ⟨by rw [e], hx0, fun _ _ => rfl⟩
                · replace h_142 := Classical.not_not.mp h_142
                  try first | rw [n_b0] at h_142 | rw [n_eq0 (by omega)] at h_142
                  have e0 : y = nI 0 := h_142
                  refine x_iload (pc := 145) dX6_trialBy_145 rfl ?_
                  refine x_iret (pc := 147) dX6_trialBy_147 rfl rfl ?_
                  exact va_i ⟨by rw [tbA, if_pos e0], hx0, fun _ _ => rfl⟩
          refine x_aload_n (pc := 33) dX6_trialBy_33 rfl ?_
          refine x_getf (pc := 34) dX6_trialBy_34 kf_X6_36 (by first | assumption | exact hC.1 | exact hH.1 | exact hV0.1 | exact hT.1) (by rfl) ?_
          refine x_getf (pc := 37) dX6_trialBy_37 kf_X6_126 (by first | assumption | exact hC.1 | exact hH.1 | exact hV0.1 | exact hT.1) (by rfl) ?_
          refine x_iload_n (pc := 40) dX6_trialBy_40 rfl ?_
          refine x_cs2p (pc := 41) dX6_trialBy_41 ks_X6_129 (by omega) (by rfl) (by rfl) (by rfl) (c_has (by omega) (by omega)) ?_
          refine x_if_eq (pc := 44) dX6_trialBy_44 (tgt := 51) (by decide) (fun h_44 => ?_) (fun h_44 => ?_)
          · skip
            try first | rw [n_b0] at h_44 | rw [n_eq0 (by omega)] at h_44
            have e : tbS C h (nI c) (nI a) y = tbA C y (tbF C h.2 c 9 1 (2 ^ a) a) := by rw [tbS, if_pos ⟨hz, hb, h_28⟩, hcl, hcc, if_neg (by rw [h_44]; decide)]
            have hlp := loop 9 1 (2 ^ a) a none none (by omega) (pow_10 (by omega)) ha
            refine x_bipush (pc := 51) dX6_trialBy_51 (v := nI 10) (by decide) ?_
            refine x_istore (pc := 53) dX6_trialBy_53 rfl ?_
            refine x_iload_n (pc := 55) dX6_trialBy_55 rfl ?_
            refine x_cs1p (pc := 56) dX6_trialBy_56 ks_X6_147 (by omega) (by rfl) (by rfl) (by rfl) (c_bit (by omega)) ?_
            refine x_istore (pc := 59) dX6_trialBy_59 rfl ?_
            refine x_iload_n (pc := 61) dX6_trialBy_61 rfl ?_
            refine x_istore (pc := 62) dX6_trialBy_62 rfl ?_
            refine x_iconst (pc := 64) dX6_trialBy_64 (v := nI 1) (by decide) ?_
            refine x_istore (pc := 65) dX6_trialBy_65 rfl ?_
            exact (by rw [e]; exact hlp)
          · skip
            try first | rw [n_b0] at h_44 | rw [n_eq0 (by omega)] at h_44
            simp only [Bool.not_eq_false] at h_44
            have e : tbS C h (nI c) (nI a) y = tbA C y (tbF C h.2 c 0 1 (2 ^ a) a) := by rw [tbS, if_pos ⟨hz, hb, h_28⟩, hcl, hcc, if_pos h_44]
            have hlp := loop 0 1 (2 ^ a) a none none (by omega) (pow_10 (by omega)) ha
            refine x_iconst (pc := 47) dX6_trialBy_47 (v := nI 1) (by decide) ?_
            refine x_goto (pc := 48) dX6_trialBy_48 (tgt := 53) (by decide) ?_
            refine x_istore (pc := 53) dX6_trialBy_53 rfl ?_
            refine x_iload_n (pc := 55) dX6_trialBy_55 rfl ?_
            refine x_cs1p (pc := 56) dX6_trialBy_56 ks_X6_147 (by omega) (by rfl) (by rfl) (by rfl) (c_bit (by omega)) ?_
            refine x_istore (pc := 59) dX6_trialBy_59 rfl ?_
            refine x_iload_n (pc := 61) dX6_trialBy_61 rfl ?_
            refine x_istore (pc := 62) dX6_trialBy_62 rfl ?_
            refine x_iconst (pc := 64) dX6_trialBy_64 (v := nI 1) (by decide) ?_
            refine x_istore (pc := 65) dX6_trialBy_65 rfl ?_
            exact (by rw [e]; exact hlp)
        · skip
          try first | rw [n_b0] at h_28 | rw [n_eq0 (by omega)] at h_28
          simp at h_28
          refine x_iconst (pc := 31) dX6_trialBy_31 (v := -1) (by decide) ?_
          refine x_iret (pc := 32) dX6_trialBy_32 rfl rfl ?_
          exact va_i ⟨by rw [tbS, if_neg (fun q => by rw [h_28] at q; cases q.2.2)], hx0, fun _ _ => rfl⟩
