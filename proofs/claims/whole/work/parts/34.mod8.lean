/-! NIGHTS that serve two VERDICTS, by turns, as the reference finds them -/
def ctN (C : Crt) (sk a v : Nat) : Nat := if sk.testBit v then 100000 else match bstM C v 1 (P9 C (some a) sk v) with
  | none => 100000
  | some q => cst C none 0 v + q.1
theorem ctN_s {C : Crt} {sk a v : Nat} (h : sk.testBit v = true) : ctN C sk a v = 100000 := if_pos h
theorem ctN_n {C : Crt} {sk a v : Nat} (h : bstM C v 1 (P9 C (some a) sk v) = none) : ctN C sk a v = 100000 := by
  unfold ctN
  rw [h]
  split <;> rfl
theorem ctN_y {C : Crt} {sk a v : Nat} (h0 : sk.testBit v = false) {q : Nat × List Nat} (h : bstM C v 1 (P9 C (some a) sk v) = some q) : ctN C sk a v = cst C none 0 v + q.1 := by
  unfold ctN
  rw [h, if_neg (by rw [h0]; decide)]
theorem far_eq : (100000 : Int32) = nI 100000 := by decide +kernel
theorem m_costTo {w : ax_W} {n : Nat} {C : Crt} (okc : okC C) {ty at_ so un ke rl : Int32} (hK : w 51 = om ty at_ so un ke rl) (hC : mR w C) {f : Nat → Int32} {sk : Nat} (hsk : sk < 1024) (h61 : w 61 = ai 132 f) (hs : f 1 = nI sk) {a : Nat} {F : Nat → Nat → Int32} (hS : mS w C (some a) sk F) {v : Nat} (hv : v < cn C) : Run m_X7_costTo 1 0 0 0 (l_ent m_X7_costTo [.ref 51, .int (nI v)]) [] w n (Pu (.int (nI (ctN C sk a v))) w n) := by
  have hn := okc.1
  have hp := pow_10 (show v < 10 by omega)
  have hcst := cst_le okc hv none 0
  obtain ⟨t0, t1, -⟩ := hS.row okc hv
  obtain ⟨h62, h63, h64, h65, h66, h67, h68, h69, h70⟩ := id hS.1
  cases hb : bstM C v 1 (P9 C (some a) sk v) with
  | none =>
    rw [hb] at t1
    have e := ctN_n hb
    refine x_aload_n (pc := 0) dX7_costTo_0 rfl ?_
    refine x_iload_n (pc := 1) dX7_costTo_1 rfl ?_
    refine x_cv1p (ci := 7) (pc := 2) dX7_costTo_2 ks_X7_161 (by assumption) (by rfl) (by omega) (by rfl) (by rfl) (by rfl) (m_isStruck hK hsk h61 hs (by omega)) ?_
    refine x_if_ne (pc := 5) dX7_costTo_5 (tgt := 22) (by decide) (fun h_5 => ?_) (fun h_5 => ?_)
    · skip
      try first | rw [n_b0] at h_5 | rw [n_eq0 (by omega)] at h_5
      refine x_ldc (pc := 22) dX7_costTo_22 kK_X7_144 ?_
      refine x_goto (pc := 24) dX7_costTo_24 (tgt := 45) (by decide) ?_
      refine x_iret (pc := 45) dX7_costTo_45 rfl rfl ?_
      exact pu_i (by rw [e]; exact far_eq)
    · replace h_5 := Classical.not_not.mp h_5
      try first | rw [n_b0] at h_5 | rw [n_eq0 (by omega)] at h_5
      refine x_aload_n (pc := 8) dX7_costTo_8 rfl ?_
      refine x_getf (pc := 9) dX7_costTo_9 kf_X7_44 (by assumption) (by rfl) ?_
      refine x_iload_n (pc := 12) dX7_costTo_12 rfl ?_
      refine x_cs1p (pc := 13) dX7_costTo_13 ks_X7_164 (by omega) (by rfl) (by rfl) (by rfl) (m_rowOf (by omega)) ?_
      refine xn_iald (pc := 16) dX7_costTo_16 (by assumption) (by first | omega | assumption) (by rfl) ?_
      rw [t1]
      refine x_ldc (pc := 17) dX7_costTo_17 kK_X7_144 ?_
      refine x_icmp_lt_f (pc := 19) dX7_costTo_19 (tgt := 27) (by decide) (by show ¬ nI 100000 < 100000; decide +kernel) ?_
      refine x_ldc (pc := 22) dX7_costTo_22 kK_X7_144 ?_
      refine x_goto (pc := 24) dX7_costTo_24 (tgt := 45) (by decide) ?_
      refine x_iret (pc := 45) dX7_costTo_45 rfl rfl ?_
      exact pu_i (by rw [e]; exact far_eq)
  | some q =>
    have hq := les_le okc (L := 1) (P9_mem okc hv) hb
    rw [hb] at t1
    have t1' : F 1 (10 * 2 ^ v + v) = nI q.1 := t1
    refine x_aload_n (pc := 0) dX7_costTo_0 rfl ?_
    refine x_iload_n (pc := 1) dX7_costTo_1 rfl ?_
    refine x_cv1p (ci := 7) (pc := 2) dX7_costTo_2 ks_X7_161 (by assumption) (by rfl) (by omega) (by rfl) (by rfl) (by rfl) (m_isStruck hK hsk h61 hs (by omega)) ?_
    refine x_if_ne (pc := 5) dX7_costTo_5 (tgt := 22) (by decide) (fun h_5 => ?_) (fun h_5 => ?_)
    · skip
      try first | rw [n_b0] at h_5 | rw [n_eq0 (by omega)] at h_5
      simp only [Bool.not_eq_false] at h_5
      have e := ctN_s (C := C) (a := a) h_5
      refine x_ldc (pc := 22) dX7_costTo_22 kK_X7_144 ?_
      refine x_goto (pc := 24) dX7_costTo_24 (tgt := 45) (by decide) ?_
      refine x_iret (pc := 45) dX7_costTo_45 rfl rfl ?_
      first | exact pu_n (by rw [e]) | exact pu_i (by rw [e]; exact far_eq)
    · replace h_5 := Classical.not_not.mp h_5
      try first | rw [n_b0] at h_5 | rw [n_eq0 (by omega)] at h_5
      have e := ctN_y h_5 hb
      refine x_aload_n (pc := 8) dX7_costTo_8 rfl ?_
      refine x_getf (pc := 9) dX7_costTo_9 kf_X7_44 (by assumption) (by rfl) ?_
      refine x_iload_n (pc := 12) dX7_costTo_12 rfl ?_
      refine x_cs1p (pc := 13) dX7_costTo_13 ks_X7_164 (by omega) (by rfl) (by rfl) (by rfl) (m_rowOf (by omega)) ?_
      refine xn_iald (pc := 16) dX7_costTo_16 (by assumption) (by first | omega | assumption) (by rfl) ?_
      rw [t1']
      refine x_ldc (pc := 17) dX7_costTo_17 kK_X7_144 ?_
      refine x_icmp_lt_t (pc := 19) dX7_costTo_19 (tgt := 27) (by decide) (by rw [far_eq]; exact (n_lt (by omega) (by omega)).mpr (by omega)) ?_
      refine x_aload_n (pc := 27) dX7_costTo_27 rfl ?_
      refine x_iload_n (pc := 28) dX7_costTo_28 rfl ?_
      refine x_iconst (pc := 29) dX7_costTo_29 (v := nI 0) (by decide) ?_
      refine x_bipush (pc := 30) dX7_costTo_30 (v := -4) (by decide) ?_
      refine x_cv3p (ci := 7) (pc := 32) dX7_costTo_32 ks_X7_141 (by assumption) (by rfl) (by omega) (by rfl) (by rfl) (by rfl) (m_cost okc hK hC hv (by omega) (z := none) (fun b q => by cases q)) ?_
      refine x_aload_n (pc := 35) dX7_costTo_35 rfl ?_
      refine x_getf (pc := 36) dX7_costTo_36 kf_X7_44 (by assumption) (by rfl) ?_
      refine x_iload_n (pc := 39) dX7_costTo_39 rfl ?_
      refine x_cs1p (pc := 40) dX7_costTo_40 ks_X7_164 (by omega) (by rfl) (by rfl) (by rfl) (m_rowOf (by omega)) ?_
      refine xn_iald (pc := 43) dX7_costTo_43 (by assumption) (by first | omega | assumption) (by rfl) ?_
      rw [t1']
      first | refine xn_iadd (pc := 44) dX7_costTo_44 ?_ | refine x_iadd (pc := 44) dX7_costTo_44 ?_
      refine x_iret (pc := 45) dX7_costTo_45 rfl rfl ?_
      first | exact pu_n (by rw [e]) | exact pu_i (by rw [e]; exact far_eq)
theorem ctN_cases {C : Crt} (okc : okC C) {sk a v : Nat} (hv : v < cn C) : ((v_en (surZ C sk v)).testBit a = true ∧ ctN C sk a v = v_le (surZ C sk v) a ∧ ctN C sk a v < 1000) ∨ ((v_en (surZ C sk v)).testBit a = false ∧ ctN C sk a v = 100000) := by
  by_cases hs : sk.testBit v = true
  · refine Or.inr ⟨?_, ctN_s hs⟩
    rw [z_en]
    have : hwB C sk v = false := by unfold hwB; rw [hs]; rfl
    rw [this, if_neg (by decide), Nat.zero_testBit]
  · simp only [Bool.not_eq_true] at hs
    rcases z_le (C := C) hs a with ⟨h1, h2⟩ | ⟨h1, q, h2, h3⟩
    · exact Or.inr ⟨h1, ctN_n h2⟩
    · have hq := les_le okc (L := 1) (P9_mem okc hv) h2
      have hcst := cst_le okc hv none 0
      exact Or.inl ⟨h1, by rw [ctN_y hs h2, h3], by rw [ctN_y hs h2]; omega⟩
def mstN (o : Option (Nat × Nat)) : Nat := match o with
  | none => 100000
  | some q => q.2
theorem btF_lt' {e : Nat} {l1 l2 : Nat → Nat} (h : ∀ a, e.testBit a = true → l1 a + l2 a < 100000) : ∀ k q, btF e l1 l2 k = some q → q.1 < k ∧ q.2 < 100000
  | 0, q, hq => by cases hq
  | k + 1, q, hq => by
    rw [btF] at hq
    by_cases hb : e.testBit k = true
    · rw [if_pos hb] at hq
      have hk := h k hb
      cases ho : btF e l1 l2 k with
      | none => rw [ho] at hq; cases hq; exact ⟨by omega, hk⟩
      | some q2 =>
        rw [ho] at hq
        have ih := btF_lt' h k q2 ho
        simp only at hq
        split at hq
        · cases hq; exact ⟨by omega, hk⟩
        · cases hq; exact ⟨by omega, ih.2⟩
    · rw [if_neg hb] at hq
      have ih := btF_lt' h k q hq
      exact ⟨by omega, ih.2⟩
theorem btF_end {e : Nat} {l1 l2 : Nat → Nat} {k : Nat} (h : e < 2 ^ k) : ∀ j, btF e l1 l2 (k + j) = btF e l1 l2 k
  | 0 => rfl
  | j + 1 => by
    rw [show k + (j + 1) = k + j + 1 by omega, btF, if_neg (by rw [bit_lt h (by omega)]; decide), btF_end h j]
theorem z_en_lt {C : Crt} (okc : okC C) {sk v : Nat} (hv : v < cn C) : v_en (surZ C sk v) < 2 ^ cn C := by
  rw [z_en]
  split
  · exact endM_lt hv _ fun p hp => (P9_mem okc hv p hp).1
  · exact Nat.two_pow_pos _
theorem btF_s {e : Nat} {l1 l2 : Nat → Nat} {j c : Nat} (h : (e.testBit j = true ∧ l1 j + l2 j = c ∧ c < 100000) ∨ (e.testBit j = false ∧ 100000 ≤ c)) (hb : mstN (btF e l1 l2 j) ≤ 100000) : btF e l1 l2 (j + 1) = if c < mstN (btF e l1 l2 j) then some (j, c) else btF e l1 l2 j := by
  rw [btF]
  rcases h with ⟨h1, h2, h3⟩ | ⟨h1, h2⟩
  · rw [if_pos h1, h2]
    cases ho : btF e l1 l2 j with
    | none => exact (if_pos (show c < mstN none from h3)).symm
    | some q => rfl
  · rw [if_neg (by rw [h1]; decide), if_neg (by omega)]
theorem m_both {w : ax_W} {n : Nat} {T : List Nat} {C : Crt} {h : Hrg} {L K : List Hrg} (hm : isM w T C h L K) (ok : okX T C h L K) (x y z : Int32) : Run m_X7_both 3 0 0 0 (l_ent m_X7_both [.ref 51, .int x, .int y, .int z]) [] w n (PM (boS C h x y z) T C h L K w n) := by
  have hm0 := hm
  have okc := ok.2.1
  have hn := okc.1
  have hsk := ok.2.2.1.sk okc
  obtain ⟨a0, s0, r0, D0, q1, q2, q3, hK, -, hC, -⟩ := id hm
  by_cases hbad : vtB C x = true ∧ vtB C y = true ∧ y01 z = true
  · obtain ⟨hx, hy, hz⟩ := hbad
    rcases vtB_cases okc x with hb' | ⟨u, hu, rfl, -⟩
    · rw [hx] at hb'; cases hb'
    rcases vtB_cases okc y with hb' | ⟨v, hv, rfl, -⟩
    · rw [hy] at hb'; cases hb'
    have hcu : (nI u).toNatClampNeg = u := n_cl (by omega)
    have hcv : (nI v).toNatClampNeg = v := n_cl (by omega)
    generalize he : v_en (surZ C h.2 u) &&& v_en (surZ C h.2 v) = e
    generalize hl1 : v_le (surZ C h.2 u) = l1
    generalize hl2 : v_le (surZ C h.2 v) = l2
    have hcase : ∀ j, (e.testBit j = true ∧ l1 j + l2 j = ctN C h.2 j u + ctN C h.2 j v ∧ ctN C h.2 j u + ctN C h.2 j v < 100000) ∨ (e.testBit j = false ∧ 100000 ≤ ctN C h.2 j u + ctN C h.2 j v) := by
      intro j
      rw [← he, Nat.testBit_and, ← hl1, ← hl2]
      rcases ctN_cases okc (sk := h.2) (a := j) hu with ⟨a1, a2, a3⟩ | ⟨a1, a2⟩
      · rcases ctN_cases okc (sk := h.2) (a := j) hv with ⟨b1, b2, b3⟩ | ⟨b1, b2⟩
        · exact Or.inl ⟨by rw [a1, b1]; rfl, by rw [a2, b2], by omega⟩
        · exact Or.inr ⟨by rw [b1, Bool.and_false], by omega⟩
      · exact Or.inr ⟨by rw [a1, Bool.false_and], by omega⟩
    have hlt : ∀ k q, btF e l1 l2 k = some q → q.1 < k ∧ q.2 < 100000 := btF_lt' fun a ha => by
      rcases hcase a with ⟨-, b2, b3⟩ | ⟨b1, -⟩
      · rw [b2]; exact b3
      · rw [ha] at b1; cases b1
    have hmst : ∀ k, mstN (btF e l1 l2 k) ≤ 100000 := by
      intro k
      cases ho : btF e l1 l2 k with
      | none => exact Nat.le_refl _
      | some q => exact Nat.le_of_lt (hlt k q ho).2
    have hen : e < 2 ^ cn C := by rw [← he]; exact Nat.lt_of_le_of_lt Nat.and_le_left (z_en_lt okc hu)
    have h10 : btF e l1 l2 10 = btF e l1 l2 (cn C) := by
      have := btF_end (l1 := l1) (l2 := l2) hen (10 - cn C)
      rw [show cn C + (10 - cn C) = 10 by omega] at this
      exact this
    have hans : boS C h (nI u) (nI v) z = if z = nI 0 then o1I (btF e l1 l2 (cn C)) else o2I (btF e l1 l2 (cn C)) := by
      unfold boS boO
      rw [if_pos ⟨hx, hy, hz⟩, hcu, hcv, he, hl1, hl2, h10]
    have hnight : ∀ j, kd C j ≠ 4 → e.testBit j = false := by
      intro j hj
      rw [← he, Nat.testBit_and]
      cases hb : (v_en (surZ C h.2 u)).testBit j with
      | false => rfl
      | true => exact absurd (z_en_night okc hu hb).1 hj
    have loop : ∀ m j (w1 : ax_W) (z7 : Option Value), j + m = cn C → isM w1 T C h L K → same50 w w1 → Run m_X7_both 3 0 0 38 [some (.ref 51), some (.int (nI u)), some (.int (nI v)), some (.int z), some (.int (o1I (btF e l1 l2 j))), some (.int (nI (mstN (btF e l1 l2 j)))), some (.int (nI j)), z7] [] w1 n (PM (boS C h (nI u) (nI v) z) T C h L K w n) := by
      intro m
      induction m with
      | zero =>
        intro j w1 z7 hj hm1 hq
        have hjj : j = cn C := by omega
        subst hjj
        obtain ⟨ty, at_, so, un, ke, rl, f, -, hK, hR, h61, hs, -⟩ := hm1.op
        obtain ⟨fm, fk, fc, fds, fh, fv, fp, fd, h53, h54, h55, h56, h57, h58, h59, h60, e1, e2, e3, e4, e5⟩ := id hR
        cases ho : btF e l1 l2 (cn C) with
        | none =>
          rw [ho] at hans
          have e : boS C h (nI u) (nI v) z = -4 := by rw [hans]; split <;> rfl
          refine x_iload (pc := 38) dX7_both_38 rfl ?_
          refine x_aload_n (pc := 40) dX7_both_40 rfl ?_
          refine x_getf (pc := 41) dX7_both_41 kf_X7_13 (by assumption) (by rfl) ?_
          refine x_iconst (pc := 44) dX7_both_44 (v := nI 0) (by decide) ?_
          refine xn_iald (pc := 45) dX7_both_45 (by assumption) (by first | omega | assumption) (by rfl) ?_
          rw [e1]
          refine x_icmp_ge_t (pc := 46) dX7_both_46 (tgt := 117) (by decide) (nI_le (by omega) (by omega)) ?_
          refine x_iload (pc := 117) dX7_both_117 rfl ?_
          refine x_bipush (pc := 119) dX7_both_119 (v := -4) (by decide) ?_
          refine x_icmp_eq_t (pc := 121) dX7_both_121 (tgt := 128) (by decide) rfl ?_
          refine x_iload (pc := 128) dX7_both_128 rfl ?_
          refine x_goto (pc := 130) dX7_both_130 (tgt := 135) (by decide) ?_
          refine x_iret (pc := 135) dX7_both_135 rfl rfl ?_
          exact va_i ⟨by rw [e]; rfl, hm1, hq⟩
        | some q =>
          rw [ho] at hans
          have hq1 := hlt _ q ho
          rcases (of_decide_eq_true hz : z = nI 0 ∨ z = nI 1) with rfl | rfl
          · rw [if_pos rfl] at hans
            refine x_iload (pc := 38) dX7_both_38 rfl ?_
            refine x_aload_n (pc := 40) dX7_both_40 rfl ?_
            refine x_getf (pc := 41) dX7_both_41 kf_X7_13 (by assumption) (by rfl) ?_
            refine x_iconst (pc := 44) dX7_both_44 (v := nI 0) (by decide) ?_
            refine xn_iald (pc := 45) dX7_both_45 (by assumption) (by first | omega | assumption) (by rfl) ?_
            rw [e1]
            refine x_icmp_ge_t (pc := 46) dX7_both_46 (tgt := 117) (by decide) (nI_le (by omega) (by omega)) ?_
            refine x_iload (pc := 117) dX7_both_117 rfl ?_
            refine x_bipush (pc := 119) dX7_both_119 (v := -4) (by decide) ?_
            refine x_icmp_eq_f (pc := 121) dX7_both_121 (tgt := 128) (by decide) (rsI'_ne (by omega)) ?_
            refine x_iload_n (pc := 124) dX7_both_124 rfl ?_
            refine x_if_ne_f (pc := 125) dX7_both_125 (tgt := 133) (by decide) (fun q => q rfl) ?_
            refine x_iload (pc := 128) dX7_both_128 rfl ?_
            refine x_goto (pc := 130) dX7_both_130 (tgt := 135) (by decide) ?_
            refine x_iret (pc := 135) dX7_both_135 rfl rfl ?_
            exact va_i ⟨by rw [hans], hm1, hq⟩
          · rw [if_neg (by decide +kernel)] at hans
            refine x_iload (pc := 38) dX7_both_38 rfl ?_
            refine x_aload_n (pc := 40) dX7_both_40 rfl ?_
            refine x_getf (pc := 41) dX7_both_41 kf_X7_13 (by assumption) (by rfl) ?_
            refine x_iconst (pc := 44) dX7_both_44 (v := nI 0) (by decide) ?_
            refine xn_iald (pc := 45) dX7_both_45 (by assumption) (by first | omega | assumption) (by rfl) ?_
            rw [e1]
            refine x_icmp_ge_t (pc := 46) dX7_both_46 (tgt := 117) (by decide) (nI_le (by omega) (by omega)) ?_
            refine x_iload (pc := 117) dX7_both_117 rfl ?_
            refine x_bipush (pc := 119) dX7_both_119 (v := -4) (by decide) ?_
            refine x_icmp_eq_f (pc := 121) dX7_both_121 (tgt := 128) (by decide) (rsI'_ne (by omega)) ?_
            refine x_iload_n (pc := 124) dX7_both_124 rfl ?_
            refine x_if_ne_t (pc := 125) dX7_both_125 (tgt := 133) (by decide) (by decide +kernel) ?_
            refine x_iload (pc := 133) dX7_both_133 rfl ?_
            refine x_iret (pc := 135) dX7_both_135 rfl rfl ?_
            exact va_i ⟨by rw [hans]; rfl, hm1, hq⟩
      | succ m ih =>
        intro j w1 z7 hj hm1 hq
        have hjn : j < cn C := by omega
        have hkd := (okc.2.2.2.1 j hjn).1
        obtain ⟨ty, at_, so, un, ke, rl, f, F0, hK, hR, h61, hs, hB⟩ := hm1.op
        obtain ⟨fm, fk, fc, fds, fh, fv, fp, fd, h53, h54, h55, h56, h57, h58, h59, h60, e1, e2, e3, e4, e5⟩ := id hR
        have hbs := btF_s (hcase j) (hmst j)
        have hms := hmst j
        by_cases hk4 : kd C j = 4
        · have hct : ctN C h.2 j u + ctN C h.2 j v < 300000 := by
            rcases ctN_cases okc (sk := h.2) (a := j) hu with ⟨-, -, a3⟩ | ⟨-, a2⟩ <;> rcases ctN_cases okc (sk := h.2) (a := j) hv with ⟨-, -, b3⟩ | ⟨-, b2⟩ <;> omega
          have body : ∀ (w2 : ax_W) (F : Nat → Nat → Int32), isM w2 T C h L K → mS w2 C (some j) h.2 F → same50 w w2 → Run m_X7_both 3 0 0 66 [some (.ref 51), some (.int (nI u)), some (.int (nI v)), some (.int z), some (.int (o1I (btF e l1 l2 j))), some (.int (nI (mstN (btF e l1 l2 j)))), some (.int (nI j)), z7] [] w2 n (PM (boS C h (nI u) (nI v) z) T C h L K w n) := by
            intro w2 F hm2 hS hq2
            clear hK hR h61 hs hB h53 h54 h55 h56 h57 h58 h59 h60
            obtain ⟨ty, at_, so, un, ke, rl, f, -, hK, hR, h61, hs, -⟩ := hm2.op
            by_cases hc : ctN C h.2 j u + ctN C h.2 j v < mstN (btF e l1 l2 j)
            · rw [if_pos hc] at hbs
              refine x_aload_n (pc := 66) dX7_both_66 rfl ?_
              refine x_iload_n (pc := 67) dX7_both_67 rfl ?_
              refine x_cv1p (ci := 7) (pc := 68) dX7_both_68 ks_X7_179 (by assumption) (by rfl) (by omega) (by rfl) (by rfl) (by rfl) (m_costTo okc hK hR hsk h61 hs hS (by assumption)) ?_
              refine x_aload_n (pc := 71) dX7_both_71 rfl ?_
              refine x_iload_n (pc := 72) dX7_both_72 rfl ?_
              refine x_cv1p (ci := 7) (pc := 73) dX7_both_73 ks_X7_179 (by assumption) (by rfl) (by omega) (by rfl) (by rfl) (by rfl) (m_costTo okc hK hR hsk h61 hs hS (by assumption)) ?_
              first | refine xn_iadd (pc := 76) dX7_both_76 ?_ | refine x_iadd (pc := 76) dX7_both_76 ?_
              refine x_istore (pc := 77) dX7_both_77 rfl ?_
              refine x_iload (pc := 79) dX7_both_79 rfl ?_
              refine x_iload (pc := 81) dX7_both_81 rfl ?_
              refine x_icmp_ge_f (pc := 83) dX7_both_83 (tgt := 91) (by decide) (by rw [n_le (by omega) (by omega)]; omega) ?_
              refine x_iload (pc := 86) dX7_both_86 rfl ?_
              refine x_goto (pc := 88) dX7_both_88 (tgt := 93) (by decide) ?_
              refine x_istore (pc := 93) dX7_both_93 rfl ?_
              refine x_iload (pc := 95) dX7_both_95 rfl ?_
              refine x_iload (pc := 97) dX7_both_97 rfl ?_
              refine x_icmp_ge_f (pc := 99) dX7_both_99 (tgt := 107) (by decide) (by rw [n_le (by omega) (by omega)]; omega) ?_
              refine x_iload (pc := 102) dX7_both_102 rfl ?_
              refine x_goto (pc := 104) dX7_both_104 (tgt := 109) (by decide) ?_
              refine x_istore (pc := 109) dX7_both_109 rfl ?_
              refine xn_iinc (pc := 111) dX7_both_111 rfl rfl ?_
              refine x_goto (pc := 114) dX7_both_114 (tgt := 38) (by decide) ?_
              have hih := ih (j + 1) w2 (some (.int (nI (ctN C h.2 j u + ctN C h.2 j v)))) (by omega) hm2 hq2
              rw [hbs] at hih
              exact hih
            · rw [if_neg hc] at hbs
              refine x_aload_n (pc := 66) dX7_both_66 rfl ?_
              refine x_iload_n (pc := 67) dX7_both_67 rfl ?_
              refine x_cv1p (ci := 7) (pc := 68) dX7_both_68 ks_X7_179 (by assumption) (by rfl) (by omega) (by rfl) (by rfl) (by rfl) (m_costTo okc hK hR hsk h61 hs hS (by assumption)) ?_
              refine x_aload_n (pc := 71) dX7_both_71 rfl ?_
              refine x_iload_n (pc := 72) dX7_both_72 rfl ?_
              refine x_cv1p (ci := 7) (pc := 73) dX7_both_73 ks_X7_179 (by assumption) (by rfl) (by omega) (by rfl) (by rfl) (by rfl) (m_costTo okc hK hR hsk h61 hs hS (by assumption)) ?_
              first | refine xn_iadd (pc := 76) dX7_both_76 ?_ | refine x_iadd (pc := 76) dX7_both_76 ?_
              refine x_istore (pc := 77) dX7_both_77 rfl ?_
              refine x_iload (pc := 79) dX7_both_79 rfl ?_
              refine x_iload (pc := 81) dX7_both_81 rfl ?_
              refine x_icmp_ge_t (pc := 83) dX7_both_83 (tgt := 91) (by decide) (by rw [n_le (by omega) (by omega)]; omega) ?_
              refine x_iload (pc := 91) dX7_both_91 rfl ?_
              refine x_istore (pc := 93) dX7_both_93 rfl ?_
              refine x_iload (pc := 95) dX7_both_95 rfl ?_
              refine x_iload (pc := 97) dX7_both_97 rfl ?_
              refine x_icmp_ge_t (pc := 99) dX7_both_99 (tgt := 107) (by decide) (by rw [n_le (by omega) (by omega)]; omega) ?_
              refine x_iload (pc := 107) dX7_both_107 rfl ?_
              refine x_istore (pc := 109) dX7_both_109 rfl ?_
              refine xn_iinc (pc := 111) dX7_both_111 rfl rfl ?_
              refine x_goto (pc := 114) dX7_both_114 (tgt := 38) (by decide) ?_
              have hih := ih (j + 1) w2 (some (.int (nI (ctN C h.2 j u + ctN C h.2 j v)))) (by omega) hm2 hq2
              rw [hbs] at hih
              exact hih
          refine x_iload (pc := 38) dX7_both_38 rfl ?_
          refine x_aload_n (pc := 40) dX7_both_40 rfl ?_
          refine x_getf (pc := 41) dX7_both_41 kf_X7_13 (by assumption) (by rfl) ?_
          refine x_iconst (pc := 44) dX7_both_44 (v := nI 0) (by decide) ?_
          refine xn_iald (pc := 45) dX7_both_45 (by assumption) (by first | omega | assumption) (by rfl) ?_
          rw [e1]
          refine x_icmp_ge_f (pc := 46) dX7_both_46 (tgt := 117) (by decide) (nI_ge (by omega) (by omega)) ?_
          refine x_aload_n (pc := 49) dX7_both_49 rfl ?_
          refine x_getf (pc := 50) dX7_both_50 kf_X7_17 (by assumption) (by rfl) ?_
          refine x_iload (pc := 53) dX7_both_53 rfl ?_
          refine xn_iald (pc := 55) dX7_both_55 (by assumption) (by first | omega | assumption) (by rfl) ?_
          rw [(e4 j hjn).1, hk4]
          refine x_iconst (pc := 56) dX7_both_56 (v := nI 4) (by decide) ?_
          refine x_icmp_ne_f (pc := 57) dX7_both_57 (tgt := 111) (by decide) (fun q => q rfl) ?_
          refine x_aload_n (pc := 60) dX7_both_60 rfl ?_
          refine x_iload (pc := 61) dX7_both_61 rfl ?_
          refine x_cv1 (q1 := 0) (q2 := 0) (ci := 7) (pc := 63) dX7_both_63 ks_X7_157 (by assumption) (by rfl) (by omega) (by rfl) (by rfl) (by rfl) (m_solve okc hK hR h61 hs hB (o := some j) (fun b q => by cases q; omega)) (vo_kk fun w hP => ?_)
          obtain ⟨⟨F', hS⟩, hq3⟩ := hP
          exact body _ F' (hm1.tab hq3 hS.1) hS (fun i hi => (hq3 i (by omega)).trans (hq i hi))
        · have hbf := hnight j hk4
          have hb2 : btF e l1 l2 (j + 1) = btF e l1 l2 j := by rw [btF, if_neg (by rw [hbf]; decide)]
          refine x_iload (pc := 38) dX7_both_38 rfl ?_
          refine x_aload_n (pc := 40) dX7_both_40 rfl ?_
          refine x_getf (pc := 41) dX7_both_41 kf_X7_13 (by assumption) (by rfl) ?_
          refine x_iconst (pc := 44) dX7_both_44 (v := nI 0) (by decide) ?_
          refine xn_iald (pc := 45) dX7_both_45 (by assumption) (by first | omega | assumption) (by rfl) ?_
          rw [e1]
          refine x_icmp_ge_f (pc := 46) dX7_both_46 (tgt := 117) (by decide) (nI_ge (by omega) (by omega)) ?_
          refine x_aload_n (pc := 49) dX7_both_49 rfl ?_
          refine x_getf (pc := 50) dX7_both_50 kf_X7_17 (by assumption) (by rfl) ?_
          refine x_iload (pc := 53) dX7_both_53 rfl ?_
          refine xn_iald (pc := 55) dX7_both_55 (by assumption) (by first | omega | assumption) (by rfl) ?_
          rw [(e4 j hjn).1]
          refine x_iconst (pc := 56) dX7_both_56 (v := nI 4) (by decide) ?_
          refine x_icmp_ne_t (pc := 57) dX7_both_57 (tgt := 111) (by decide) (by rw [n_eq (by omega) (by omega)]; exact hk4) ?_
          refine xn_iinc (pc := 111) dX7_both_111 rfl rfl ?_
          refine x_goto (pc := 114) dX7_both_114 (tgt := 38) (by decide) ?_
          have hih := ih (j + 1) w1 z7 (by omega) hm1 hq
          rw [hb2] at hih
          exact hih
    refine x_aload_n (pc := 0) dX7_both_0 rfl ?_
    refine x_iload_n (pc := 1) dX7_both_1 rfl ?_
    refine x_cv1p (ci := 7) (pc := 2) dX7_both_2 ks_X7_167 (by assumption) (by rfl) (by omega) (by rfl) (by rfl) (by rfl) (c_m_isVerdict okc hK hC _) ?_
    refine x_if_eq (pc := 5) dX7_both_5 (tgt := 25) (by decide) (fun h_5 => ?_) (fun h_5 => ?_)
    · skip
      try first | rw [n_b0] at h_5 | rw [n_eq0 (by omega)] at h_5
      rw [hx] at h_5; cases h_5
    · skip
      try first | rw [n_b0] at h_5 | rw [n_eq0 (by omega)] at h_5
      refine x_aload_n (pc := 8) dX7_both_8 rfl ?_
      refine x_iload_n (pc := 9) dX7_both_9 rfl ?_
      refine x_cv1p (ci := 7) (pc := 10) dX7_both_10 ks_X7_167 (by assumption) (by rfl) (by omega) (by rfl) (by rfl) (by rfl) (c_m_isVerdict okc hK hC _) ?_
      refine x_if_eq (pc := 13) dX7_both_13 (tgt := 25) (by decide) (fun h_13 => ?_) (fun h_13 => ?_)
      · skip
        try first | rw [n_b0] at h_13 | rw [n_eq0 (by omega)] at h_13
        rw [hy] at h_13; cases h_13
      · skip
        try first | rw [n_b0] at h_13 | rw [n_eq0 (by omega)] at h_13
        refine x_iload_n (pc := 16) dX7_both_16 rfl ?_
        refine x_iconst (pc := 17) dX7_both_17 (v := nI 0) (by decide) ?_
        refine x_iconst (pc := 18) dX7_both_18 (v := nI 1) (by decide) ?_
        refine x_cs3p (pc := 19) dX7_both_19 ks_X7_82 (by omega) (by rfl) (by rfl) (by rfl) (c_in _ _ _) ?_
        rw [inI_y, hz]
        refine x_if_ne_t (pc := 22) dX7_both_22 (tgt := 27) (by decide) (by decide +kernel) ?_
        refine x_bipush (pc := 27) dX7_both_27 (v := -4) (by decide) ?_
        refine x_istore (pc := 29) dX7_both_29 rfl ?_
        refine x_ldc (pc := 31) dX7_both_31 kK_X7_144 ?_
        refine x_istore (pc := 33) dX7_both_33 rfl ?_
        refine x_iconst (pc := 35) dX7_both_35 (v := nI 0) (by decide) ?_
        refine x_istore (pc := 36) dX7_both_36 rfl ?_
        exact loop (cn C) 0 w _ (by omega) hm (fun _ _ => rfl)
  · have e : boS C h x y z = -1 := by rw [boS, if_neg hbad]
    have go25 : Run m_X7_both 3 0 0 25 [some (.ref 51), some (.int x), some (.int y), some (.int z), none, none, none, none] [] w n (PM (boS C h x y z) T C h L K w n) := by
      refine x_iconst (pc := 25) dX7_both_25 (v := -1) (by decide) ?_
      refine x_iret (pc := 26) dX7_both_26 rfl rfl ?_
      exact va_i ⟨by rw [e], hm0, fun _ _ => rfl⟩
    refine x_aload_n (pc := 0) dX7_both_0 rfl ?_
    refine x_iload_n (pc := 1) dX7_both_1 rfl ?_
    refine x_cv1p (ci := 7) (pc := 2) dX7_both_2 ks_X7_167 (by assumption) (by rfl) (by omega) (by rfl) (by rfl) (by rfl) (c_m_isVerdict okc hK hC _) ?_
    refine x_if_eq (pc := 5) dX7_both_5 (tgt := 25) (by decide) (fun h_5 => ?_) (fun h_5 => ?_)
    · skip
      try first | rw [n_b0] at h_5 | rw [n_eq0 (by omega)] at h_5
      exact go25
    · skip
      try first | rw [n_b0] at h_5 | rw [n_eq0 (by omega)] at h_5
      refine x_aload_n (pc := 8) dX7_both_8 rfl ?_
      refine x_iload_n (pc := 9) dX7_both_9 rfl ?_
      refine x_cv1p (ci := 7) (pc := 10) dX7_both_10 ks_X7_167 (by assumption) (by rfl) (by omega) (by rfl) (by rfl) (by rfl) (c_m_isVerdict okc hK hC _) ?_
      refine x_if_eq (pc := 13) dX7_both_13 (tgt := 25) (by decide) (fun h_13 => ?_) (fun h_13 => ?_)
      · skip
        try first | rw [n_b0] at h_13 | rw [n_eq0 (by omega)] at h_13
        exact go25
      · skip
        try first | rw [n_b0] at h_13 | rw [n_eq0 (by omega)] at h_13
        refine x_iload_n (pc := 16) dX7_both_16 rfl ?_
        refine x_iconst (pc := 17) dX7_both_17 (v := nI 0) (by decide) ?_
        refine x_iconst (pc := 18) dX7_both_18 (v := nI 1) (by decide) ?_
        refine x_cs3p (pc := 19) dX7_both_19 ks_X7_82 (by omega) (by rfl) (by rfl) (by rfl) (c_in _ _ _) ?_
        rw [inI_y]
        refine x_if_ne (pc := 22) dX7_both_22 (tgt := 27) (by decide) (fun h_22 => ?_) (fun h_22 => ?_)
        · skip
          try first | rw [n_b0] at h_22 | rw [n_eq0 (by omega)] at h_22
          simp only [Bool.not_eq_false] at h_5 h_13 h_22
          exact absurd ⟨h_5, h_13, h_22⟩ hbad
        · replace h_22 := Classical.not_not.mp h_22
          try first | rw [n_b0] at h_22 | rw [n_eq0 (by omega)] at h_22
          exact go25
theorem anyF_0 (f : Nat → Bool) : ∀ k b, anyF f 0 k b = false
  | 0, _ => rfl
  | k + 1, b => by rw [anyF, anyF_0 f k (b + 1)]; simp
theorem woF_any (C : Crt) (sk a : Nat) : ∀ k b, (woF C sk a k b).isSome = anyF (fun b => wonF C sk 8 (2 ^ a ||| 2 ^ b) b) (opn C a (2 ^ a) sk) k b
  | 0, _ => rfl
  | k + 1, b => by
    rw [woF, anyF, ← woF_any C sk a k (b + 1)]
    cases h : (opn C a (2 ^ a) sk).testBit b && wonF C sk 8 (2 ^ a ||| 2 ^ b) b with
    | true => rfl
    | false => rw [if_neg (by decide), Bool.false_or]
theorem won9 {C : Crt} {sk a : Nat} (h : kd C a ≠ 4) : wonF C sk 9 (2 ^ a) a = (woF C sk a 10 0).isSome := by
  rw [woF_any]
  have e : wonF C sk 9 (2 ^ a) a = if kd C a = 4 then decide (whoS C a ≠ 0) else if opn C a (2 ^ a) sk = 0 then false else (if anyF (fun b => wonF C sk 8 (2 ^ a ||| 2 ^ b) b == decide ((9 - 8) % 2 = 1)) (opn C a (2 ^ a) sk) 10 0 then decide ((9 - 8) % 2 = 1) else !decide ((9 - 8) % 2 = 1)) := rfl
  rw [e, if_neg h]
  have e2 : (fun b => wonF C sk 8 (2 ^ a ||| 2 ^ b) b == decide ((9 - 8) % 2 = 1)) = fun b => wonF C sk 8 (2 ^ a ||| 2 ^ b) b := by
    funext b
    cases wonF C sk 8 (2 ^ a ||| 2 ^ b) b <;> rfl
  rw [e2]
  by_cases h0 : opn C a (2 ^ a) sk = 0
  · rw [if_pos h0, h0, anyF_0]
  · rw [if_neg h0]
    cases anyF (fun b => wonF C sk 8 (2 ^ a ||| 2 ^ b) b) (opn C a (2 ^ a) sk) 10 0 <;> rfl
theorem woF_none (C : Crt) (sk a : Nat) : ∀ k b, opn C a (2 ^ a) sk < 2 ^ b → woF C sk a k b = none
  | 0, _, _ => rfl
  | k + 1, b, h => by
    rw [woF, bit_lt h (Nat.le_refl b), Bool.false_and, if_neg (by decide)]
    exact woF_none C sk a k (b + 1) (Nat.lt_trans h (pow_lt (by omega)))
theorem woF_end (C : Crt) (sk a : Nat) : ∀ k b j, opn C a (2 ^ a) sk < 2 ^ (b + k) → woF C sk a (k + j) b = woF C sk a k b
  | 0, b, j, h => by rw [Nat.zero_add, woF_none C sk a j b h]; rfl
  | k + 1, b, j, h => by
    rw [show k + 1 + j = k + j + 1 by omega, woF, woF, woF_end C sk a k (b + 1) j (by rw [show b + 1 + k = b + (k + 1) by omega]; exact h)]
def dcI : Nat → Int32
  | 0 => -1
  | j + 1 => nI j
theorem dc_eq : ∀ j, nI j + Int32.ofInt (-1) = dcI j
  | 0 => by decide +kernel
  | j + 1 => pk_m1 j
theorem m_byTurns {w : ax_W} {n : Nat} {T : List Nat} {C : Crt} {h : Hrg} {L K : List Hrg} (hm : isM w T C h L K) (ok : okX T C h L K) (okw : ∀ a, (vd C).testBit a = true → kd C a ≠ 4) (x y : Int32) : Run m_X7_byTurns 3 0 0 0 (l_ent m_X7_byTurns [.ref 51, .int x, .int y]) [] w n (PM (byS C h x y) T C h L K w n) := by
  have hm0 := hm
  have okc := ok.2.1
  have hn := okc.1
  have hsk := ok.2.2.1.sk okc
  obtain ⟨a0, s0, r0, D0, q1, q2, q3, hK, -, hC, -⟩ := id hm
  by_cases hbad : vtB C x = true ∧ y01 y = true
  · obtain ⟨hx, hy⟩ := hbad
    rcases vtB_cases okc x with hb' | ⟨v, hv, rfl, -⟩
    · rw [hx] at hb'; cases hb'
    have hcl : (nI v).toNatClampNeg = v := n_cl (by omega)
    have hp := pow_10 (show v < 10 by omega)
    have hkv : kd C v ≠ 4 := okw v (by rw [← vtB_n okc hv]; exact hx)
    have hop := opn_1024 okc (ch := 2 ^ v) (sk := h.2) hv
    have hopn := opn_lt okc (ch := 2 ^ v) (sk := h.2) hv
    have hwo : ∀ q, woF C h.2 v (cn C) 0 = some q → q < 10 := fun q hq => by have := woF_lt hq; omega
    have h10 : woF C h.2 v 10 0 = woF C h.2 v (cn C) 0 := by
      have := woF_end C h.2 v (cn C) 0 (10 - cn C) (by rw [Nat.zero_add]; exact hopn)
      rw [show cn C + (10 - cn C) = 10 by omega] at this
      exact this
    have hans : byS C h (nI v) y = if y = nI 0 then nI (bN (woS C h v).isSome) else rsI' (woS C h v) := by rw [byS, if_pos ⟨hx, hy⟩, hcl]
    have main : ∀ (w1 : ax_W) (F : Nat → Nat → Int32), isM w1 T C h L K → mS w1 C none h.2 F → same50 w w1 → ∀ (b : Bool), b = (woS C h v).isSome → Run m_X7_byTurns 3 0 0 51 [some (.ref 51), some (.int (nI v)), some (.int y), none, none, none, none, none] [.int (nI (bN b))] w1 n (PM (byS C h (nI v) y) T C h L K w n) := by
      intro w1 F hm1 hS hq b hb
      obtain ⟨ty, at_, so, un, ke, rl, f, -, hK, hR, h61, hs, -⟩ := hm1.op
      obtain ⟨fm, fk, fc, fds, fh, fv, fp, fd, h53, h54, h55, h56, h57, h58, h59, h60, e1, e2, e3, e4, e5⟩ := id hR
      obtain ⟨h62, h63, h64, h65, h66, h67, h68, h69, h70⟩ := id hS.1
      rcases (of_decide_eq_true hy : y = nI 0 ∨ y = nI 1) with rfl | rfl
      · rw [if_pos rfl, ← hb] at hans
        refine x_istore_n (pc := 51) dX7_byTurns_51 rfl ?_
        refine x_iload_n (pc := 52) dX7_byTurns_52 rfl ?_
        refine x_if_eq_t (pc := 53) dX7_byTurns_53 (tgt := 60) (by decide) rfl ?_
        refine x_iload_n (pc := 60) dX7_byTurns_60 rfl ?_
        refine x_if_ne_f (pc := 61) dX7_byTurns_61 (tgt := 76) (by decide) (fun q => q rfl) ?_
        refine x_iload_n (pc := 64) dX7_byTurns_64 rfl ?_
        refine x_if_eq (pc := 65) dX7_byTurns_65 (tgt := 72) (by decide) (fun h_65 => ?_) (fun h_65 => ?_)
        · skip
          try first | rw [n_b0] at h_65 | rw [n_eq0 (by omega)] at h_65
          refine x_iconst (pc := 72) dX7_byTurns_72 (v := nI 0) (by decide) ?_
          refine x_goto (pc := 73) dX7_byTurns_73 (tgt := 78) (by decide) ?_
          refine x_iret (pc := 78) dX7_byTurns_78 rfl rfl ?_
          exact va_i ⟨by rw [hans]; first | (rw [h_65]; rfl) | (simp only [Bool.not_eq_false] at h_65; rw [h_65]; rfl), hm1, hq⟩
        · skip
          try first | rw [n_b0] at h_65 | rw [n_eq0 (by omega)] at h_65
          refine x_iconst (pc := 68) dX7_byTurns_68 (v := nI 1) (by decide) ?_
          refine x_goto (pc := 69) dX7_byTurns_69 (tgt := 78) (by decide) ?_
          refine x_iret (pc := 78) dX7_byTurns_78 rfl rfl ?_
          exact va_i ⟨by rw [hans]; first | (rw [h_65]; rfl) | (simp only [Bool.not_eq_false] at h_65; rw [h_65]; rfl), hm1, hq⟩
      · rw [if_neg (by decide +kernel)] at hans
        cases b with
        | false =>
          have e : byS C h (nI v) (nI 1) = -4 := by
            rw [hans]
            cases ho : woS C h v with
            | none => rfl
            | some q => rw [ho] at hb; cases hb
          refine x_istore_n (pc := 51) dX7_byTurns_51 rfl ?_
          refine x_iload_n (pc := 52) dX7_byTurns_52 rfl ?_
          refine x_if_eq_f (pc := 53) dX7_byTurns_53 (tgt := 60) (by decide) (by decide +kernel) ?_
          refine x_iload_n (pc := 56) dX7_byTurns_56 rfl ?_
          refine x_if_ne_f (pc := 57) dX7_byTurns_57 (tgt := 79) (by decide) (fun q => q rfl) ?_
          refine x_iload_n (pc := 60) dX7_byTurns_60 rfl ?_
          refine x_if_ne_t (pc := 61) dX7_byTurns_61 (tgt := 76) (by decide) (by decide +kernel) ?_
          refine x_bipush (pc := 76) dX7_byTurns_76 (v := -4) (by decide) ?_
          refine x_iret (pc := 78) dX7_byTurns_78 rfl rfl ?_
          exact va_i ⟨by rw [e], hm1, hq⟩
        | true =>
          have hns : h.2.testBit v = false := by
            cases hb2 : h.2.testBit v with
            | false => rfl
            | true => rw [woS, if_pos hb2] at hb; cases hb
          have hwS : woS C h v = woF C h.2 v (cn C) 0 := by rw [woS, if_neg (by rw [hns]; decide), h10]
          rw [hwS] at hans
          have loop : ∀ j (z3 z7 : Option Value), j ≤ cn C → Run m_X7_byTurns 3 0 0 103 [some (.ref 51), some (.int (nI v)), some (.int (nI 1)), z3, some (.int (nI (opn C v (2 ^ v) h.2))), some (.int (rsI' (woF C h.2 v (cn C - j) j))), some (.int (dcI j)), z7] [] w1 n (PM (byS C h (nI v) (nI 1)) T C h L K w n) := by
            intro j
            induction j with
            | zero =>
              intro z3 z7 hj
              refine x_iload (pc := 103) dX7_byTurns_103 rfl ?_
              refine x_if_lt_t (pc := 105) dX7_byTurns_105 (tgt := 169) (by decide) (by show (-1 : Int32) < 0; decide +kernel) ?_
              refine x_iload (pc := 169) dX7_byTurns_169 rfl ?_
              refine x_iret (pc := 171) dX7_byTurns_171 rfl rfl ?_
              exact va_i ⟨by rw [hans]; rfl, hm1, hq⟩
            | succ j ih =>
              intro z3 z7 hj
              have hjn : j < cn C := by omega
              have hp2 := pow_10 (show j < 10 by omega)
              have hor : 2 ^ v ||| 2 ^ j < 1024 := or_1024 hp hp2
              have hwn : ∀ q, woF C h.2 v (cn C - (j + 1)) (j + 1) = some q → q < j + 1 + (cn C - (j + 1)) := fun _ => woF_lt
              have hst : woF C h.2 v (cn C - j) j = if (opn C v (2 ^ v) h.2).testBit j && wonF C h.2 8 (2 ^ v ||| 2 ^ j) j then some j else woF C h.2 v (cn C - (j + 1)) (j + 1) := by
                rw [show cn C - j = cn C - (j + 1) + 1 by omega, woF]
              have nxt : ∀ (o : Option Nat) (z7 : Option Value), o = woF C h.2 v (cn C - j) j → Run m_X7_byTurns 3 0 0 163 [some (.ref 51), some (.int (nI v)), some (.int (nI 1)), z3, some (.int (nI (opn C v (2 ^ v) h.2))), some (.int (rsI' o)), some (.int (nI j)), z7] [] w1 n (PM (byS C h (nI v) (nI 1)) T C h L K w n) := by
                intro o z7 ho
                subst ho
                refine x_iinc (pc := 163) dX7_byTurns_163 rfl rfl ?_
                rw [dc_eq]
                refine x_goto (pc := 166) dX7_byTurns_166 (tgt := 103) (by decide) ?_
                exact ih _ _ (by omega)
              have fin : ∀ (b : Bool), b = ((opn C v (2 ^ v) h.2).testBit j && wonF C h.2 8 (2 ^ v ||| 2 ^ j) j) → Run m_X7_byTurns 3 0 0 147 [some (.ref 51), some (.int (nI v)), some (.int (nI 1)), z3, some (.int (nI (opn C v (2 ^ v) h.2))), some (.int (rsI' (woF C h.2 v (cn C - (j + 1)) (j + 1)))), some (.int (nI j)), z7] [.int (nI (bN b))] w1 n (PM (byS C h (nI v) (nI 1)) T C h L K w n) := by
                intro b hb
                rw [← hb] at hst
                cases b with
                | false =>
                  refine x_istore (pc := 147) dX7_byTurns_147 rfl ?_
                  refine x_iload (pc := 149) dX7_byTurns_149 rfl ?_
                  refine x_if_eq_t (pc := 151) dX7_byTurns_151 (tgt := 159) (by decide) rfl ?_
                  refine x_iload (pc := 159) dX7_byTurns_159 rfl ?_
                  refine x_istore (pc := 161) dX7_byTurns_161 rfl ?_
                  exact nxt _ _ hst.symm
                | true =>
                  refine x_istore (pc := 147) dX7_byTurns_147 rfl ?_
                  refine x_iload (pc := 149) dX7_byTurns_149 rfl ?_
                  refine x_if_eq_f (pc := 151) dX7_byTurns_151 (tgt := 159) (by decide) (by decide +kernel) ?_
                  refine x_iload (pc := 154) dX7_byTurns_154 rfl ?_
                  refine x_goto (pc := 156) dX7_byTurns_156 (tgt := 161) (by decide) ?_
                  refine x_istore (pc := 161) dX7_byTurns_161 rfl ?_
                  exact nxt (some j) _ hst.symm
              refine x_iload (pc := 103) dX7_byTurns_103 rfl ?_
              refine x_if_lt_f (pc := 105) dX7_byTurns_105 (tgt := 169) (by decide) (nI_pos (by omega)) ?_
              refine x_iload (pc := 108) dX7_byTurns_108 rfl ?_
              refine x_iload (pc := 110) dX7_byTurns_110 rfl ?_
              first | refine xn_ishr (pc := 112) dX7_byTurns_112 (by omega) (by omega) ?_ | refine x_ishr (pc := 112) dX7_byTurns_112 ?_
              refine x_iconst (pc := 113) dX7_byTurns_113 (v := nI 1) (by decide) ?_
              first | refine xn_bit (pc := 114) dX7_byTurns_114 ?_ | refine xn_nd (pc := 114) dX7_byTurns_114 ?_ | refine xn_iand (pc := 114) dX7_byTurns_114 ?_ | refine x_iand (pc := 114) dX7_byTurns_114 ?_
              refine x_iconst (pc := 115) dX7_byTurns_115 (v := nI 1) (by decide) ?_
              refine x_icmp_ne (pc := 116) dX7_byTurns_116 (tgt := 146) (by decide) (fun h_116 => ?_) (fun h_116 => ?_)
              · skip
                try first | rw [n_b1] at h_116 | rw [n_b00] at h_116 | rw [n_eq (by omega) (by omega)] at h_116
                have e : false = ((opn C v (2 ^ v) h.2).testBit j && wonF C h.2 8 (2 ^ v ||| 2 ^ j) j) := by rw [show (opn C v (2 ^ v) h.2).testBit j = false by simpa using h_116]; rfl
                refine x_iconst (pc := 146) dX7_byTurns_146 (v := nI 0) (by decide) ?_
                exact fin _ e
              · replace h_116 := Classical.not_not.mp h_116
                try first | rw [n_b1] at h_116 | rw [n_b00] at h_116 | rw [n_eq (by omega) (by omega)] at h_116
                have hbt : (opn C v (2 ^ v) h.2).testBit j = true := by simpa using h_116
                have hcb : (2 ^ v : Nat).testBit j = false := by
                  rw [opn_bit okc hv] at hbt
                  simp only [Bool.and_eq_true, Bool.not_eq_true'] at hbt
                  exact hbt.1.2
                have htb := hS.2 (2 ^ v ||| 2 ^ j) j (Nat.or_lt_two_pow (pow_lt hv) (pow_lt hjn)) hjn (by rw [b_orp]; simp)
                unfold tbK at htb
                rw [cnt_bit 10 j (by omega) hcb, cnt_pow v (by omega)] at htb
                have t8 : F 8 (10 * (2 ^ v ||| 2 ^ j) + j) = nI (bN (wonF C h.2 8 (2 ^ v ||| 2 ^ j) j)) := htb.2.2.2.2.2.2.2.2
                refine x_aload_n (pc := 119) dX7_byTurns_119 rfl ?_
                refine x_getf (pc := 120) dX7_byTurns_120 kf_X7_65 (by assumption) (by rfl) ?_
                refine x_bipush (pc := 123) dX7_byTurns_123 (v := nI 10) (by decide) ?_
                refine x_iconst (pc := 125) dX7_byTurns_125 (v := nI 1) (by decide) ?_
                refine x_iload_n (pc := 126) dX7_byTurns_126 rfl ?_
                first | refine xn_shl1 (pc := 127) dX7_byTurns_127 (by omega) ?_ | refine xn_ishl (pc := 127) dX7_byTurns_127 (by omega) (by omega) ?_ | refine x_ishl (pc := 127) dX7_byTurns_127 ?_
                refine x_iconst (pc := 128) dX7_byTurns_128 (v := nI 1) (by decide) ?_
                refine x_iload (pc := 129) dX7_byTurns_129 rfl ?_
                first | refine xn_shl1 (pc := 131) dX7_byTurns_131 (by omega) ?_ | refine xn_ishl (pc := 131) dX7_byTurns_131 (by omega) (by omega) ?_ | refine x_ishl (pc := 131) dX7_byTurns_131 ?_
                first | refine xn_ior (pc := 132) dX7_byTurns_132 ?_ | refine x_ior (pc := 132) dX7_byTurns_132 ?_
                first | refine xn_imul (pc := 133) dX7_byTurns_133 ?_ | refine x_imul (pc := 133) dX7_byTurns_133 ?_
                refine x_iload (pc := 134) dX7_byTurns_134 rfl ?_
                first | refine xn_iadd (pc := 136) dX7_byTurns_136 ?_ | refine x_iadd (pc := 136) dX7_byTurns_136 ?_
                refine xn_iald (pc := 137) dX7_byTurns_137 (by assumption) (by first | omega | assumption) (by rfl) ?_
                rw [t8]
                refine x_iconst (pc := 138) dX7_byTurns_138 (v := nI 1) (by decide) ?_
                refine x_icmp_ne (pc := 139) dX7_byTurns_139 (tgt := 146) (by decide) (fun h_139 => ?_) (fun h_139 => ?_)
                · skip
                  try first | rw [n_b1] at h_139 | rw [n_b00] at h_139 | rw [n_eq (by omega) (by omega)] at h_139
                  have e : false = ((opn C v (2 ^ v) h.2).testBit j && wonF C h.2 8 (2 ^ v ||| 2 ^ j) j) := by simp only [Bool.not_eq_true] at h_139; rw [hbt, h_139]; rfl
                  refine x_iconst (pc := 146) dX7_byTurns_146 (v := nI 0) (by decide) ?_
                  exact fin _ e
                · replace h_139 := Classical.not_not.mp h_139
                  try first | rw [n_b1] at h_139 | rw [n_b00] at h_139 | rw [n_eq (by omega) (by omega)] at h_139
                  have e : true = ((opn C v (2 ^ v) h.2).testBit j && wonF C h.2 8 (2 ^ v ||| 2 ^ j) j) := by rw [hbt, h_139]; rfl
                  refine x_iconst (pc := 142) dX7_byTurns_142 (v := nI 1) (by decide) ?_
                  refine x_goto (pc := 143) dX7_byTurns_143 (tgt := 147) (by decide) ?_
                  exact fin _ e
          refine x_istore_n (pc := 51) dX7_byTurns_51 rfl ?_
          refine x_iload_n (pc := 52) dX7_byTurns_52 rfl ?_
          refine x_if_eq_f (pc := 53) dX7_byTurns_53 (tgt := 60) (by decide) (by decide +kernel) ?_
          refine x_iload_n (pc := 56) dX7_byTurns_56 rfl ?_
          refine x_if_ne_t (pc := 57) dX7_byTurns_57 (tgt := 79) (by decide) (by decide +kernel) ?_
          refine x_aload_n (pc := 79) dX7_byTurns_79 rfl ?_
          refine x_iload_n (pc := 80) dX7_byTurns_80 rfl ?_
          refine x_iconst (pc := 81) dX7_byTurns_81 (v := nI 1) (by decide) ?_
          refine x_iload_n (pc := 82) dX7_byTurns_82 rfl ?_
          first | refine xn_shl1 (pc := 83) dX7_byTurns_83 (by omega) ?_ | refine xn_ishl (pc := 83) dX7_byTurns_83 (by omega) (by omega) ?_ | refine x_ishl (pc := 83) dX7_byTurns_83 ?_
          refine x_cv2p (ci := 7) (pc := 84) dX7_byTurns_84 ks_X7_131 (by assumption) (by rfl) (by omega) (by rfl) (by rfl) (by rfl) (m_behind okc hK hR h61 hs hv) ?_
          refine x_istore (pc := 87) dX7_byTurns_87 rfl ?_
          refine x_bipush (pc := 89) dX7_byTurns_89 (v := -4) (by decide) ?_
          refine x_istore (pc := 91) dX7_byTurns_91 rfl ?_
          refine x_aload_n (pc := 93) dX7_byTurns_93 rfl ?_
          refine x_getf (pc := 94) dX7_byTurns_94 kf_X7_13 (by assumption) (by rfl) ?_
          refine x_iconst (pc := 97) dX7_byTurns_97 (v := nI 0) (by decide) ?_
          refine xn_iald (pc := 98) dX7_byTurns_98 (by assumption) (by first | omega | assumption) (by rfl) ?_
          rw [e1]
          refine x_iconst (pc := 99) dX7_byTurns_99 (v := nI 1) (by decide) ?_
          first | refine xn_isub (pc := 100) dX7_byTurns_100 (by omega) ?_ | refine x_isub (pc := 100) dX7_byTurns_100 ?_
          refine x_istore (pc := 101) dX7_byTurns_101 rfl ?_
          have hl := loop (cn C) (some (.int (nI 1))) none (Nat.le_refl _)
          rw [Nat.sub_self] at hl
          obtain ⟨c, hc⟩ : ∃ c, cn C = c + 1 := ⟨cn C - 1, by omega⟩
          rw [show dcI (cn C) = nI (cn C - 1) by rw [hc]; rfl] at hl
          exact hl
    obtain ⟨ty, at_, so, un, ke, rl, f, F0, hK2, hR, h61, hs, hB⟩ := hm.op
    refine x_aload_n (pc := 0) dX7_byTurns_0 rfl ?_
    refine x_iload_n (pc := 1) dX7_byTurns_1 rfl ?_
    refine x_cv1p (ci := 7) (pc := 2) dX7_byTurns_2 ks_X7_167 (by assumption) (by rfl) (by omega) (by rfl) (by rfl) (by rfl) (c_m_isVerdict okc hK hC _) ?_
    refine x_if_eq (pc := 5) dX7_byTurns_5 (tgt := 17) (by decide) (fun h_5 => ?_) (fun h_5 => ?_)
    · skip
      try first | rw [n_b0] at h_5 | rw [n_eq0 (by omega)] at h_5
      rw [hx] at h_5; cases h_5
    · skip
      try first | rw [n_b0] at h_5 | rw [n_eq0 (by omega)] at h_5
      refine x_iload_n (pc := 8) dX7_byTurns_8 rfl ?_
      refine x_iconst (pc := 9) dX7_byTurns_9 (v := nI 0) (by decide) ?_
      refine x_iconst (pc := 10) dX7_byTurns_10 (v := nI 1) (by decide) ?_
      refine x_cs3p (pc := 11) dX7_byTurns_11 ks_X7_82 (by omega) (by rfl) (by rfl) (by rfl) (c_in _ _ _) ?_
      rw [inI_y, hy]
      refine x_if_ne_t (pc := 14) dX7_byTurns_14 (tgt := 19) (by decide) (by decide +kernel) ?_
      refine x_aload_n (pc := 19) dX7_byTurns_19 rfl ?_
      refine x_bipush (pc := 20) dX7_byTurns_20 (v := -4) (by decide) ?_
      refine x_cv1 (q1 := 0) (q2 := 0) (ci := 7) (pc := 22) dX7_byTurns_22 ks_X7_157 (by assumption) (by rfl) (by omega) (by rfl) (by rfl) (by rfl) (m_solve okc hK2 hR h61 hs hB (o := none) (fun b q => by cases q)) (vo_kk fun w hP => ?_)
      obtain ⟨⟨F', hS⟩, hq3⟩ := hP
      have hm' := hm.tab hq3 hS.1
      have hqq : same50 _ _ := fun i hi => hq3 i (by omega)
      clear hK hC hK2 hR h61 hs hB
      obtain ⟨ty, at_, so, un, ke, rl, f, -, hK, hR, h61, hs, -⟩ := hm'.op
      obtain ⟨t0, t1, t2, t3, t4, t5, t6, t7, t8⟩ := hS.row okc hv
      obtain ⟨h62, h63, h64, h65, h66, h67, h68, h69, h70⟩ := id hS.1
      rw [won9 hkv] at t8
      refine x_aload_n (pc := 25) dX7_byTurns_25 rfl ?_
      refine x_iload_n (pc := 26) dX7_byTurns_26 rfl ?_
      refine x_cv1p (ci := 7) (pc := 27) dX7_byTurns_27 ks_X7_161 (by assumption) (by rfl) (by omega) (by rfl) (by rfl) (by rfl) (m_isStruck hK hsk h61 hs (by omega)) ?_
      refine x_if_ne (pc := 30) dX7_byTurns_30 (tgt := 50) (by decide) (fun h_30 => ?_) (fun h_30 => ?_)
      · skip
        try first | rw [n_b0] at h_30 | rw [n_eq0 (by omega)] at h_30
        have e : false = (woS C h v).isSome := by simp only [Bool.not_eq_false] at h_30; rw [woS, if_pos h_30]; rfl
        refine x_iconst (pc := 50) dX7_byTurns_50 (v := nI 0) (by decide) ?_
        exact main _ F' hm' hS hqq _ e
      · replace h_30 := Classical.not_not.mp h_30
        try first | rw [n_b0] at h_30 | rw [n_eq0 (by omega)] at h_30
        have hwS : woS C h v = woF C h.2 v 10 0 := by rw [woS, if_neg (by rw [h_30]; decide)]
        refine x_aload_n (pc := 33) dX7_byTurns_33 rfl ?_
        refine x_getf (pc := 34) dX7_byTurns_34 kf_X7_65 (by assumption) (by rfl) ?_
        refine x_iload_n (pc := 37) dX7_byTurns_37 rfl ?_
        refine x_cs1p (pc := 38) dX7_byTurns_38 ks_X7_164 (by omega) (by rfl) (by rfl) (by rfl) (m_rowOf (by omega)) ?_
        refine xn_iald (pc := 41) dX7_byTurns_41 (by assumption) (by first | omega | assumption) (by rfl) ?_
        rw [t8]
        refine x_iconst (pc := 42) dX7_byTurns_42 (v := nI 1) (by decide) ?_
        refine x_icmp_ne (pc := 43) dX7_byTurns_43 (tgt := 50) (by decide) (fun h_43 => ?_) (fun h_43 => ?_)
        · skip
          try first | rw [n_b1] at h_43 | rw [n_b00] at h_43 | rw [n_eq (by omega) (by omega)] at h_43
          have e : false = (woS C h v).isSome := by simp only [Bool.not_eq_true] at h_43; rw [hwS, h_43]
          refine x_iconst (pc := 50) dX7_byTurns_50 (v := nI 0) (by decide) ?_
          exact main _ F' hm' hS hqq _ e
        · replace h_43 := Classical.not_not.mp h_43
          try first | rw [n_b1] at h_43 | rw [n_b00] at h_43 | rw [n_eq (by omega) (by omega)] at h_43
          have e : true = (woS C h v).isSome := by rw [hwS, h_43]
          refine x_iconst (pc := 46) dX7_byTurns_46 (v := nI 1) (by decide) ?_
          refine x_goto (pc := 47) dX7_byTurns_47 (tgt := 51) (by decide) ?_
          exact main _ F' hm' hS hqq _ e
  · have e : byS C h x y = -1 := by rw [byS, if_neg hbad]
    have go17 : Run m_X7_byTurns 3 0 0 17 [some (.ref 51), some (.int x), some (.int y), none, none, none, none, none] [] w n (PM (byS C h x y) T C h L K w n) := by
      refine x_iconst (pc := 17) dX7_byTurns_17 (v := -1) (by decide) ?_
      refine x_iret (pc := 18) dX7_byTurns_18 rfl rfl ?_
      exact va_i ⟨by rw [e], hm0, fun _ _ => rfl⟩
    refine x_aload_n (pc := 0) dX7_byTurns_0 rfl ?_
    refine x_iload_n (pc := 1) dX7_byTurns_1 rfl ?_
    refine x_cv1p (ci := 7) (pc := 2) dX7_byTurns_2 ks_X7_167 (by assumption) (by rfl) (by omega) (by rfl) (by rfl) (by rfl) (c_m_isVerdict okc hK hC _) ?_
    refine x_if_eq (pc := 5) dX7_byTurns_5 (tgt := 17) (by decide) (fun h_5 => ?_) (fun h_5 => ?_)
    · skip
      try first | rw [n_b0] at h_5 | rw [n_eq0 (by omega)] at h_5
      exact go17
    · skip
      try first | rw [n_b0] at h_5 | rw [n_eq0 (by omega)] at h_5
      refine x_iload_n (pc := 8) dX7_byTurns_8 rfl ?_
      refine x_iconst (pc := 9) dX7_byTurns_9 (v := nI 0) (by decide) ?_
      refine x_iconst (pc := 10) dX7_byTurns_10 (v := nI 1) (by decide) ?_
      refine x_cs3p (pc := 11) dX7_byTurns_11 ks_X7_82 (by omega) (by rfl) (by rfl) (by rfl) (c_in _ _ _) ?_
      rw [inI_y]
      refine x_if_ne (pc := 14) dX7_byTurns_14 (tgt := 19) (by decide) (fun h_14 => ?_) (fun h_14 => ?_)
      · skip
        try first | rw [n_b0] at h_14 | rw [n_eq0 (by omega)] at h_14
        simp only [Bool.not_eq_false] at h_5 h_14
        exact absurd ⟨h_5, h_14⟩ hbad
      · replace h_14 := Classical.not_not.mp h_14
        try first | rw [n_b0] at h_14 | rw [n_eq0 (by omega)] at h_14
        exact go17
