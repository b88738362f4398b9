/-! the reference's reader -/
def hrI (T : List Nat) (p : Nat) : Int32 := if p < T.length then nI (T.getD p 0) else -1
theorem hrI_dg {T : List Nat} {p : Nat} (h : dgB T p = true) : hrI T p = nI (T.getD p 0) := if_pos (of_decide_eq_true h).1
theorem hr_lt {T : List Nat} (okt : okT T) {p c : Nat} (hc : c < 1000) : hrI T p = nI c ↔ ltI T p = nI c := by
  unfold hrI ltI
  by_cases hp : p < T.length
  · rw [if_pos hp, if_pos hp]
  · rw [if_neg hp, if_neg hp]
    have e : (nI c).toInt = c := nI_toInt (by omega)
    have e1 : ((-1 : Int32)).toInt = -1 := by decide +kernel
    have e4 : ((-4 : Int32)).toInt = -4 := by decide +kernel
    refine ⟨fun h => ?_, fun h => ?_⟩
    · have := congrArg Int32.toInt h
      rw [e, e1] at this; omega
    · have := congrArg Int32.toInt h
      rw [e, e4] at this; omega
theorem figI_hr {T : List Nat} (ok : okT T) (p : Nat) : inI (hrI T p) (nI 48) (nI 57) = dgB T p := by
  unfold inI dgB hrI
  by_cases hp : p < T.length
  · have := ok.2 p hp
    simp only [if_pos hp]
    refine decide_eq_decide.mpr ?_
    rw [n_lt (by omega) (by omega), n_lt (by omega) (by omega)]
    exact ⟨fun h => by omega, fun h => by omega⟩
  · simp only [if_neg hp]
    refine decide_eq_decide.mpr ?_
    have e1 : (-1 : Int32) < nI 48 := by decide +kernel
    exact ⟨fun h => absurd e1 h.1, fun h => absurd h.1 hp⟩
theorem m_here {w : ax_W} {n : Nat} {T : List Nat} (okt : okT T) {p : Nat} (hp : p < 100000) {so un ke rl : Int32} (hK : w 51 = om (nI T.length) (nI p) so un ke rl) (ht : mT w T) : Run m_X7_here 0 0 0 0 (l_ent m_X7_here [.ref 51]) [] w n (Pu (.int (hrI T p)) w n) := by
  have hl := okt.1
  obtain ⟨f, ht, hf⟩ := ht
  refine x_aload_n (pc := 0) dX7_here_0 rfl ?_
  refine x_getf (pc := 1) dX7_here_1 kf_X7_90 (by first | assumption | exact hC.1 | exact hH.1 | exact hV0.1 | exact hT.1) (by rfl) ?_
  refine x_aload_n (pc := 4) dX7_here_4 rfl ?_
  refine x_getf (pc := 5) dX7_here_5 kf_X7_86 (by first | assumption | exact hC.1 | exact hH.1 | exact hV0.1 | exact hT.1) (by rfl) ?_
  refine x_icmp_ge (pc := 8) dX7_here_8 (tgt := 23) (by decide) (fun h_8 => ?_) (fun h_8 => ?_)
  · skip
    try first | rw [n_b1] at h_8 | rw [n_b00] at h_8 | rw [n_le (by omega) (by omega)] at h_8
    have e : hrI T p = -1 := by rw [hrI, if_neg (by omega)]
    refine x_iconst (pc := 23) dX7_here_23 (v := -1) (by decide) ?_
    refine x_iret (pc := 24) dX7_here_24 rfl rfl ?_
    exact pu_i (by rw [e])
  · skip
    try first | rw [n_b1] at h_8 | rw [n_b00] at h_8 | rw [n_le (by omega) (by omega)] at h_8
    have e : hrI T p = f p := by rw [hrI, if_pos (by omega), hf p (by omega)]
    refine x_aload_n (pc := 11) dX7_here_11 rfl ?_
    refine x_getf (pc := 12) dX7_here_12 kf_X7_7 (by first | assumption | exact hC.1 | exact hH.1 | exact hV0.1 | exact hT.1) (by rfl) ?_
    refine x_aload_n (pc := 15) dX7_here_15 rfl ?_
    refine x_getf (pc := 16) dX7_here_16 kf_X7_90 (by first | assumption | exact hC.1 | exact hH.1 | exact hV0.1 | exact hT.1) (by rfl) ?_
    refine xn_bald (pc := 19) dX7_here_19 (by assumption) (by first | omega | assumption) (by rfl) ?_
    refine x_goto (pc := 20) dX7_here_20 (tgt := 24) (by decide) ?_
    refine x_iret (pc := 24) dX7_here_24 rfl rfl ?_
    exact pu_i (by rw [e])
theorem fgS_nd {T : List Nat} {p : Nat} (h : fgS T p < 2) : dgB T (p + fgS T p) = false := by
  unfold fgS at h ⊢
  by_cases h1 : dgB T p = true
  · rw [if_pos h1] at h ⊢
    by_cases h2 : dgB T (p + 1) = true
    · rw [if_pos h2] at h; omega
    · rw [if_neg h2]; simpa using h2
  · rw [if_neg h1]; simpa using h1
def nmB (T : List Nat) (p : Nat) (hi bh : Int32) : Bool := decide (fgS T p ≠ 0 ∧ ¬ hi < nI (numS T p (fgS T p)) ∧ hrI T (p + fgS T p) = bh)
theorem m_number {w0 : ax_W} {n : Nat} {T : List Nat} (okt : okT T) {p : Nat} (hp : p < 10000) {so : Bool} {un ke rl hi bh : Int32} (hK : w0 51 = om (nI T.length) (nI p) (nI (bN so)) un ke rl) (ht : mT w0 T) : Run m_X7_number 1 0 0 0 (l_ent m_X7_number [.ref 51, .int (nI 0), .int hi, .int bh]) [] w0 n (Va (fun v w' => v = .int (nI (numS T p (fgS T p))) ∧ w' 51 = om (nI T.length) (nI (p + fgS T p + 1)) (nI (bN (so && nmB T p hi bh))) un ke rl ∧ ∀ j, j ≠ 51 → w' j = w0 j) n) := by
  have hl := okt.1
  have hg := fgS_le T p
  have h100 := num_100 (T := T) (p := p)
  have hfr : ∀ j, j ≠ 51 → w0 j = w0 j := fun _ _ => rfl
  have loop : ∀ m i (w : ax_W), i + m = fgS T p → w 51 = om (nI T.length) (nI (p + i)) (nI (bN so)) un ke rl → mT w T → (∀ j, j ≠ 51 → w j = w0 j) → Run m_X7_number 1 0 0 6 [some (.ref 51), some (.int (nI 0)), some (.int hi), some (.int bh), some (.int (nI (numS T p i))), some (.int (nI i))] [] w n (Va (fun v w' => v = .int (nI (numS T p (fgS T p))) ∧ w' 51 = om (nI T.length) (nI (p + fgS T p + 1)) (nI (bN (so && nmB T p hi bh))) un ke rl ∧ ∀ j, j ≠ 51 → w' j = w0 j) n) := by
    intro m
    induction m with
    | zero =>
      intro i w hi2 hK ht hfr
      have hii : i = fgS T p := by omega
      subst hii
      have st57 : Run m_X7_number 1 0 0 57 [some (.ref 51), some (.int (nI 0)), some (.int hi), some (.int bh), some (.int (nI (numS T p (fgS T p)))), some (.int (nI (fgS T p)))] [] w n (Va (fun v w' => v = .int (nI (numS T p (fgS T p))) ∧ w' 51 = om (nI T.length) (nI (p + fgS T p + 1)) (nI (bN (so && nmB T p hi bh))) un ke rl ∧ ∀ j, j ≠ 51 → w' j = w0 j) n) := by
        have fin : ∀ q : Bool, q = (so && nmB T p hi bh) → Run m_X7_number 1 0 0 93 [some (.ref 51), some (.int (nI 0)), some (.int hi), some (.int bh), some (.int (nI (numS T p (fgS T p)))), some (.int (nI (fgS T p)))] [.int (nI (bN q)), .ref 51] w n (Va (fun v w' => v = .int (nI (numS T p (fgS T p))) ∧ w' 51 = om (nI T.length) (nI (p + fgS T p + 1)) (nI (bN (so && nmB T p hi bh))) un ke rl ∧ ∀ j, j ≠ 51 → w' j = w0 j) n) := by
          intro q hq
          rw [← hq]
          refine xw_putz (pc := 93) dX7_number_93 kf_X7_97 (by assumption) (by rfl) (by rfl) rfl rfl (by first | exact bN_lt _ | decide | omega) (fun w hnew hne => ?_)
          replace hK := hnew
          replace hfr := fun j (hj : j ≠ 51) => (hne j (by omega)).trans (hfr j hj)
          clear hne
          refine x_aload_n (pc := 96) dX7_number_96 rfl ?_
          refine x_dup (pc := 97) dX7_number_97 rfl ?_
          refine x_getf (pc := 98) dX7_number_98 kf_X7_90 (by first | assumption | exact hC.1 | exact hH.1 | exact hV0.1 | exact hT.1) (by rfl) ?_
          refine x_iconst (pc := 101) dX7_number_101 (v := nI 1) (by decide) ?_
          first | refine xn_iadd (pc := 102) dX7_number_102 ?_ | refine x_iadd (pc := 102) dX7_number_102 ?_
          refine xw_puti (pc := 103) dX7_number_103 kf_X7_90 (by assumption) (by rfl) (by rfl) rfl rfl (fun w hnew hne => ?_)
          replace hK := hnew
          replace hfr := fun j (hj : j ≠ 51) => (hne j (by omega)).trans (hfr j hj)
          clear hne
          refine x_iload (pc := 106) dX7_number_106 rfl ?_
          refine x_iret (pc := 108) dX7_number_108 rfl rfl ?_
          exact va_i ⟨rfl, hK, hfr⟩
        refine x_aload_n (pc := 57) dX7_number_57 rfl ?_
        refine x_aload_n (pc := 58) dX7_number_58 rfl ?_
        refine x_getf (pc := 59) dX7_number_59 kf_X7_97 (by first | assumption | exact hC.1 | exact hH.1 | exact hV0.1 | exact hT.1) (by rfl) ?_
        refine x_if_eq (pc := 62) dX7_number_62 (tgt := 92) (by decide) (fun h_62 => ?_) (fun h_62 => ?_)
        · skip
          try first | rw [n_b0] at h_62 | rw [n_eq0 (by omega)] at h_62
          have e : false = (so && nmB T p hi bh) := by rw [h_62]; rfl
          refine x_iconst (pc := 92) dX7_number_92 (v := nI 0) (by decide) ?_
          exact fin _ e
        · skip
          try first | rw [n_b0] at h_62 | rw [n_eq0 (by omega)] at h_62
          have h62 : so = true := by simpa using h_62
          refine x_iload (pc := 65) dX7_number_65 rfl ?_
          refine x_if_le (pc := 67) dX7_number_67 (tgt := 92) (by decide) (fun h_67 => ?_) (fun h_67 => ?_)
          · skip
            try first | rw [n_b0] at h_67 | rw [n_le0 (by omega)] at h_67
            have e : false = (so && nmB T p hi bh) := by unfold nmB; simp [h_67]
            refine x_iconst (pc := 92) dX7_number_92 (v := nI 0) (by decide) ?_
            exact fin _ e
          · skip
            try first | rw [n_b0] at h_67 | rw [n_le0 (by omega)] at h_67
            have h67 : fgS T p ≠ 0 := by omega
            refine x_iload (pc := 70) dX7_number_70 rfl ?_
            refine x_iload_n (pc := 72) dX7_number_72 rfl ?_
            refine x_iload_n (pc := 73) dX7_number_73 rfl ?_
            refine x_cs3p (pc := 74) dX7_number_74 ks_X7_82 (by omega) (by rfl) (by rfl) (by rfl) (c_in _ _ _) ?_
            rw [show inI (nI (numS T p (fgS T p))) (nI 0) hi = decide (¬ hi < nI (numS T p (fgS T p))) from decide_eq_decide.mpr ⟨fun z => z.2, fun z => ⟨nI_pos (by omega), z⟩⟩]
            refine x_if_eq (pc := 77) dX7_number_77 (tgt := 92) (by decide) (fun h_77 => ?_) (fun h_77 => ?_)
            · skip
              try first | rw [n_b0] at h_77 | rw [n_eq0 (by omega)] at h_77
              simp at h_77
              have e : false = (so && nmB T p hi bh) := by unfold nmB; simp [h_77]
              refine x_iconst (pc := 92) dX7_number_92 (v := nI 0) (by decide) ?_
              exact fin _ e
            · skip
              try first | rw [n_b0] at h_77 | rw [n_eq0 (by omega)] at h_77
              simp at h_77
              refine x_aload_n (pc := 80) dX7_number_80 rfl ?_
              refine x_cv0p (ci := 7) (pc := 81) dX7_number_81 ks_X7_93 (by first | assumption | exact hC.1 | exact hH.1 | exact hV0.1 | exact hT.1) (by rfl) (by omega) (by rfl) (by rfl) (by rfl) (m_here okt (by omega) hK ht) ?_
              refine x_iload_n (pc := 84) dX7_number_84 rfl ?_
              refine x_icmp_ne (pc := 85) dX7_number_85 (tgt := 92) (by decide) (fun h_85 => ?_) (fun h_85 => ?_)
              · skip
                try first | rw [n_b1] at h_85 | rw [n_b00] at h_85 | rw [n_eq (by omega) (by omega)] at h_85
                have e : false = (so && nmB T p hi bh) := by unfold nmB; simp [h_85]
                refine x_iconst (pc := 92) dX7_number_92 (v := nI 0) (by decide) ?_
                exact fin _ e
              · replace h_85 := Classical.not_not.mp h_85
                try first | rw [n_b1] at h_85 | rw [n_b00] at h_85 | rw [n_eq (by omega) (by omega)] at h_85
                have e : true = (so && nmB T p hi bh) := by unfold nmB; rw [h62]; simp [h67, h_77, h_85]
                refine x_iconst (pc := 88) dX7_number_88 (v := nI 1) (by decide) ?_
                refine x_goto (pc := 89) dX7_number_89 (tgt := 93) (by decide) ?_
                exact fin _ e
      by_cases h2 : fgS T p < 2
      · have hnd := fgS_nd h2
        refine x_iload (pc := 6) dX7_number_6 rfl ?_
        refine x_iconst (pc := 8) dX7_number_8 (v := nI 2) (by decide) ?_
        refine x_icmp_ge_f (pc := 9) dX7_number_9 (tgt := 57) (by decide) (by rw [n_le (by omega) (by omega)]; omega) ?_
        refine x_aload_n (pc := 12) dX7_number_12 rfl ?_
        refine x_cv0p (ci := 7) (pc := 13) dX7_number_13 ks_X7_93 (by first | assumption | exact hC.1 | exact hH.1 | exact hV0.1 | exact hT.1) (by rfl) (by omega) (by rfl) (by rfl) (by rfl) (m_here okt (by omega) hK ht) ?_
        refine x_bipush (pc := 16) dX7_number_16 (v := nI 48) (by decide) ?_
        refine x_bipush (pc := 18) dX7_number_18 (v := nI 57) (by decide) ?_
        refine x_cs3p (pc := 20) dX7_number_20 ks_X7_82 (by omega) (by rfl) (by rfl) (by rfl) (c_in _ _ _) ?_
        rw [figI_hr okt, hnd]
        refine x_if_eq_t (pc := 23) dX7_number_23 (tgt := 57) (by decide) rfl ?_
        exact st57
      · refine x_iload (pc := 6) dX7_number_6 rfl ?_
        refine x_iconst (pc := 8) dX7_number_8 (v := nI 2) (by decide) ?_
        refine x_icmp_ge_t (pc := 9) dX7_number_9 (tgt := 57) (by decide) (by rw [n_le (by omega) (by omega)]; omega) ?_
        exact st57
    | succ m ih =>
      intro i w hi2 hK ht hfr
      have hdg := fgS_dg (show i < fgS T p by omega)
      have hd := of_decide_eq_true hdg
      have hn100 : numS T p i < 100 := by
        have := numS_lt (T := T) (p := p) (g := i) (fun j hj => fgS_dg (by omega))
        have h1 : 10 ^ i ≤ 10 ^ 1 := Nat.pow_le_pow_right (by omega) (by omega)
        omega
      refine x_iload (pc := 6) dX7_number_6 rfl ?_
      refine x_iconst (pc := 8) dX7_number_8 (v := nI 2) (by decide) ?_
      refine x_icmp_ge_f (pc := 9) dX7_number_9 (tgt := 57) (by decide) (by rw [n_le (by omega) (by omega)]; omega) ?_
      refine x_aload_n (pc := 12) dX7_number_12 rfl ?_
      refine x_cv0p (ci := 7) (pc := 13) dX7_number_13 ks_X7_93 (by first | assumption | exact hC.1 | exact hH.1 | exact hV0.1 | exact hT.1) (by rfl) (by omega) (by rfl) (by rfl) (by rfl) (m_here okt (by omega) hK ht) ?_
      refine x_bipush (pc := 16) dX7_number_16 (v := nI 48) (by decide) ?_
      refine x_bipush (pc := 18) dX7_number_18 (v := nI 57) (by decide) ?_
      refine x_cs3p (pc := 20) dX7_number_20 ks_X7_82 (by omega) (by rfl) (by rfl) (by rfl) (c_in _ _ _) ?_
      rw [figI_hr okt, hdg]
      refine x_if_eq_f (pc := 23) dX7_number_23 (tgt := 57) (by decide) (by decide +kernel) ?_
      refine x_bipush (pc := 26) dX7_number_26 (v := nI 10) (by decide) ?_
      refine x_iload (pc := 28) dX7_number_28 rfl ?_
      first | refine xn_imul (pc := 30) dX7_number_30 ?_ | refine x_imul (pc := 30) dX7_number_30 ?_
      refine x_aload_n (pc := 31) dX7_number_31 rfl ?_
      refine x_cv0p (ci := 7) (pc := 32) dX7_number_32 ks_X7_93 (by first | assumption | exact hC.1 | exact hH.1 | exact hV0.1 | exact hT.1) (by rfl) (by omega) (by rfl) (by rfl) (by rfl) (m_here okt (by omega) hK ht) ?_
      rw [hrI_dg hdg]
      first | refine xn_iadd (pc := 35) dX7_number_35 ?_ | refine x_iadd (pc := 35) dX7_number_35 ?_
      refine x_bipush (pc := 36) dX7_number_36 (v := nI 48) (by decide) ?_
      first | refine xn_isub (pc := 38) dX7_number_38 (by omega) ?_ | refine x_isub (pc := 38) dX7_number_38 ?_
      refine x_istore (pc := 39) dX7_number_39 rfl ?_
      refine x_aload_n (pc := 41) dX7_number_41 rfl ?_
      refine x_dup (pc := 42) dX7_number_42 rfl ?_
      refine x_getf (pc := 43) dX7_number_43 kf_X7_90 (by first | assumption | exact hC.1 | exact hH.1 | exact hV0.1 | exact hT.1) (by rfl) ?_
      refine x_iconst (pc := 46) dX7_number_46 (v := nI 1) (by decide) ?_
      first | refine xn_iadd (pc := 47) dX7_number_47 ?_ | refine x_iadd (pc := 47) dX7_number_47 ?_
      refine xw_puti (pc := 48) dX7_number_48 kf_X7_90 (by assumption) (by rfl) (by rfl) rfl rfl (fun w hnew hne => ?_)
      replace hK := hnew
      replace ht := ht.go fun j q1 q2 => hne j (by omega)
      replace hfr := fun j (hj : j ≠ 51) => (hne j (by omega)).trans (hfr j hj)
      clear hne
      refine xn_iinc (pc := 51) dX7_number_51 rfl rfl ?_
      refine x_goto (pc := 54) dX7_number_54 (tgt := 6) (by decide) ?_
      have e : 10 * numS T p i + T.getD (p + i) 0 - 48 = numS T p (i + 1) := by simp only [numS]; omega
      rw [show (l_set _ _ _ : List (Option Value)) = [some (.ref 51), some (.int (nI 0)), some (.int hi), some (.int bh), some (.int (nI (numS T p (i + 1)))), some (.int (nI (i + 1)))] by rw [← e]; rfl]
      exact ih (i + 1) w (by omega) hK ht hfr
  refine x_iconst (pc := 0) dX7_number_0 (v := nI 0) (by decide) ?_
  refine x_istore (pc := 1) dX7_number_1 rfl ?_
  refine x_iconst (pc := 3) dX7_number_3 (v := nI 0) (by decide) ?_
  refine x_istore (pc := 4) dX7_number_4 rfl ?_
  exact loop (fgS T p) 0 w0 (by omega) hK ht hfr
theorem m_statementAt {w0 : ax_W} {n : Nat} {T : List Nat} (okt : okT T) {p : Nat} (hp : p < 10000) {so : Bool} {un ke rl bh : Int32} {C D : Crt} (hK : w0 51 = om (nI T.length) (nI p) (nI (bN so)) un ke rl) (ht : mT w0 T) (hC : mC w0 C D) : Run m_X7_statementAt 2 0 0 0 (l_ent m_X7_statementAt [.ref 51, .int bh]) [] w0 n (Va (fun v w' => v = .int (nI (numS T p (fgS T p))) ∧ w' 51 = om (nI T.length) (nI (p + fgS T p + 1)) (nI (bN (so && nmB T p (nI (cn D) - nI 1) bh))) un ke rl ∧ ∀ j, j ≠ 51 → w' j = w0 j) n) := by
  obtain ⟨fm, fk, fc, fs, fh, fv, fp, fd, h53, h54, h55, h56, h57, h58, h59, h60, hc1, hc2⟩ := id hC
  refine x_aload_n (pc := 0) dX7_statementAt_0 rfl ?_
  refine x_iconst (pc := 1) dX7_statementAt_1 (v := nI 0) (by decide) ?_
  refine x_aload_n (pc := 2) dX7_statementAt_2 rfl ?_
  refine x_getf (pc := 3) dX7_statementAt_3 kf_X7_13 (by first | assumption | exact hC.1 | exact hH.1 | exact hV0.1 | exact hT.1) (by rfl) ?_
  refine x_iconst (pc := 6) dX7_statementAt_6 (v := nI 1) (by decide) ?_
  refine xn_iald (pc := 7) dX7_statementAt_7 (by assumption) (by first | omega | assumption) (by rfl) ?_
  rw [hc2.1]
  refine x_iconst (pc := 8) dX7_statementAt_8 (v := nI 1) (by decide) ?_
  refine x_isub (pc := 9) dX7_statementAt_9 ?_
  refine x_iload_n (pc := 10) dX7_statementAt_10 rfl ?_
  refine x_cv3 (q1 := 0) (q2 := 0) (ci := 7) (pc := 11) dX7_statementAt_11 ks_X7_101 (by first | assumption | exact hC.1 | exact hH.1 | exact hV0.1 | exact hT.1) (by rfl) (by omega) (by rfl) (by rfl) (by rfl) (m_number okt hp hK ht) (va_kk fun v w hP => ?_)
  obtain ⟨rfl, hP⟩ := hP
  refine x_iret (pc := 14) dX7_statementAt_14 rfl rfl ?_
  exact va_i ⟨rfl, hP⟩
theorem m_firstOf {w0 : ax_W} {n : Nat} {at_ so un ke rl ty : Int32} {C D : Crt} (hK : w0 51 = om ty at_ so un ke rl) (hC : mC w0 C D) (okd : cn D < 10) (okc : cn C ≤ 10) {x y z : Nat} : Run m_X7_firstOf 0 0 0 0 (l_ent m_X7_firstOf [.ref 51, .int (nI x), .int (nI y), .int (nI z)]) [] w0 n (Vo (fun w' => w' 51 = w0 51 ∧ mC w' C (adS D x y z) ∧ ∀ j, (j < 53 ∨ 60 < j) → w' j = w0 j) n) := by
  obtain ⟨fm, fk, fc, fs, fh, fv, fp, fd, h53, h54, h55, h56, h57, h58, h59, h60, hc1, hc2⟩ := id hC
  obtain ⟨d1, d2, d3, d4, d5⟩ := hc2
  obtain ⟨e1, e2, e3, e4, e5⟩ := hc1
  have hfr : ∀ j, (j < 53 ∨ 60 < j) → w0 j = w0 j := fun _ _ => rfl
  refine x_bipush (pc := 0) dX7_firstOf_0 (v := nI 10) (by decide) ?_
  refine x_aload_n (pc := 2) dX7_firstOf_2 rfl ?_
  refine x_getf (pc := 3) dX7_firstOf_3 kf_X7_13 (by first | assumption | exact hC.1 | exact hH.1 | exact hV0.1 | exact hT.1) (by rfl) ?_
  refine x_iconst (pc := 6) dX7_firstOf_6 (v := nI 1) (by decide) ?_
  refine xn_iald (pc := 7) dX7_firstOf_7 (by assumption) (by first | omega | assumption) (by rfl) ?_
  rw [d1]
  first | refine xn_iadd (pc := 8) dX7_firstOf_8 ?_ | refine x_iadd (pc := 8) dX7_firstOf_8 ?_
  refine x_istore (pc := 9) dX7_firstOf_9 rfl ?_
  refine x_aload_n (pc := 11) dX7_firstOf_11 rfl ?_
  refine x_getf (pc := 12) dX7_firstOf_12 kf_X7_17 (by first | assumption | exact hC.1 | exact hH.1 | exact hV0.1 | exact hT.1) (by rfl) ?_
  refine x_iload (pc := 15) dX7_firstOf_15 rfl ?_
  refine x_iload_n (pc := 17) dX7_firstOf_17 rfl ?_
  refine xw_iast (pc := 18) dX7_firstOf_18 (by assumption) (by first | omega | assumption) (by rfl) (fun w hnew hne => ?_)
  replace hK := (hne _ (by omega)).trans hK
  replace h53 := (hne _ (by omega)).trans h53
  replace h54 := hnew
  replace h55 := (hne _ (by omega)).trans h55
  replace h56 := (hne _ (by omega)).trans h56
  replace h57 := (hne _ (by omega)).trans h57
  replace h58 := (hne _ (by omega)).trans h58
  replace h59 := (hne _ (by omega)).trans h59
  replace h60 := (hne _ (by omega)).trans h60
  replace hfr := fun j (hj : j < 53 ∨ 60 < j) => (hne j (by omega)).trans (hfr j hj)
  clear hne
  refine x_aload_n (pc := 19) dX7_firstOf_19 rfl ?_
  refine x_getf (pc := 20) dX7_firstOf_20 kf_X7_20 (by first | assumption | exact hC.1 | exact hH.1 | exact hV0.1 | exact hT.1) (by rfl) ?_
  refine x_iload (pc := 23) dX7_firstOf_23 rfl ?_
  refine x_iload_n (pc := 25) dX7_firstOf_25 rfl ?_
  refine xw_iast (pc := 26) dX7_firstOf_26 (by assumption) (by first | omega | assumption) (by rfl) (fun w hnew hne => ?_)
  replace hK := (hne _ (by omega)).trans hK
  replace h53 := (hne _ (by omega)).trans h53
  replace h54 := (hne _ (by omega)).trans h54
  replace h55 := hnew
  replace h56 := (hne _ (by omega)).trans h56
  replace h57 := (hne _ (by omega)).trans h57
  replace h58 := (hne _ (by omega)).trans h58
  replace h59 := (hne _ (by omega)).trans h59
  replace h60 := (hne _ (by omega)).trans h60
  replace hfr := fun j (hj : j < 53 ∨ 60 < j) => (hne j (by omega)).trans (hfr j hj)
  clear hne
  refine x_aload_n (pc := 27) dX7_firstOf_27 rfl ?_
  refine x_getf (pc := 28) dX7_firstOf_28 kf_X7_23 (by first | assumption | exact hC.1 | exact hH.1 | exact hV0.1 | exact hT.1) (by rfl) ?_
  refine x_iload (pc := 31) dX7_firstOf_31 rfl ?_
  refine x_iload_n (pc := 33) dX7_firstOf_33 rfl ?_
  refine xw_iast (pc := 34) dX7_firstOf_34 (by assumption) (by first | omega | assumption) (by rfl) (fun w hnew hne => ?_)
  replace hK := (hne _ (by omega)).trans hK
  replace h53 := (hne _ (by omega)).trans h53
  replace h54 := (hne _ (by omega)).trans h54
  replace h55 := (hne _ (by omega)).trans h55
  replace h56 := hnew
  replace h57 := (hne _ (by omega)).trans h57
  replace h58 := (hne _ (by omega)).trans h58
  replace h59 := (hne _ (by omega)).trans h59
  replace h60 := (hne _ (by omega)).trans h60
  replace hfr := fun j (hj : j < 53 ∨ 60 < j) => (hne j (by omega)).trans (hfr j hj)
  clear hne
  refine x_aload_n (pc := 35) dX7_firstOf_35 rfl ?_
  refine x_getf (pc := 36) dX7_firstOf_36 kf_X7_26 (by first | assumption | exact hC.1 | exact hH.1 | exact hV0.1 | exact hT.1) (by rfl) ?_
  refine x_iload (pc := 39) dX7_firstOf_39 rfl ?_
  refine x_iconst (pc := 41) dX7_firstOf_41 (v := nI 0) (by decide) ?_
  refine xw_iast (pc := 42) dX7_firstOf_42 (by assumption) (by first | omega | assumption) (by rfl) (fun w hnew hne => ?_)
  replace hK := (hne _ (by omega)).trans hK
  replace h53 := (hne _ (by omega)).trans h53
  replace h54 := (hne _ (by omega)).trans h54
  replace h55 := (hne _ (by omega)).trans h55
  replace h56 := (hne _ (by omega)).trans h56
  replace h57 := hnew
  replace h58 := (hne _ (by omega)).trans h58
  replace h59 := (hne _ (by omega)).trans h59
  replace h60 := (hne _ (by omega)).trans h60
  replace hfr := fun j (hj : j < 53 ∨ 60 < j) => (hne j (by omega)).trans (hfr j hj)
  clear hne
  refine x_aload_n (pc := 43) dX7_firstOf_43 rfl ?_
  refine x_getf (pc := 44) dX7_firstOf_44 kf_X7_13 (by first | assumption | exact hC.1 | exact hH.1 | exact hV0.1 | exact hT.1) (by rfl) ?_
  refine x_iconst (pc := 47) dX7_firstOf_47 (v := nI 1) (by decide) ?_
  refine x_dup2 (pc := 48) dX7_firstOf_48 rfl rfl ?_
  refine xn_iald (pc := 49) dX7_firstOf_49 (by assumption) (by first | omega | assumption) (by rfl) ?_
  rw [d1]
  refine x_iconst (pc := 50) dX7_firstOf_50 (v := nI 1) (by decide) ?_
  first | refine xn_iadd (pc := 51) dX7_firstOf_51 ?_ | refine x_iadd (pc := 51) dX7_firstOf_51 ?_
  refine xw_iast (pc := 52) dX7_firstOf_52 (by assumption) (by first | omega | assumption) (by rfl) (fun w hnew hne => ?_)
  replace hK := (hne _ (by omega)).trans hK
  replace h53 := hnew
  replace h54 := (hne _ (by omega)).trans h54
  replace h55 := (hne _ (by omega)).trans h55
  replace h56 := (hne _ (by omega)).trans h56
  replace h57 := (hne _ (by omega)).trans h57
  replace h58 := (hne _ (by omega)).trans h58
  replace h59 := (hne _ (by omega)).trans h59
  replace h60 := (hne _ (by omega)).trans h60
  replace hfr := fun j (hj : j < 53 ∨ 60 < j) => (hne j (by omega)).trans (hfr j hj)
  clear hne
  refine x_vret (pc := 53) dX7_firstOf_53 rfl ?_
  refine vo_i ⟨hfr 51 (by omega), ⟨_, _, _, _, _, _, _, _, h53, h54, h55, h56, h57, h58, h59, h60, ⟨?_, e2, e3, ?_, e5⟩, ?_, d2, d3, ?_, d5⟩, hfr⟩
  · rw [upd_ne _ _ (by decide)]; exact e1
  · intro a ha
    rw [upd_ne _ _ (by omega), upd_ne _ _ (by omega), upd_ne _ _ (by omega), upd_ne _ _ (by omega)]
    exact e4 a ha
  · rw [upd_same]; rfl
  · intro a ha
    have ha : a < cn D + 1 := ha
    by_cases q : a = cn D
    · subst q
      rw [show 10 * 1 + cn D = 10 + cn D by omega, upd_same, upd_same, upd_same, upd_same]
      unfold adS
      simp only [kd, co, sp, hg, fup_same]
      exact ⟨trivial, trivial, trivial, trivial⟩
    · rw [upd_ne _ _ (by omega), upd_ne _ _ (by omega), upd_ne _ _ (by omega), upd_ne _ _ (by omega)]
      have := d4 a (by omega)
      unfold adS
      simp only [kd, co, sp, hg, fup_ne _ _ q]
      exact this
theorem m_firstPerson {w0 : ax_W} {n : Nat} {at_ so un ke rl ty : Int32} {C D : Crt} (hK : w0 51 = om ty at_ so un ke rl) (hC : mC w0 C D) (okd : np D < 5) (okc : np C ≤ 5) {x y : Nat} (hx : x < 10) (hy : y < 10) : Run m_X7_firstPerson 0 0 0 0 (l_ent m_X7_firstPerson [.ref 51, .int (nI x), .int (nI y)]) [] w0 n (Vo (fun w' => w' 51 = w0 51 ∧ mC w' C (adP D x y) ∧ ∀ j, (j < 53 ∨ 60 < j) → w' j = w0 j) n) := by
  obtain ⟨fm, fk, fc, fs, fh, fv, fp, fd, h53, h54, h55, h56, h57, h58, h59, h60, hc1, hc2⟩ := id hC
  obtain ⟨d1, d2, d3, d4, d5⟩ := hc2
  obtain ⟨e1, e2, e3, e4, e5⟩ := hc1
  have hfr : ∀ j, (j < 53 ∨ 60 < j) → w0 j = w0 j := fun _ _ => rfl
  refine x_aload_n (pc := 0) dX7_firstPerson_0 rfl ?_
  refine x_getf (pc := 1) dX7_firstPerson_1 kf_X7_35 (by first | assumption | exact hC.1 | exact hH.1 | exact hV0.1 | exact hT.1) (by rfl) ?_
  refine x_iconst (pc := 4) dX7_firstPerson_4 (v := nI 5) (by decide) ?_
  refine x_aload_n (pc := 5) dX7_firstPerson_5 rfl ?_
  refine x_getf (pc := 6) dX7_firstPerson_6 kf_X7_32 (by first | assumption | exact hC.1 | exact hH.1 | exact hV0.1 | exact hT.1) (by rfl) ?_
  refine x_iconst (pc := 9) dX7_firstPerson_9 (v := nI 1) (by decide) ?_
  refine xn_iald (pc := 10) dX7_firstPerson_10 (by assumption) (by first | omega | assumption) (by rfl) ?_
  rw [d3]
  first | refine xn_iadd (pc := 11) dX7_firstPerson_11 ?_ | refine x_iadd (pc := 11) dX7_firstPerson_11 ?_
  refine x_iconst (pc := 12) dX7_firstPerson_12 (v := nI 1) (by decide) ?_
  refine x_iload_n (pc := 13) dX7_firstPerson_13 rfl ?_
  first | refine xn_shl1 (pc := 14) dX7_firstPerson_14 (by omega) ?_ | refine xn_ishl (pc := 14) dX7_firstPerson_14 (by omega) (by omega) ?_ | refine x_ishl (pc := 14) dX7_firstPerson_14 ?_
  refine x_iconst (pc := 15) dX7_firstPerson_15 (v := nI 1) (by decide) ?_
  refine x_iload_n (pc := 16) dX7_firstPerson_16 rfl ?_
  first | refine xn_shl1 (pc := 17) dX7_firstPerson_17 (by omega) ?_ | refine xn_ishl (pc := 17) dX7_firstPerson_17 (by omega) (by omega) ?_ | refine x_ishl (pc := 17) dX7_firstPerson_17 ?_
  first | refine xn_ior (pc := 18) dX7_firstPerson_18 ?_ | refine x_ior (pc := 18) dX7_firstPerson_18 ?_
  refine xw_iast (pc := 19) dX7_firstPerson_19 (by assumption) (by first | omega | assumption) (by rfl) (fun w hnew hne => ?_)
  replace hK := (hne _ (by omega)).trans hK
  replace h53 := (hne _ (by omega)).trans h53
  replace h54 := (hne _ (by omega)).trans h54
  replace h55 := (hne _ (by omega)).trans h55
  replace h56 := (hne _ (by omega)).trans h56
  replace h57 := (hne _ (by omega)).trans h57
  replace h58 := (hne _ (by omega)).trans h58
  replace h59 := (hne _ (by omega)).trans h59
  replace h60 := hnew
  replace hfr := fun j (hj : j < 53 ∨ 60 < j) => (hne j (by omega)).trans (hfr j hj)
  clear hne
  refine x_aload_n (pc := 20) dX7_firstPerson_20 rfl ?_
  refine x_getf (pc := 21) dX7_firstPerson_21 kf_X7_32 (by first | assumption | exact hC.1 | exact hH.1 | exact hV0.1 | exact hT.1) (by rfl) ?_
  refine x_iconst (pc := 24) dX7_firstPerson_24 (v := nI 1) (by decide) ?_
  refine x_dup2 (pc := 25) dX7_firstPerson_25 rfl rfl ?_
  refine xn_iald (pc := 26) dX7_firstPerson_26 (by assumption) (by first | omega | assumption) (by rfl) ?_
  rw [d3]
  refine x_iconst (pc := 27) dX7_firstPerson_27 (v := nI 1) (by decide) ?_
  first | refine xn_iadd (pc := 28) dX7_firstPerson_28 ?_ | refine x_iadd (pc := 28) dX7_firstPerson_28 ?_
  refine xw_iast (pc := 29) dX7_firstPerson_29 (by assumption) (by first | omega | assumption) (by rfl) (fun w hnew hne => ?_)
  replace hK := (hne _ (by omega)).trans hK
  replace h53 := (hne _ (by omega)).trans h53
  replace h54 := (hne _ (by omega)).trans h54
  replace h55 := (hne _ (by omega)).trans h55
  replace h56 := (hne _ (by omega)).trans h56
  replace h57 := (hne _ (by omega)).trans h57
  replace h58 := (hne _ (by omega)).trans h58
  replace h59 := hnew
  replace h60 := (hne _ (by omega)).trans h60
  replace hfr := fun j (hj : j < 53 ∨ 60 < j) => (hne j (by omega)).trans (hfr j hj)
  clear hne
  refine x_vret (pc := 30) dX7_firstPerson_30 rfl ?_
  refine vo_i ⟨hfr 51 (by omega), ⟨_, _, _, _, _, _, _, _, h53, h54, h55, h56, h57, h58, h59, h60, ⟨e1, e2, ?_, e4, ?_⟩, d1, d2, ?_, d4, ?_⟩, hfr⟩
  · rw [upd_ne _ _ (by decide)]; exact e3
  · intro a ha
    rw [upd_ne _ _ (by omega)]
    exact e5 a ha
  · rw [upd_same]; rfl
  · intro a ha
    have ha : a < np D + 1 := ha
    by_cases q : a = np D
    · subst q
      rw [show 5 * 1 + np D = 5 + np D by omega, upd_same]
      unfold adP
      simp only [de, fup_same]
    · rw [upd_ne _ _ (by omega)]
      have := d5 a (by omega)
      unfold adP
      simp only [de, fup_ne _ _ q]
      exact this
