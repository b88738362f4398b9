/-! the reference's tables, all of them -/
theorem preF_len {f : Nat → List (List Nat)} {op N : Nat} (h : ∀ b, op.testBit b = true → (f b).length ≤ N) : ∀ j, (preF f op j).length ≤ j * N
  | 0 => by simp [preF_0]
  | j + 1 => by
    have := preF_len h j
    rw [preF_s, List.length_append, Nat.succ_mul]
    by_cases hb : op.testBit j = true
    · rw [if_pos hb, List.length_map]
      have := h j hb
      omega
    · rw [if_neg hb]; simp; omega
theorem preF_mem {f : Nat → List (List Nat)} {op : Nat} {p : List Nat} : ∀ j, p ∈ preF f op j → ∃ c q, c < j ∧ op.testBit c = true ∧ q ∈ f c ∧ p = c :: q
  | 0, h => by cases h
  | j + 1, h => by
    rw [preF_s, List.mem_append] at h
    rcases h with h | h
    · obtain ⟨c, q, h1, h2⟩ := preF_mem j h
      exact ⟨c, q, by omega, h2⟩
    · by_cases hb : op.testBit j = true
      · rw [if_pos hb] at h
        obtain ⟨q, hq, rfl⟩ := List.mem_map.mp h
        exact ⟨j, q, by omega, hb, hq, rfl⟩
      · rw [if_neg hb] at h; cases h
theorem m_goOn {w0 : ax_W} {n : Nat} {C : Crt} (okc : okC C) {ty at_ so un ke rl : Int32} (hK0 : w0 51 = om ty at_ so un ke rl) (hC0 : mR w0 C) {f61 : Nat → Int32} {sk : Nat} (h61 : w0 61 = ai 132 f61) (hs : f61 1 = nI sk) {F0 : Nat → Nat → Int32} (hB0 : mB w0 F0) {k ch last L op : Nat} (hch : ch < 1024) (hl : last < cn C) (hkk : k = 10 * ch + last) (hL : cnt ch 10 = L) (hop : opn C last ch sk = op) {f : Nat → List (List Nat)} {wf : Nat → Bool} {N : Nat} (hN : N * 10 < 2147483648)
    (hv : ∀ b, op.testBit b = true → tbV C b (L + 1) (f b) (wf b) F0 (10 * (ch ||| 2 ^ b) + b) ∧ (f b).length ≤ N ∧ ∀ p ∈ f b, (∀ x ∈ p, x < cn C) ∧ L + 1 + p.length ≤ 11) :
    Run m_X7_goOn 1 0 0 0 (l_ent m_X7_goOn [.ref 51, .int (nI k), .int (nI ch), .int (nI last)]) [] w0 n (Vo (fun w' => ∃ F', mB w' F' ∧ tbV C last L (preF f op (cn C)) (winF (decide (L % 2 = 1)) wf op (cn C)) F' k ∧ sameT F0 F' k ∧ same62 w0 w') n) := by
  have hn := okc.1
  have hL10 : L ≤ 10 := by rw [← hL]; exact cnt_le ch 10
  have hop10 : op < 1024 := by rw [← hop]; exact opn_1024 okc hl
  have hopn : op < 2 ^ cn C := by rw [← hop]; exact opn_lt okc hl
  have hk10 : k < 10240 := by omega
  have hLe : nI (cnt ch 10) = nI L := by rw [hL]
  have loop : ∀ m j (w : ax_W) (F : Nat → Nat → Int32) (z8 z9 z10 : Option Value), j + m = cn C → w 51 = om ty at_ so un ke rl → mR w C → mB w F → tbV C last L (preF f op j) (winF (decide (L % 2 = 1)) wf op j) F k → sameT F0 F k → same62 w0 w →
      Run m_X7_goOn 1 0 0 114 [some (.ref 51), some (.int (nI k)), some (.int (nI ch)), some (.int (nI last)), some (.int (nI L)), some (.int (nI op)), some (.int (nI (bN (decide (L % 2 = 1))))), some (.int (nI j)), z8, z9, z10] [] w n (Vo (fun w' => ∃ F', mB w' F' ∧ tbV C last L (preF f op (cn C)) (winF (decide (L % 2 = 1)) wf op (cn C)) F' k ∧ sameT F0 F' k ∧ same62 w0 w') n) := by
    intro m
    induction m with
    | zero =>
      intro j w F z8 z9 z10 hj hK hC hB hV hF hfr
      have hjj : j = cn C := by omega
      subst hjj
      obtain ⟨fm, fk, fc, fds, fh, fv, fp, fd, h53, h54, h55, h56, h57, h58, h59, h60, e1, e2, e3, e4, e5⟩ := id hC
      refine x_iload (pc := 114) dX7_goOn_114 rfl ?_
      refine x_aload_n (pc := 116) dX7_goOn_116 rfl ?_
      refine x_getf (pc := 117) dX7_goOn_117 kf_X7_13 (by first | assumption | exact hC.1 | exact hH.1 | exact hV0.1 | exact hT.1) (by rfl) ?_
      refine x_iconst (pc := 120) dX7_goOn_120 (v := nI 0) (by decide) ?_
      refine xn_iald (pc := 121) dX7_goOn_121 (by assumption) (by first | omega | assumption) (by rfl) ?_
      rw [e1]
      refine x_icmp_ge_t (pc := 122) dX7_goOn_122 (tgt := 457) (by decide) (nI_le (by omega) (by omega)) ?_
      refine x_vret (pc := 457) dX7_goOn_457 rfl ?_
      exact vo_i ⟨F, hB, hV, hF, hfr⟩
    | succ m ih =>
      intro j w F z8 z9 z10 hj hK hC hB hV hF hfr
      obtain ⟨fm, fk, fc, fds, fh, fv, fp, fd, h53, h54, h55, h56, h57, h58, h59, h60, e1, e2, e3, e4, e5⟩ := id hC
      have hjn : j < cn C := by omega
      have hj10 : j < 10 := by omega
      have hp2 := pow_10 hj10
      have hor : ch ||| 2 ^ j < 1024 := or_1024 hch hp2
      have hxl := preF_len (f := f) (op := op) (N := N) (fun b hb => (hv b hb).2.1) j
      have hxm : ∀ p ∈ preF f op j, (∀ x ∈ p, x < cn C) ∧ L + p.length ≤ 11 := by
        intro p hp
        obtain ⟨c, q, h1, h2, h3, rfl⟩ := preF_mem j hp
        have h4 := (hv c h2).2.2 q h3
        refine ⟨fun x hx => ?_, by simp; omega⟩
        rcases List.mem_cons.mp hx with rfl | hx
        · omega
        · exact h4.1 x hx
      have next : ∀ (w' : ax_W) (F' : Nat → Nat → Int32) (z8 z9 z10 : Option Value), w' 51 = om ty at_ so un ke rl → mR w' C → mB w' F' → tbV C last L (preF f op (j + 1)) (winF (decide (L % 2 = 1)) wf op (j + 1)) F' k → sameT F0 F' k → same62 w0 w' → Run m_X7_goOn 1 0 0 451 [some (.ref 51), some (.int (nI k)), some (.int (nI ch)), some (.int (nI last)), some (.int (nI L)), some (.int (nI op)), some (.int (nI (bN (decide (L % 2 = 1))))), some (.int (nI j)), z8, z9, z10] [] w' n (Vo (fun w' => ∃ F', mB w' F' ∧ tbV C last L (preF f op (cn C)) (winF (decide (L % 2 = 1)) wf op (cn C)) F' k ∧ sameT F0 F' k ∧ same62 w0 w') n) := by
        intro w' F' z8 z9 z10 hK hC hB hV hF hfr
        refine xn_iinc (pc := 451) dX7_goOn_451 rfl rfl ?_
        refine x_goto (pc := 454) dX7_goOn_454 (tgt := 114) (by decide) ?_
        exact ih (j + 1) w' F' _ _ _ (by omega) hK hC hB hV hF hfr
      refine x_iload (pc := 114) dX7_goOn_114 rfl ?_
      refine x_aload_n (pc := 116) dX7_goOn_116 rfl ?_
      refine x_getf (pc := 117) dX7_goOn_117 kf_X7_13 (by first | assumption | exact hC.1 | exact hH.1 | exact hV0.1 | exact hT.1) (by rfl) ?_
      refine x_iconst (pc := 120) dX7_goOn_120 (v := nI 0) (by decide) ?_
      refine xn_iald (pc := 121) dX7_goOn_121 (by assumption) (by first | omega | assumption) (by rfl) ?_
      rw [e1]
      refine x_icmp_ge_f (pc := 122) dX7_goOn_122 (tgt := 457) (by decide) (nI_ge (by omega) (by omega)) ?_
      refine x_iload (pc := 125) dX7_goOn_125 rfl ?_
      refine x_iload (pc := 127) dX7_goOn_127 rfl ?_
      first | refine xn_ishr (pc := 129) dX7_goOn_129 (by omega) (by omega) ?_ | refine x_ishr (pc := 129) dX7_goOn_129 ?_
      refine x_iconst (pc := 130) dX7_goOn_130 (v := nI 1) (by decide) ?_
      first | refine xn_bit (pc := 131) dX7_goOn_131 ?_ | refine xn_nd (pc := 131) dX7_goOn_131 ?_ | refine xn_iand (pc := 131) dX7_goOn_131 ?_ | refine x_iand (pc := 131) dX7_goOn_131 ?_
      refine x_iconst (pc := 132) dX7_goOn_132 (v := nI 1) (by decide) ?_
      refine x_icmp_ne (pc := 133) dX7_goOn_133 (tgt := 451) (by decide) (fun h_133 => ?_) (fun h_133 => ?_)
      · skip
        try first | rw [n_b1] at h_133 | rw [n_b00] at h_133 | rw [n_eq (by omega) (by omega)] at h_133
        have hb : op.testBit j = false := by simpa using h_133
        have hs1 : preF f op (j + 1) = preF f op j := by rw [preF_s, hb]; simp
        exact next w F _ _ _ hK hC hB (by rw [hs1, winF_n _ _ _ _ hb]; exact hV) hF hfr
      · replace h_133 := Classical.not_not.mp h_133
        try first | rw [n_b1] at h_133 | rw [n_b00] at h_133 | rw [n_eq (by omega) (by omega)] at h_133
        have hb : op.testBit j = true := by simpa using h_133
        have hs1 : preF f op (j + 1) = preF f op j ++ (f j).map (fun p => j :: p) := by rw [preF_s, hb]; simp
        obtain ⟨v1, v2, v3⟩ := hv j hb
        have hcb : ch.testBit j = false := by
          rw [← hop, opn_bit okc hl] at hb
          simp only [Bool.and_eq_true, Bool.not_eq_true'] at hb
          exact hb.1.2
        have htk : 10 * (ch ||| 2 ^ j) + j ≠ k := by
          intro q
          have h1 : (ch ||| 2 ^ j) = ch := by omega
          have h2 : (ch ||| 2 ^ j).testBit j = true := by rw [b_orp]; simp
          rw [h1, hcb] at h2
          cases h2
        have hjN : j * N ≤ 9 * N := Nat.mul_le_mul_right N (by omega)
        refine x_bipush (pc := 136) dX7_goOn_136 (v := nI 10) (by decide) ?_
        refine x_iload_n (pc := 138) dX7_goOn_138 rfl ?_
        refine x_iconst (pc := 139) dX7_goOn_139 (v := nI 1) (by decide) ?_
        refine x_iload (pc := 140) dX7_goOn_140 rfl ?_
        first | refine xn_shl1 (pc := 142) dX7_goOn_142 (by omega) ?_ | refine xn_ishl (pc := 142) dX7_goOn_142 (by omega) (by omega) ?_ | refine x_ishl (pc := 142) dX7_goOn_142 ?_
        first | refine xn_ior (pc := 143) dX7_goOn_143 ?_ | refine x_ior (pc := 143) dX7_goOn_143 ?_
        first | refine xn_imul (pc := 144) dX7_goOn_144 ?_ | refine x_imul (pc := 144) dX7_goOn_144 ?_
        refine x_iload (pc := 145) dX7_goOn_145 rfl ?_
        first | refine xn_iadd (pc := 147) dX7_goOn_147 ?_ | refine x_iadd (pc := 147) dX7_goOn_147 ?_
        refine x_istore (pc := 148) dX7_goOn_148 rfl ?_
        refine go_step okc hK hC (F := F) hk10 (by omega) htk hjn hl hL10 hV (v1.go hF htk) (by omega) hxm v3 hB (fun w' F' z9 z10 q1 q2 q3 q4 => ?_)
        refine next w' F' _ _ _ ((q4 _ (by omega)).trans hK) (hC.go fun i _ _ => q4 i (by omega)) q1 ?_ (hF.trans q3) (fun i hi => (q4 i hi).trans (hfr i hi))
        rw [hs1, winF_s _ _ _ _ hb]
        simpa using q2
  obtain ⟨h62, h63, h64, h65, h66, h67, h68, h69, h70⟩ := hB0
  have hfr : same62 w0 w0 := fun _ _ => rfl
  replace hK := hK0
  replace hC := hC0
  clear hK0 hC0
  have st : ∀ (fs : Bool), fs = decide (L % 2 = 1) → Run m_X7_goOn 1 0 0 27 [some (.ref 51), some (.int (nI k)), some (.int (nI ch)), some (.int (nI last)), some (.int (nI L)), some (.int (nI op)), none, none, none, none, none] [.int (nI (bN fs))] w0 n (Vo (fun w' => ∃ F', mB w' F' ∧ tbV C last L (preF f op (cn C)) (winF (decide (L % 2 = 1)) wf op (cn C)) F' k ∧ sameT F0 F' k ∧ same62 w0 w') n) := by
    intro fs hfs
    have hw0 : ∀ x, (x = 1 ↔ (op ≠ 0 ∧ fs = false)) → x < 2 → bN (winF (decide (L % 2 = 1)) wf op 0) = x := by
      intro x h1 h2
      unfold winF
      rw [← hfs]
      by_cases h0 : op = 0
      · rw [if_pos h0]
        have : x ≠ 1 := fun q => (h1.mp q).1 h0
        simp [bN]; omega
      · rw [if_neg h0]
        simp only [anyF]
        cases fs with
        | false => have := h1.mpr ⟨h0, rfl⟩; subst this; rfl
        | true => have : x ≠ 1 := fun q => by cases (h1.mp q).2
                  simp [bN]; omega
    refine x_istore (pc := 27) dX7_goOn_27 rfl ?_
    refine x_aload_n (pc := 29) dX7_goOn_29 rfl ?_
    refine x_getf (pc := 30) dX7_goOn_30 kf_X7_41 (by first | assumption | exact hC.1 | exact hH.1 | exact hV0.1 | exact hT.1) (by rfl) ?_
    refine x_iload_n (pc := 33) dX7_goOn_33 rfl ?_
    refine x_iconst (pc := 34) dX7_goOn_34 (v := nI 0) (by decide) ?_
    refine xw_iast (pc := 35) dX7_goOn_35 (by assumption) (by first | omega | assumption) (by rfl) (fun w hnew hne => ?_)
    replace hK := (hne _ (by omega)).trans hK
    replace h62 := hnew
    replace h63 := (hne _ (by omega)).trans h63
    replace h64 := (hne _ (by omega)).trans h64
    replace h65 := (hne _ (by omega)).trans h65
    replace h66 := (hne _ (by omega)).trans h66
    replace h67 := (hne _ (by omega)).trans h67
    replace h68 := (hne _ (by omega)).trans h68
    replace h69 := (hne _ (by omega)).trans h69
    replace h70 := (hne _ (by omega)).trans h70
    replace hC := hC.go fun j q1 q2 => hne j (by omega)
    replace hfr := fun j (hj : j < 62 ∨ 70 < j) => (hne j (by omega)).trans (hfr j hj)
    clear hne
    refine x_aload_n (pc := 36) dX7_goOn_36 rfl ?_
    refine x_getf (pc := 37) dX7_goOn_37 kf_X7_44 (by first | assumption | exact hC.1 | exact hH.1 | exact hV0.1 | exact hT.1) (by rfl) ?_
    refine x_iload_n (pc := 40) dX7_goOn_40 rfl ?_
    refine x_ldc (pc := 41) dX7_goOn_41 kK_X7_144 ?_
    refine xw_iast (pc := 43) dX7_goOn_43 (by assumption) (by first | omega | assumption) (by rfl) (fun w hnew hne => ?_)
    replace hK := (hne _ (by omega)).trans hK
    replace h62 := (hne _ (by omega)).trans h62
    replace h63 := hnew
    replace h64 := (hne _ (by omega)).trans h64
    replace h65 := (hne _ (by omega)).trans h65
    replace h66 := (hne _ (by omega)).trans h66
    replace h67 := (hne _ (by omega)).trans h67
    replace h68 := (hne _ (by omega)).trans h68
    replace h69 := (hne _ (by omega)).trans h69
    replace h70 := (hne _ (by omega)).trans h70
    replace hC := hC.go fun j q1 q2 => hne j (by omega)
    replace hfr := fun j (hj : j < 62 ∨ 70 < j) => (hne j (by omega)).trans (hfr j hj)
    clear hne
    refine x_aload_n (pc := 44) dX7_goOn_44 rfl ?_
    refine x_getf (pc := 45) dX7_goOn_45 kf_X7_53 (by first | assumption | exact hC.1 | exact hH.1 | exact hV0.1 | exact hT.1) (by rfl) ?_
    refine x_iload_n (pc := 48) dX7_goOn_48 rfl ?_
    refine x_ldc (pc := 49) dX7_goOn_49 kK_X7_144 ?_
    refine xw_iast (pc := 51) dX7_goOn_51 (by assumption) (by first | omega | assumption) (by rfl) (fun w hnew hne => ?_)
    replace hK := (hne _ (by omega)).trans hK
    replace h62 := (hne _ (by omega)).trans h62
    replace h63 := (hne _ (by omega)).trans h63
    replace h64 := (hne _ (by omega)).trans h64
    replace h65 := (hne _ (by omega)).trans h65
    replace h66 := hnew
    replace h67 := (hne _ (by omega)).trans h67
    replace h68 := (hne _ (by omega)).trans h68
    replace h69 := (hne _ (by omega)).trans h69
    replace h70 := (hne _ (by omega)).trans h70
    replace hC := hC.go fun j q1 q2 => hne j (by omega)
    replace hfr := fun j (hj : j < 62 ∨ 70 < j) => (hne j (by omega)).trans (hfr j hj)
    clear hne
    refine x_aload_n (pc := 52) dX7_goOn_52 rfl ?_
    refine x_getf (pc := 53) dX7_goOn_53 kf_X7_47 (by first | assumption | exact hC.1 | exact hH.1 | exact hV0.1 | exact hT.1) (by rfl) ?_
    refine x_iload_n (pc := 56) dX7_goOn_56 rfl ?_
    refine x_iconst (pc := 57) dX7_goOn_57 (v := nI 0) (by decide) ?_
    refine xw_iast (pc := 58) dX7_goOn_58 (by assumption) (by first | omega | assumption) (by rfl) (fun w hnew hne => ?_)
    replace hK := (hne _ (by omega)).trans hK
    replace h62 := (hne _ (by omega)).trans h62
    replace h63 := (hne _ (by omega)).trans h63
    replace h64 := hnew
    replace h65 := (hne _ (by omega)).trans h65
    replace h66 := (hne _ (by omega)).trans h66
    replace h67 := (hne _ (by omega)).trans h67
    replace h68 := (hne _ (by omega)).trans h68
    replace h69 := (hne _ (by omega)).trans h69
    replace h70 := (hne _ (by omega)).trans h70
    replace hC := hC.go fun j q1 q2 => hne j (by omega)
    replace hfr := fun j (hj : j < 62 ∨ 70 < j) => (hne j (by omega)).trans (hfr j hj)
    clear hne
    refine x_aload_n (pc := 59) dX7_goOn_59 rfl ?_
    refine x_getf (pc := 60) dX7_goOn_60 kf_X7_50 (by first | assumption | exact hC.1 | exact hH.1 | exact hV0.1 | exact hT.1) (by rfl) ?_
    refine x_iload_n (pc := 63) dX7_goOn_63 rfl ?_
    refine x_bipush (pc := 64) dX7_goOn_64 (v := -4) (by decide) ?_
    refine xw_iast (pc := 66) dX7_goOn_66 (by assumption) (by first | omega | assumption) (by rfl) (fun w hnew hne => ?_)
    replace hK := (hne _ (by omega)).trans hK
    replace h62 := (hne _ (by omega)).trans h62
    replace h63 := (hne _ (by omega)).trans h63
    replace h64 := (hne _ (by omega)).trans h64
    replace h65 := hnew
    replace h66 := (hne _ (by omega)).trans h66
    replace h67 := (hne _ (by omega)).trans h67
    replace h68 := (hne _ (by omega)).trans h68
    replace h69 := (hne _ (by omega)).trans h69
    replace h70 := (hne _ (by omega)).trans h70
    replace hC := hC.go fun j q1 q2 => hne j (by omega)
    replace hfr := fun j (hj : j < 62 ∨ 70 < j) => (hne j (by omega)).trans (hfr j hj)
    clear hne
    refine x_aload_n (pc := 67) dX7_goOn_67 rfl ?_
    refine x_getf (pc := 68) dX7_goOn_68 kf_X7_56 (by first | assumption | exact hC.1 | exact hH.1 | exact hV0.1 | exact hT.1) (by rfl) ?_
    refine x_iload_n (pc := 71) dX7_goOn_71 rfl ?_
    refine x_sipush (pc := 72) dX7_goOn_72 (v := nI 1023) (by decide) ?_
    refine xw_iast (pc := 75) dX7_goOn_75 (by assumption) (by first | omega | assumption) (by rfl) (fun w hnew hne => ?_)
    replace hK := (hne _ (by omega)).trans hK
    replace h62 := (hne _ (by omega)).trans h62
    replace h63 := (hne _ (by omega)).trans h63
    replace h64 := (hne _ (by omega)).trans h64
    replace h65 := (hne _ (by omega)).trans h65
    replace h66 := (hne _ (by omega)).trans h66
    replace h67 := hnew
    replace h68 := (hne _ (by omega)).trans h68
    replace h69 := (hne _ (by omega)).trans h69
    replace h70 := (hne _ (by omega)).trans h70
    replace hC := hC.go fun j q1 q2 => hne j (by omega)
    replace hfr := fun j (hj : j < 62 ∨ 70 < j) => (hne j (by omega)).trans (hfr j hj)
    clear hne
    refine x_aload_n (pc := 76) dX7_goOn_76 rfl ?_
    refine x_getf (pc := 77) dX7_goOn_77 kf_X7_59 (by first | assumption | exact hC.1 | exact hH.1 | exact hV0.1 | exact hT.1) (by rfl) ?_
    refine x_iload_n (pc := 80) dX7_goOn_80 rfl ?_
    refine x_iconst (pc := 81) dX7_goOn_81 (v := nI 0) (by decide) ?_
    refine xw_iast (pc := 82) dX7_goOn_82 (by assumption) (by first | omega | assumption) (by rfl) (fun w hnew hne => ?_)
    replace hK := (hne _ (by omega)).trans hK
    replace h62 := (hne _ (by omega)).trans h62
    replace h63 := (hne _ (by omega)).trans h63
    replace h64 := (hne _ (by omega)).trans h64
    replace h65 := (hne _ (by omega)).trans h65
    replace h66 := (hne _ (by omega)).trans h66
    replace h67 := (hne _ (by omega)).trans h67
    replace h68 := hnew
    replace h69 := (hne _ (by omega)).trans h69
    replace h70 := (hne _ (by omega)).trans h70
    replace hC := hC.go fun j q1 q2 => hne j (by omega)
    replace hfr := fun j (hj : j < 62 ∨ 70 < j) => (hne j (by omega)).trans (hfr j hj)
    clear hne
    refine x_aload_n (pc := 83) dX7_goOn_83 rfl ?_
    refine x_getf (pc := 84) dX7_goOn_84 kf_X7_62 (by first | assumption | exact hC.1 | exact hH.1 | exact hV0.1 | exact hT.1) (by rfl) ?_
    refine x_iload_n (pc := 87) dX7_goOn_87 rfl ?_
    refine x_iconst (pc := 88) dX7_goOn_88 (v := nI 0) (by decide) ?_
    refine xw_iast (pc := 89) dX7_goOn_89 (by assumption) (by first | omega | assumption) (by rfl) (fun w hnew hne => ?_)
    replace hK := (hne _ (by omega)).trans hK
    replace h62 := (hne _ (by omega)).trans h62
    replace h63 := (hne _ (by omega)).trans h63
    replace h64 := (hne _ (by omega)).trans h64
    replace h65 := (hne _ (by omega)).trans h65
    replace h66 := (hne _ (by omega)).trans h66
    replace h67 := (hne _ (by omega)).trans h67
    replace h68 := (hne _ (by omega)).trans h68
    replace h69 := hnew
    replace h70 := (hne _ (by omega)).trans h70
    replace hC := hC.go fun j q1 q2 => hne j (by omega)
    replace hfr := fun j (hj : j < 62 ∨ 70 < j) => (hne j (by omega)).trans (hfr j hj)
    clear hne
    refine x_aload_n (pc := 90) dX7_goOn_90 rfl ?_
    refine x_getf (pc := 91) dX7_goOn_91 kf_X7_65 (by first | assumption | exact hC.1 | exact hH.1 | exact hV0.1 | exact hT.1) (by rfl) ?_
    refine x_iload_n (pc := 94) dX7_goOn_94 rfl ?_
    refine x_iload (pc := 95) dX7_goOn_95 rfl ?_
    refine x_if_eq (pc := 97) dX7_goOn_97 (tgt := 105) (by decide) (fun h_97 => ?_) (fun h_97 => ?_)
    · skip
      try first | rw [n_b0] at h_97 | rw [n_eq0 (by omega)] at h_97
      have e := hw0 0 ⟨fun q => (by cases q), fun q => absurd (h_97) q.1⟩ (by omega)
      refine x_iconst (pc := 105) dX7_goOn_105 (v := nI 0) (by decide) ?_
      refine x_goto (pc := 106) dX7_goOn_106 (tgt := 110) (by decide) ?_
      refine xw_iast (pc := 110) dX7_goOn_110 (by assumption) (by first | omega | assumption) (by rfl) (fun w hnew hne => ?_)
      replace hK := (hne _ (by omega)).trans hK
      replace h62 := (hne _ (by omega)).trans h62
      replace h63 := (hne _ (by omega)).trans h63
      replace h64 := (hne _ (by omega)).trans h64
      replace h65 := (hne _ (by omega)).trans h65
      replace h66 := (hne _ (by omega)).trans h66
      replace h67 := (hne _ (by omega)).trans h67
      replace h68 := (hne _ (by omega)).trans h68
      replace h69 := (hne _ (by omega)).trans h69
      replace h70 := hnew
      replace hC := hC.go fun j q1 q2 => hne j (by omega)
      replace hfr := fun j (hj : j < 62 ∨ 70 < j) => (hne j (by omega)).trans (hfr j hj)
      clear hne
      refine x_iconst (pc := 111) dX7_goOn_111 (v := nI 0) (by decide) ?_
      refine x_istore (pc := 112) dX7_goOn_112 rfl ?_
      subst hfs
      exact loop (cn C) 0 w (tb9 _ _ _ _ _ _ _ _ _) _ _ _ (by omega) hK hC ⟨h62, h63, h64, h65, h66, h67, h68, h69, h70⟩ ⟨upd_same _ _ _, upd_same _ _ _, upd_same _ _ _, upd_same _ _ _, upd_same _ _ _, upd_same _ _ _, upd_same _ _ _, upd_same _ _ _, by rw [e]; exact upd_same _ _ _⟩ (fun x hx => ⟨upd_ne _ _ hx, upd_ne _ _ hx, upd_ne _ _ hx, upd_ne _ _ hx, upd_ne _ _ hx, upd_ne _ _ hx, upd_ne _ _ hx, upd_ne _ _ hx, upd_ne _ _ hx⟩) hfr
    · skip
      try first | rw [n_b0] at h_97 | rw [n_eq0 (by omega)] at h_97
      refine x_iload (pc := 100) dX7_goOn_100 rfl ?_
      refine x_if_eq (pc := 102) dX7_goOn_102 (tgt := 109) (by decide) (fun h_102 => ?_) (fun h_102 => ?_)
      · skip
        try first | rw [n_b0] at h_102 | rw [n_eq0 (by omega)] at h_102
        have e := hw0 1 ⟨fun _ => ⟨h_97, by simpa using h_102⟩, fun _ => rfl⟩ (by omega)
        refine x_iconst (pc := 109) dX7_goOn_109 (v := nI 1) (by decide) ?_
        refine xw_iast (pc := 110) dX7_goOn_110 (by assumption) (by first | omega | assumption) (by rfl) (fun w hnew hne => ?_)
        replace hK := (hne _ (by omega)).trans hK
        replace h62 := (hne _ (by omega)).trans h62
        replace h63 := (hne _ (by omega)).trans h63
        replace h64 := (hne _ (by omega)).trans h64
        replace h65 := (hne _ (by omega)).trans h65
        replace h66 := (hne _ (by omega)).trans h66
        replace h67 := (hne _ (by omega)).trans h67
        replace h68 := (hne _ (by omega)).trans h68
        replace h69 := (hne _ (by omega)).trans h69
        replace h70 := hnew
        replace hC := hC.go fun j q1 q2 => hne j (by omega)
        replace hfr := fun j (hj : j < 62 ∨ 70 < j) => (hne j (by omega)).trans (hfr j hj)
        clear hne
        refine x_iconst (pc := 111) dX7_goOn_111 (v := nI 0) (by decide) ?_
        refine x_istore (pc := 112) dX7_goOn_112 rfl ?_
        subst hfs
        exact loop (cn C) 0 w (tb9 _ _ _ _ _ _ _ _ _) _ _ _ (by omega) hK hC ⟨h62, h63, h64, h65, h66, h67, h68, h69, h70⟩ ⟨upd_same _ _ _, upd_same _ _ _, upd_same _ _ _, upd_same _ _ _, upd_same _ _ _, upd_same _ _ _, upd_same _ _ _, upd_same _ _ _, by rw [e]; exact upd_same _ _ _⟩ (fun x hx => ⟨upd_ne _ _ hx, upd_ne _ _ hx, upd_ne _ _ hx, upd_ne _ _ hx, upd_ne _ _ hx, upd_ne _ _ hx, upd_ne _ _ hx, upd_ne _ _ hx, upd_ne _ _ hx⟩) hfr
      · skip
        try first | rw [n_b0] at h_102 | rw [n_eq0 (by omega)] at h_102
        have e := hw0 0 ⟨fun q => (by cases q), fun q => by rw [q.2] at h_102; exact absurd rfl h_102⟩ (by omega)
        refine x_iconst (pc := 105) dX7_goOn_105 (v := nI 0) (by decide) ?_
        refine x_goto (pc := 106) dX7_goOn_106 (tgt := 110) (by decide) ?_
        refine xw_iast (pc := 110) dX7_goOn_110 (by assumption) (by first | omega | assumption) (by rfl) (fun w hnew hne => ?_)
        replace hK := (hne _ (by omega)).trans hK
        replace h62 := (hne _ (by omega)).trans h62
        replace h63 := (hne _ (by omega)).trans h63
        replace h64 := (hne _ (by omega)).trans h64
        replace h65 := (hne _ (by omega)).trans h65
        replace h66 := (hne _ (by omega)).trans h66
        replace h67 := (hne _ (by omega)).trans h67
        replace h68 := (hne _ (by omega)).trans h68
        replace h69 := (hne _ (by omega)).trans h69
        replace h70 := hnew
        replace hC := hC.go fun j q1 q2 => hne j (by omega)
        replace hfr := fun j (hj : j < 62 ∨ 70 < j) => (hne j (by omega)).trans (hfr j hj)
        clear hne
        refine x_iconst (pc := 111) dX7_goOn_111 (v := nI 0) (by decide) ?_
        refine x_istore (pc := 112) dX7_goOn_112 rfl ?_
        subst hfs
        exact loop (cn C) 0 w (tb9 _ _ _ _ _ _ _ _ _) _ _ _ (by omega) hK hC ⟨h62, h63, h64, h65, h66, h67, h68, h69, h70⟩ ⟨upd_same _ _ _, upd_same _ _ _, upd_same _ _ _, upd_same _ _ _, upd_same _ _ _, upd_same _ _ _, upd_same _ _ _, upd_same _ _ _, by rw [e]; exact upd_same _ _ _⟩ (fun x hx => ⟨upd_ne _ _ hx, upd_ne _ _ hx, upd_ne _ _ hx, upd_ne _ _ hx, upd_ne _ _ hx, upd_ne _ _ hx, upd_ne _ _ hx, upd_ne _ _ hx, upd_ne _ _ hx⟩) hfr
  refine x_iload_n (pc := 0) dX7_goOn_0 rfl ?_
  refine x_cs1p (pc := 1) dX7_goOn_1 ks_X7_148 (by omega) (by rfl) (by rfl) (by rfl) (m_manyOf (by omega)) ?_
  rw [hLe]
  refine x_istore (pc := 4) dX7_goOn_4 rfl ?_
  refine x_aload_n (pc := 6) dX7_goOn_6 rfl ?_
  refine x_iload_n (pc := 7) dX7_goOn_7 rfl ?_
  refine x_iload_n (pc := 8) dX7_goOn_8 rfl ?_
  refine x_cv2p (ci := 7) (pc := 9) dX7_goOn_9 ks_X7_131 (by first | assumption | exact hC.1 | exact hH.1 | exact hV0.1 | exact hT.1) (by rfl) (by omega) (by rfl) (by rfl) (by rfl) (m_behind okc hK hC h61 hs hl) ?_
  rw [hop]
  refine x_istore (pc := 12) dX7_goOn_12 rfl ?_
  refine x_iload (pc := 14) dX7_goOn_14 rfl ?_
  refine x_iconst (pc := 16) dX7_goOn_16 (v := nI 2) (by decide) ?_
  first | refine xn_irem (pc := 17) dX7_goOn_17 (by omega) (by omega) (by omega) ?_ | refine x_irem (pc := 17) dX7_goOn_17 (by assumption) ?_
  refine x_iconst (pc := 18) dX7_goOn_18 (v := nI 1) (by decide) ?_
  refine x_icmp_ne (pc := 19) dX7_goOn_19 (tgt := 26) (by decide) (fun h_19 => ?_) (fun h_19 => ?_)
  · skip
    try first | rw [n_b1] at h_19 | rw [n_b00] at h_19 | rw [n_eq (by omega) (by omega)] at h_19
    have e : false = decide (L % 2 = 1) := (decide_eq_false h_19).symm
    refine x_iconst (pc := 26) dX7_goOn_26 (v := nI 0) (by decide) ?_
    exact st _ e
  · replace h_19 := Classical.not_not.mp h_19
    try first | rw [n_b1] at h_19 | rw [n_b00] at h_19 | rw [n_eq (by omega) (by omega)] at h_19
    have e : true = decide (L % 2 = 1) := (decide_eq_true h_19).symm
    refine x_iconst (pc := 22) dX7_goOn_22 (v := nI 1) (by decide) ?_
    refine x_goto (pc := 23) dX7_goOn_23 (tgt := 27) (by decide) ?_
    exact st _ e
