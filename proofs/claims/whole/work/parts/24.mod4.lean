/-! the reference reads an item, the whole text; lays it -/
def riP (T : List Nat) (C D : Crt) (p : Nat) (un ke rl : Int32) (w w' : ax_W) : Prop := ∃ a : Nat, (∀ q, itS T D p = some q → a = q.2) ∧ w' 51 = om (nI T.length) (nI a) (nI (bN (itS T D p).isSome)) un ke rl ∧ mC w' C (((itS T D p).map (fun q => q.1)).getD D) ∧ ∀ j, (j < 51 ∨ j = 52 ∨ 60 < j) → w' j = w j
theorem riP_no {T : List Nat} {C D : Crt} {p a : Nat} {un ke rl : Int32} {w w' : ax_W} (hi : itS T D p = none) (hK : w' 51 = om (nI T.length) (nI a) (nI (bN false)) un ke rl) (hC : mC w' C D) (hfr : ∀ j, (j < 51 ∨ j = 52 ∨ 60 < j) → w' j = w j) : riP T C D p un ke rl w w' :=
  ⟨a, fun q h => by (rw [hi] at h; cases h), by rw [hi]; exact hK, by rw [hi]; exact hC, hfr⟩
theorem riP_yes {T : List Nat} {C D D' : Crt} {p e : Nat} {un ke rl : Int32} {w w' : ax_W} (hi : itS T D p = some (D', e)) (hK : w' 51 = om (nI T.length) (nI e) (nI (bN true)) un ke rl) (hC : mC w' C D') (hfr : ∀ j, (j < 51 ∨ j = 52 ∨ 60 < j) → w' j = w j) : riP T C D p un ke rl w w' :=
  ⟨e, fun q h => by (rw [hi] at h; cases h; rfl), by rw [hi]; exact hK, by rw [hi]; exact hC, hfr⟩
theorem m_riS {w0 w : ax_W} {n : Nat} {T : List Nat} (okt : okT T) {p : Nat} (hp : p < 1000) {un ke rl : Int32} {C D : Crt} (okc : okC C) (okD : okC D) (hl : ltI T p = nI 115) {x1 z2 z3 z4 : Option Value} (hK : w 51 = om (nI T.length) (nI (p + 1)) (nI (bN true)) un ke rl) (ht : mT w T) (hC : mC w C D) (hfr : ∀ j, (j < 51 ∨ j = 52 ∨ 60 < j) → w j = w0 j) : Run m_X7_readItem 3 0 0 64 [some (.ref 51), x1, z2, z3, z4] [] w n (Vo (riP T C D p un ke rl w0) n) := by
  have hg1 := fgS_le T (p + 1)
  have hg2 : fgS T (p + 1 + fgS T (p + 1) + 1) ≤ 2 := fgS_le T _
  have hg3 : fgS T (p + 1 + fgS T (p + 1) + 1 + fgS T (p + 1 + fgS T (p + 1) + 1) + 1) ≤ 2 := fgS_le T _
  have hi := it_s okt (D := D) hl
  have hnD := okD.1
  obtain ⟨fm, fk, fc, fs, fh, fv, fp, fd, h53, h54, h55, h56, h57, h58, h59, h60, hc1, hc2⟩ := id hC
  have fin : ∀ (b : Bool), b = decide (cn D < 10) → Run m_X7_readItem 3 0 0 81 [some (.ref 51), x1, z2, z3, z4] [.int (nI (bN b)), .ref 51] w n (Vo (riP T C D p un ke rl w0) n) := by
    intro b hb
    subst hb
    refine xw_putz (pc := 81) dX7_readItem_81 kf_X7_97 (by assumption) (by rfl) (by rfl) rfl rfl (by first | exact bN_lt _ | decide | omega) (fun w hnew hne => ?_)
    replace hK := hnew
    replace ht := ht.go fun j q1 q2 => hne j (by omega)
    replace hC := hC.go fun j q1 q2 => hne j (by omega)
    replace hfr := fun j (hj : j < 51 ∨ j = 52 ∨ 60 < j) => (hne j (by omega)).trans (hfr j hj)
    clear hne
    refine x_aload_n (pc := 84) dX7_readItem_84 rfl ?_
    refine x_iconst (pc := 85) dX7_readItem_85 (v := nI 0) (by decide) ?_
    refine x_iconst (pc := 86) dX7_readItem_86 (v := nI 4) (by decide) ?_
    refine x_bipush (pc := 87) dX7_readItem_87 (v := nI 44) (by decide) ?_
    refine x_cv3 (q1 := 0) (q2 := 0) (ci := 7) (pc := 89) dX7_readItem_89 ks_X7_101 (by first | assumption | exact hC.1 | exact hH.1 | exact hV0.1 | exact hT.1) (by rfl) (by omega) (by rfl) (by rfl) (by rfl) (m_number okt (by omega) hK ht) (va_kk fun v w hP => ?_)
    obtain ⟨rfl, hK', hq⟩ := hP
    replace hK := hK'
    replace ht := ht.go fun j _ _ => hq j (by omega)
    replace hC := hC.go fun j _ _ => hq j (by omega)
    replace hfr := fun j (hj : j < 51 ∨ j = 52 ∨ 60 < j) => (hq j (by omega)).trans (hfr j hj)
    clear hq hK'
    refine x_istore_n (pc := 92) dX7_readItem_92 rfl ?_
    refine x_aload_n (pc := 93) dX7_readItem_93 rfl ?_
    refine x_iconst (pc := 94) dX7_readItem_94 (v := nI 0) (by decide) ?_
    refine x_bipush (pc := 95) dX7_readItem_95 (v := nI 20) (by decide) ?_
    refine x_bipush (pc := 97) dX7_readItem_97 (v := nI 44) (by decide) ?_
    refine x_cv3 (q1 := 0) (q2 := 0) (ci := 7) (pc := 99) dX7_readItem_99 ks_X7_101 (by first | assumption | exact hC.1 | exact hH.1 | exact hV0.1 | exact hT.1) (by rfl) (by omega) (by rfl) (by rfl) (by rfl) (m_number okt (by omega) hK ht) (va_kk fun v w hP => ?_)
    obtain ⟨rfl, hK', hq⟩ := hP
    replace hK := hK'
    replace ht := ht.go fun j _ _ => hq j (by omega)
    replace hC := hC.go fun j _ _ => hq j (by omega)
    replace hfr := fun j (hj : j < 51 ∨ j = 52 ∨ 60 < j) => (hq j (by omega)).trans (hfr j hj)
    clear hq hK'
    refine x_istore_n (pc := 102) dX7_readItem_102 rfl ?_
    refine x_aload_n (pc := 103) dX7_readItem_103 rfl ?_
    refine x_iconst (pc := 104) dX7_readItem_104 (v := nI 0) (by decide) ?_
    refine x_bipush (pc := 105) dX7_readItem_105 (v := nI 20) (by decide) ?_
    refine x_bipush (pc := 107) dX7_readItem_107 (v := nI 59) (by decide) ?_
    refine x_cv3 (q1 := 0) (q2 := 0) (ci := 7) (pc := 109) dX7_readItem_109 ks_X7_101 (by first | assumption | exact hC.1 | exact hH.1 | exact hV0.1 | exact hT.1) (by rfl) (by omega) (by rfl) (by rfl) (by rfl) (m_number okt (by omega) hK ht) (va_kk fun v w hP => ?_)
    obtain ⟨rfl, hK', hq⟩ := hP
    replace hK := hK'
    replace ht := ht.go fun j _ _ => hq j (by omega)
    replace hC := hC.go fun j _ _ => hq j (by omega)
    replace hfr := fun j (hj : j < 51 ∨ j = 52 ∨ 60 < j) => (hq j (by omega)).trans (hfr j hj)
    clear hq hK'
    refine x_istore (pc := 112) dX7_readItem_112 rfl ?_
    refine x_aload_n (pc := 114) dX7_readItem_114 rfl ?_
    refine x_getf (pc := 115) dX7_readItem_115 kf_X7_97 (by first | assumption | exact hC.1 | exact hH.1 | exact hV0.1 | exact hT.1) (by rfl) ?_
    refine x_if_eq (pc := 118) dX7_readItem_118 (tgt := 359) (by decide) (fun h_118 => ?_) (fun h_118 => ?_)
    · skip
      try first | rw [n_b0] at h_118 | rw [n_eq0 (by omega)] at h_118
      have hs : sB T D (p + 1) = false := h_118
      rw [h_118] at hK
      rw [if_neg (by rw [hs]; decide)] at hi
      refine x_vret (pc := 359) dX7_readItem_359 rfl ?_
      first | exact vo_i (riP_yes hi hK hC' hfr) | exact vo_i (riP_no hi hK hC hfr)
    · skip
      try first | rw [n_b0] at h_118 | rw [n_eq0 (by omega)] at h_118
      simp only [Bool.not_eq_false] at h_118
      have hs : sB T D (p + 1) = true := h_118
      rw [h_118] at hK
      rw [if_pos hs] at hi
      have hd10 : cn D < 10 := by
        unfold sB at hs
        simp only [Bool.and_eq_true, decide_eq_true_eq] at hs
        exact hs.1.1.1
      refine x_aload_n (pc := 121) dX7_readItem_121 rfl ?_
      refine x_iload_n (pc := 122) dX7_readItem_122 rfl ?_
      refine x_iload_n (pc := 123) dX7_readItem_123 rfl ?_
      refine x_iload (pc := 124) dX7_readItem_124 rfl ?_
      refine x_cv3 (q1 := 0) (q2 := 0) (ci := 7) (pc := 126) dX7_readItem_126 ks_X7_71 (by first | assumption | exact hC.1 | exact hH.1 | exact hV0.1 | exact hT.1) (by rfl) (by omega) (by rfl) (by rfl) (by rfl) (m_firstOf hK hC hd10 okc.1) (vo_kk fun w hP => ?_)
      obtain ⟨hK', hC', hq⟩ := hP
      replace hK := hK'.trans hK
      replace hfr := fun j (hj : j < 51 ∨ j = 52 ∨ 60 < j) => (hq j (by omega)).trans (hfr j hj)
      refine x_goto (pc := 129) dX7_readItem_129 (tgt := 359) (by decide) ?_
      refine x_vret (pc := 359) dX7_readItem_359 rfl ?_
      first | exact vo_i (riP_yes hi hK hC' hfr) | exact vo_i (riP_no hi hK hC hfr)
  refine x_aload_n (pc := 64) dX7_readItem_64 rfl ?_
  refine x_aload_n (pc := 65) dX7_readItem_65 rfl ?_
  refine x_getf (pc := 66) dX7_readItem_66 kf_X7_13 (by first | assumption | exact hC.1 | exact hH.1 | exact hV0.1 | exact hT.1) (by rfl) ?_
  refine x_iconst (pc := 69) dX7_readItem_69 (v := nI 1) (by decide) ?_
  refine xn_iald (pc := 70) dX7_readItem_70 (by assumption) (by first | omega | assumption) (by rfl) ?_
  rw [hc2.1]
  refine x_bipush (pc := 71) dX7_readItem_71 (v := nI 10) (by decide) ?_
  refine x_icmp_ge (pc := 73) dX7_readItem_73 (tgt := 80) (by decide) (fun h_73 => ?_) (fun h_73 => ?_)
  · skip
    try first | rw [n_b1] at h_73 | rw [n_b00] at h_73 | rw [n_le (by omega) (by omega)] at h_73
    have e : false = decide (cn D < 10) := (decide_eq_false (by omega)).symm
    refine x_iconst (pc := 80) dX7_readItem_80 (v := nI 0) (by decide) ?_
    exact fin _ e
  · skip
    try first | rw [n_b1] at h_73 | rw [n_b00] at h_73 | rw [n_le (by omega) (by omega)] at h_73
    have e : true = decide (cn D < 10) := (decide_eq_true (by omega)).symm
    refine x_iconst (pc := 76) dX7_readItem_76 (v := nI 1) (by decide) ?_
    refine x_goto (pc := 77) dX7_readItem_77 (tgt := 81) (by decide) ?_
    exact fin _ e
theorem m_riV2 {w0 w : ax_W} {n : Nat} {T : List Nat} (okt : okT T) {p : Nat} (hp : p < 1000) {un ke rl zz : Int32} {C D : Crt} (okD : okC D) (hl : ltI T p = nI 118) {x1 z3 z4 : Option Value} {b : Bool} (hb : b = vB T D (p + 1)) (hK : w 51 = om (nI T.length) (nI (pN T (p + 1))) zz un ke rl) (hC : mC w C D) (hfr : ∀ j, (j < 51 ∨ j = 52 ∨ 60 < j) → w j = w0 j) : Run m_X7_readItem 3 0 0 165 [some (.ref 51), x1, some (.int (nI (nuS T (p + 1)))), z3, z4] [.int (nI (bN b)), .ref 51] w n (Vo (riP T C D p un ke rl w0) n) := by
  have hn := okD.1
  have hi := it_v okt okD hl
  rw [← hb] at hi
  obtain ⟨fm, fk, fc, fs, fh, fv, fp, fd, h53, h54, h55, h56, h57, h58, h59, h60, ⟨e1, e2, e3, e4, e5⟩, ⟨d1, d2, d3, d4, d5⟩⟩ := id hC
  refine xw_putz (pc := 165) dX7_readItem_165 kf_X7_97 (by assumption) (by rfl) (by rfl) rfl rfl (by first | exact bN_lt _ | decide | omega) (fun w hnew hne => ?_)
  replace hK := hnew
  replace h53 := (hne _ (by omega)).trans h53
  replace h54 := (hne _ (by omega)).trans h54
  replace h55 := (hne _ (by omega)).trans h55
  replace h56 := (hne _ (by omega)).trans h56
  replace h57 := (hne _ (by omega)).trans h57
  replace h58 := (hne _ (by omega)).trans h58
  replace h59 := (hne _ (by omega)).trans h59
  replace h60 := (hne _ (by omega)).trans h60
  replace hfr := fun j (hj : j < 51 ∨ j = 52 ∨ 60 < j) => (hne j (by omega)).trans (hfr j hj)
  clear hne
  refine x_aload_n (pc := 168) dX7_readItem_168 rfl ?_
  refine x_getf (pc := 169) dX7_readItem_169 kf_X7_97 (by first | assumption | exact hC.1 | exact hH.1 | exact hV0.1 | exact hT.1) (by rfl) ?_
  refine x_if_eq (pc := 172) dX7_readItem_172 (tgt := 359) (by decide) (fun h_172 => ?_) (fun h_172 => ?_)
  · skip
    try first | rw [n_b0] at h_172 | rw [n_eq0 (by omega)] at h_172
    subst h_172
    rw [if_neg (by decide)] at hi
    have hC : mC w C D := ⟨fm, fk, fc, fs, fh, fv, fp, fd, h53, h54, h55, h56, h57, h58, h59, h60, ⟨e1, e2, e3, e4, e5⟩, ⟨d1, d2, d3, d4, d5⟩⟩
    refine x_vret (pc := 359) dX7_readItem_359 rfl ?_
    exact vo_i (riP_no hi hK hC hfr)
  · skip
    try first | rw [n_b0] at h_172 | rw [n_eq0 (by omega)] at h_172
    simp only [Bool.not_eq_false] at h_172
    subst h_172
    rw [if_pos rfl] at hi
    have hlt : nuS T (p + 1) < cn D := by
      unfold vB at hb
      have h2 := hb.symm
      simp only [Bool.and_eq_true, decide_eq_true_eq] at h2
      have h3 := h2.1.2
      rw [nm_m okt (by omega) (by omega)] at h3
      simp only [Bool.and_eq_true, decide_eq_true_eq] at h3
      exact h3.2
    have hlt' : numS T (p + 1) (fgS T (p + 1)) < cn D := hlt
    refine x_aload_n (pc := 175) dX7_readItem_175 rfl ?_
    refine x_getf (pc := 176) dX7_readItem_176 kf_X7_29 (by first | assumption | exact hC.1 | exact hH.1 | exact hV0.1 | exact hT.1) (by rfl) ?_
    refine x_iconst (pc := 179) dX7_readItem_179 (v := nI 1) (by decide) ?_
    refine x_dup2 (pc := 180) dX7_readItem_180 rfl rfl ?_
    refine xn_iald (pc := 181) dX7_readItem_181 (by assumption) (by first | omega | assumption) (by rfl) ?_
    rw [d2]
    refine x_iconst (pc := 182) dX7_readItem_182 (v := nI 1) (by decide) ?_
    refine x_iload_n (pc := 183) dX7_readItem_183 rfl ?_
    first | refine xn_shl1 (pc := 184) dX7_readItem_184 (by omega) ?_ | refine xn_ishl (pc := 184) dX7_readItem_184 (by omega) (by omega) ?_ | refine x_ishl (pc := 184) dX7_readItem_184 ?_
    first | refine xn_ior (pc := 185) dX7_readItem_185 ?_ | refine x_ior (pc := 185) dX7_readItem_185 ?_
    refine xw_iast (pc := 186) dX7_readItem_186 (by assumption) (by first | omega | assumption) (by rfl) (fun w hnew hne => ?_)
    replace hK := (hne _ (by omega)).trans hK
    replace h53 := (hne _ (by omega)).trans h53
    replace h54 := (hne _ (by omega)).trans h54
    replace h55 := (hne _ (by omega)).trans h55
    replace h56 := (hne _ (by omega)).trans h56
    replace h57 := (hne _ (by omega)).trans h57
    replace h58 := hnew
    replace h59 := (hne _ (by omega)).trans h59
    replace h60 := (hne _ (by omega)).trans h60
    replace hfr := fun j (hj : j < 51 ∨ j = 52 ∨ 60 < j) => (hne j (by omega)).trans (hfr j hj)
    clear hne
    refine x_goto (pc := 187) dX7_readItem_187 (tgt := 359) (by decide) ?_
    refine x_vret (pc := 359) dX7_readItem_359 rfl ?_
    refine vo_i (riP_yes hi hK ⟨fm, fk, fc, fs, fh, _, fp, fd, h53, h54, h55, h56, h57, h58, h59, h60, ⟨e1, ?_, e3, e4, e5⟩, ⟨d1, ?_, d3, d4, d5⟩⟩ hfr)
    · rw [upd_ne _ _ (by decide)]; exact e2
    · rw [upd_same]; rfl
theorem m_riV {w0 w : ax_W} {n : Nat} {T : List Nat} (okt : okT T) {p : Nat} (hp : p < 1000) {un ke rl : Int32} {C D : Crt} (okD : okC D) (hl : ltI T p = nI 118) {x1 z2 z3 z4 : Option Value} (hK : w 51 = om (nI T.length) (nI (p + 1)) (nI (bN true)) un ke rl) (ht : mT w T) (hC : mC w C D) (hfr : ∀ j, (j < 51 ∨ j = 52 ∨ 60 < j) → w j = w0 j) : Run m_X7_readItem 3 0 0 132 [some (.ref 51), x1, z2, z3, z4] [] w n (Vo (riP T C D p un ke rl w0) n) := by
  have hn := okD.1
  have hg1 := fgS_le T (p + 1)
  refine x_aload_n (pc := 132) dX7_readItem_132 rfl ?_
  refine x_bipush (pc := 133) dX7_readItem_133 (v := nI 59) (by decide) ?_
  refine x_cv1 (q1 := 0) (q2 := 0) (ci := 7) (pc := 135) dX7_readItem_135 ks_X7_105 (by first | assumption | exact hC.1 | exact hH.1 | exact hV0.1 | exact hT.1) (by rfl) (by omega) (by rfl) (by rfl) (by rfl) (m_statementAt okt (by omega) hK ht hC) (va_kk fun v w hP => ?_)
  obtain ⟨rfl, hK', hq⟩ := hP
  replace hK := hK'
  replace ht := ht.go fun j _ _ => hq j (by omega)
  replace hC := hC.go fun j _ _ => hq j (by omega)
  replace hfr := fun j (hj : j < 51 ∨ j = 52 ∨ 60 < j) => (hq j (by omega)).trans (hfr j hj)
  obtain ⟨fm, fk, fc, fs, fh, fv, fp, fd, h53, h54, h55, h56, h57, h58, h59, h60, ⟨e1, e2, e3, e4, e5⟩, ⟨d1, d2, d3, d4, d5⟩⟩ := id hC
  refine x_istore_n (pc := 138) dX7_readItem_138 rfl ?_
  refine x_aload_n (pc := 139) dX7_readItem_139 rfl ?_
  refine x_aload_n (pc := 140) dX7_readItem_140 rfl ?_
  refine x_getf (pc := 141) dX7_readItem_141 kf_X7_97 (by first | assumption | exact hC.1 | exact hH.1 | exact hV0.1 | exact hT.1) (by rfl) ?_
  refine x_if_eq (pc := 144) dX7_readItem_144 (tgt := 164) (by decide) (fun h_144 => ?_) (fun h_144 => ?_)
  · skip
    try first | rw [n_b0] at h_144 | rw [n_eq0 (by omega)] at h_144
    have e : false = vB T D (p + 1) := by unfold vB; rw [h_144]; rfl
    refine x_iconst (pc := 164) dX7_readItem_164 (v := nI 0) (by decide) ?_
    exact m_riV2 okt hp okD hl e hK hC hfr
  · skip
    try first | rw [n_b0] at h_144 | rw [n_eq0 (by omega)] at h_144
    simp only [Bool.not_eq_false] at h_144
    have hlt : nuS T (p + 1) < cn D := by
      have h3 := h_144
      simp only [Bool.true_and] at h3
      rw [nm_m okt (by omega) (by omega)] at h3
      simp only [Bool.and_eq_true, decide_eq_true_eq] at h3
      exact h3.2
    have hlt' : numS T (p + 1) (fgS T (p + 1)) < cn D := hlt
    have hk4 : fk (10 + nuS T (p + 1)) = nI (kd D (nuS T (p + 1))) := (d4 _ hlt).1
    have hkd := (okD.2.2.2.1 _ hlt).1
    refine x_aload_n (pc := 147) dX7_readItem_147 rfl ?_
    refine x_getf (pc := 148) dX7_readItem_148 kf_X7_17 (by first | assumption | exact hC.1 | exact hH.1 | exact hV0.1 | exact hT.1) (by rfl) ?_
    refine x_bipush (pc := 151) dX7_readItem_151 (v := nI 10) (by decide) ?_
    refine x_iload_n (pc := 153) dX7_readItem_153 rfl ?_
    first | refine xn_iadd (pc := 154) dX7_readItem_154 ?_ | refine x_iadd (pc := 154) dX7_readItem_154 ?_
    refine xn_iald (pc := 155) dX7_readItem_155 (by assumption) (by first | omega | assumption) (by rfl) ?_
    rw [hk4]
    refine x_iconst (pc := 156) dX7_readItem_156 (v := nI 4) (by decide) ?_
    refine x_icmp_eq (pc := 157) dX7_readItem_157 (tgt := 164) (by decide) (fun h_157 => ?_) (fun h_157 => ?_)
    · skip
      try first | rw [n_b1] at h_157 | rw [n_b00] at h_157 | rw [n_eq (by omega) (by omega)] at h_157
      have e : false = vB T D (p + 1) := by unfold vB; rw [h_144, decide_eq_false (fun q => q h_157)]; rfl
      refine x_iconst (pc := 164) dX7_readItem_164 (v := nI 0) (by decide) ?_
      exact m_riV2 okt hp okD hl e hK hC hfr
    · skip
      try first | rw [n_b1] at h_157 | rw [n_b00] at h_157 | rw [n_eq (by omega) (by omega)] at h_157
      have e : true = vB T D (p + 1) := by unfold vB; rw [h_144, decide_eq_true h_157]; rfl
      refine x_iconst (pc := 160) dX7_readItem_160 (v := nI 1) (by decide) ?_
      refine x_goto (pc := 161) dX7_readItem_161 (tgt := 165) (by decide) ?_
      exact m_riV2 okt hp okD hl e hK hC hfr
theorem m_riR2 {w0 w : ax_W} {n : Nat} {T : List Nat} (okt : okT T) {p : Nat} (hp : p < 1000) {un ke rl zz : Int32} {C D : Crt} (okc : okC C) (okD : okC D) (hl : ltI T p = nI 114) {x1 z4 : Option Value} {b : Bool} (hb : b = hB T D (p + 1)) (hK : w 51 = om (nI T.length) (nI (pN T (pN T (p + 1)))) zz un ke rl) (hC : mC w C D) (hfr : ∀ j, (j < 51 ∨ j = 52 ∨ 60 < j) → w j = w0 j) : Run m_X7_readItem 3 0 0 235 [some (.ref 51), x1, some (.int (nI (nuS T (p + 1)))), some (.int (nI (nuS T (pN T (p + 1))))), z4] [.int (nI (bN b)), .ref 51] w n (Vo (riP T C D p un ke rl w0) n) := by
  have hn := okD.1
  have hi := it_r okt okD hl
  rw [← hb] at hi
  obtain ⟨fm, fk, fc, fs, fh, fv, fp, fd, h53, h54, h55, h56, h57, h58, h59, h60, ⟨e1, e2, e3, e4, e5⟩, ⟨d1, d2, d3, d4, d5⟩⟩ := id hC
  refine xw_putz (pc := 235) dX7_readItem_235 kf_X7_97 (by assumption) (by rfl) (by rfl) rfl rfl (by first | exact bN_lt _ | decide | omega) (fun w hnew hne => ?_)
  replace hK := hnew
  replace h53 := (hne _ (by omega)).trans h53
  replace h54 := (hne _ (by omega)).trans h54
  replace h55 := (hne _ (by omega)).trans h55
  replace h56 := (hne _ (by omega)).trans h56
  replace h57 := (hne _ (by omega)).trans h57
  replace h58 := (hne _ (by omega)).trans h58
  replace h59 := (hne _ (by omega)).trans h59
  replace h60 := (hne _ (by omega)).trans h60
  replace hfr := fun j (hj : j < 51 ∨ j = 52 ∨ 60 < j) => (hne j (by omega)).trans (hfr j hj)
  clear hne
  refine x_aload_n (pc := 238) dX7_readItem_238 rfl ?_
  refine x_getf (pc := 239) dX7_readItem_239 kf_X7_97 (by first | assumption | exact hC.1 | exact hH.1 | exact hV0.1 | exact hT.1) (by rfl) ?_
  refine x_if_eq (pc := 242) dX7_readItem_242 (tgt := 359) (by decide) (fun h_242 => ?_) (fun h_242 => ?_)
  · skip
    try first | rw [n_b0] at h_242 | rw [n_eq0 (by omega)] at h_242
    subst h_242
    rw [if_neg (by decide)] at hi
    have hC : mC w C D := ⟨fm, fk, fc, fs, fh, fv, fp, fd, h53, h54, h55, h56, h57, h58, h59, h60, ⟨e1, e2, e3, e4, e5⟩, ⟨d1, d2, d3, d4, d5⟩⟩
    refine x_vret (pc := 359) dX7_readItem_359 rfl ?_
    exact vo_i (riP_no hi hK hC hfr)
  · skip
    try first | rw [n_b0] at h_242 | rw [n_eq0 (by omega)] at h_242
    simp only [Bool.not_eq_false] at h_242
    subst h_242
    rw [if_pos rfl] at hi
    have h2 := hb.symm
    unfold hB at h2
    simp only [Bool.and_eq_true, decide_eq_true_eq] at h2
    have h3 := h2.1.1.2
    have h4 := h2.1.2
    rw [nm_m okt (by omega) (by omega)] at h3 h4
    simp only [Bool.and_eq_true, decide_eq_true_eq] at h3 h4
    have hlt := h3.2
    have hlt2 := h4.2
    have hlt' : numS T (p + 1) (fgS T (p + 1)) < cn D := hlt
    have hlt2' : numS T (p + 1 + fgS T (p + 1) + 1) (fgS T (p + 1 + fgS T (p + 1) + 1)) < cn D := hlt2
    have hk4 : fh (10 + nuS T (p + 1)) = nI (hg D (nuS T (p + 1))) := (d4 _ hlt).2.2.2
    refine x_aload_n (pc := 245) dX7_readItem_245 rfl ?_
    refine x_getf (pc := 246) dX7_readItem_246 kf_X7_26 (by first | assumption | exact hC.1 | exact hH.1 | exact hV0.1 | exact hT.1) (by rfl) ?_
    refine x_bipush (pc := 249) dX7_readItem_249 (v := nI 10) (by decide) ?_
    refine x_iload_n (pc := 251) dX7_readItem_251 rfl ?_
    first | refine xn_iadd (pc := 252) dX7_readItem_252 ?_ | refine x_iadd (pc := 252) dX7_readItem_252 ?_
    refine x_dup2 (pc := 253) dX7_readItem_253 rfl rfl ?_
    refine xn_iald (pc := 254) dX7_readItem_254 (by assumption) (by first | omega | assumption) (by rfl) ?_
    rw [hk4]
    refine x_iconst (pc := 255) dX7_readItem_255 (v := nI 1) (by decide) ?_
    refine x_iload_n (pc := 256) dX7_readItem_256 rfl ?_
    first | refine xn_shl1 (pc := 257) dX7_readItem_257 (by omega) ?_ | refine xn_ishl (pc := 257) dX7_readItem_257 (by omega) (by omega) ?_ | refine x_ishl (pc := 257) dX7_readItem_257 ?_
    first | refine xn_ior (pc := 258) dX7_readItem_258 ?_ | refine x_ior (pc := 258) dX7_readItem_258 ?_
    refine xw_iast (pc := 259) dX7_readItem_259 (by assumption) (by first | omega | assumption) (by rfl) (fun w hnew hne => ?_)
    replace hK := (hne _ (by omega)).trans hK
    replace h53 := (hne _ (by omega)).trans h53
    replace h54 := (hne _ (by omega)).trans h54
    replace h55 := (hne _ (by omega)).trans h55
    replace h56 := (hne _ (by omega)).trans h56
    replace h57 := hnew
    replace h58 := (hne _ (by omega)).trans h58
    replace h59 := (hne _ (by omega)).trans h59
    replace h60 := (hne _ (by omega)).trans h60
    replace hfr := fun j (hj : j < 51 ∨ j = 52 ∨ 60 < j) => (hne j (by omega)).trans (hfr j hj)
    clear hne
    refine x_goto (pc := 260) dX7_readItem_260 (tgt := 359) (by decide) ?_
    refine x_vret (pc := 359) dX7_readItem_359 rfl ?_
    refine vo_i (riP_yes hi hK ⟨fm, fk, fc, fs, _, fv, fp, fd, h53, h54, h55, h56, h57, h58, h59, h60, ⟨e1, e2, e3, fun a ha => ?_, e5⟩, ⟨d1, d2, d3, fun a ha => ?_, d5⟩⟩ hfr)
    · rw [upd_ne _ _ (by have := okc.1; omega)]; exact e4 a ha
    · by_cases q : a = nuS T (p + 1)
      · subst q
        rw [show 10 * 1 + nuS T (p + 1) = 10 + nuS T (p + 1) by omega, upd_same]
        refine ⟨(d4 _ hlt).1, (d4 _ hlt).2.1, (d4 _ hlt).2.2.1, ?_⟩
        show _ = nI (fup (hg D) (nuS T (p + 1)) _ (nuS T (p + 1)))
        rw [fup_same]
      · rw [upd_ne _ _ (by omega)]
        have h5 := d4 a ha
        refine ⟨h5.1, h5.2.1, h5.2.2.1, ?_⟩
        show _ = nI (fup (hg D) (nuS T (p + 1)) _ a)
        rw [fup_ne _ _ q]
        exact h5.2.2.2
theorem m_riR {w0 w : ax_W} {n : Nat} {T : List Nat} (okt : okT T) {p : Nat} (hp : p < 1000) {un ke rl : Int32} {C D : Crt} (okc : okC C) (okD : okC D) (hl : ltI T p = nI 114) {x1 z2 z3 z4 : Option Value} (hK : w 51 = om (nI T.length) (nI (p + 1)) (nI (bN true)) un ke rl) (ht : mT w T) (hC : mC w C D) (hfr : ∀ j, (j < 51 ∨ j = 52 ∨ 60 < j) → w j = w0 j) : Run m_X7_readItem 3 0 0 190 [some (.ref 51), x1, z2, z3, z4] [] w n (Vo (riP T C D p un ke rl w0) n) := by
  have hn := okD.1
  have hg1 := fgS_le T (p + 1)
  have hg2 : fgS T (p + 1 + fgS T (p + 1) + 1) ≤ 2 := fgS_le T _
  have h100 := num_100 (T := T) (p := p + 1)
  have h200 : numS T (p + 1 + fgS T (p + 1) + 1) (fgS T (p + 1 + fgS T (p + 1) + 1)) < 100 := num_100
  refine x_aload_n (pc := 190) dX7_readItem_190 rfl ?_
  refine x_bipush (pc := 191) dX7_readItem_191 (v := nI 44) (by decide) ?_
  refine x_cv1 (q1 := 0) (q2 := 0) (ci := 7) (pc := 193) dX7_readItem_193 ks_X7_105 (by first | assumption | exact hC.1 | exact hH.1 | exact hV0.1 | exact hT.1) (by rfl) (by omega) (by rfl) (by rfl) (by rfl) (m_statementAt okt (by omega) hK ht hC) (va_kk fun v w hP => ?_)
  obtain ⟨rfl, hK', hq⟩ := hP
  replace hK := hK'
  replace ht := ht.go fun j _ _ => hq j (by omega)
  replace hC := hC.go fun j _ _ => hq j (by omega)
  replace hfr := fun j (hj : j < 51 ∨ j = 52 ∨ 60 < j) => (hq j (by omega)).trans (hfr j hj)
  clear hq hK'
  refine x_istore_n (pc := 196) dX7_readItem_196 rfl ?_
  refine x_aload_n (pc := 197) dX7_readItem_197 rfl ?_
  refine x_bipush (pc := 198) dX7_readItem_198 (v := nI 59) (by decide) ?_
  refine x_cv1 (q1 := 0) (q2 := 0) (ci := 7) (pc := 200) dX7_readItem_200 ks_X7_105 (by first | assumption | exact hC.1 | exact hH.1 | exact hV0.1 | exact hT.1) (by rfl) (by omega) (by rfl) (by rfl) (by rfl) (m_statementAt okt (by omega) hK ht hC) (va_kk fun v w hP => ?_)
  obtain ⟨rfl, hK', hq⟩ := hP
  replace hK := hK'
  replace ht := ht.go fun j _ _ => hq j (by omega)
  replace hC := hC.go fun j _ _ => hq j (by omega)
  replace hfr := fun j (hj : j < 51 ∨ j = 52 ∨ 60 < j) => (hq j (by omega)).trans (hfr j hj)
  clear hq hK'
  obtain ⟨fm, fk, fc, fs, fh, fv, fp, fd, h53, h54, h55, h56, h57, h58, h59, h60, ⟨e1, e2, e3, e4, e5⟩, ⟨d1, d2, d3, d4, d5⟩⟩ := id hC
  refine x_istore_n (pc := 203) dX7_readItem_203 rfl ?_
  refine x_aload_n (pc := 204) dX7_readItem_204 rfl ?_
  refine x_aload_n (pc := 205) dX7_readItem_205 rfl ?_
  refine x_getf (pc := 206) dX7_readItem_206 kf_X7_97 (by first | assumption | exact hC.1 | exact hH.1 | exact hV0.1 | exact hT.1) (by rfl) ?_
  refine x_if_eq (pc := 209) dX7_readItem_209 (tgt := 234) (by decide) (fun h_209 => ?_) (fun h_209 => ?_)
  · skip
    try first | rw [n_b0] at h_209 | rw [n_eq0 (by omega)] at h_209
    have e : false = hB T D (p + 1) := by unfold hB; rw [h_209]; rfl
    refine x_iconst (pc := 234) dX7_readItem_234 (v := nI 0) (by decide) ?_
    exact m_riR2 okt hp okc okD hl e hK hC hfr
  · skip
    try first | rw [n_b0] at h_209 | rw [n_eq0 (by omega)] at h_209
    simp only [Bool.not_eq_false] at h_209
    have hlt : nuS T (p + 1) < cn D := by
      have h3 := h_209
      simp only [Bool.true_and, Bool.and_eq_true] at h3
      have h3 := h3.1
      rw [nm_m okt (by omega) (by omega)] at h3
      simp only [Bool.and_eq_true, decide_eq_true_eq] at h3
      exact h3.2
    have hlt' : numS T (p + 1) (fgS T (p + 1)) < cn D := hlt
    have hk4 : fk (10 + nuS T (p + 1)) = nI (kd D (nuS T (p + 1))) := (d4 _ hlt).1
    have hkd := (okD.2.2.2.1 _ hlt).1
    refine x_iload_n (pc := 212) dX7_readItem_212 rfl ?_
    refine x_iload_n (pc := 213) dX7_readItem_213 rfl ?_
    refine x_icmp_eq (pc := 214) dX7_readItem_214 (tgt := 234) (by decide) (fun h_214 => ?_) (fun h_214 => ?_)
    · skip
      try first | rw [n_b1] at h_214 | rw [n_b00] at h_214 | rw [n_eq (by omega) (by omega)] at h_214
      have e : false = hB T D (p + 1) := by unfold hB; rw [h_209, decide_eq_false (fun q => q.1 h_214)]; rfl
      refine x_iconst (pc := 234) dX7_readItem_234 (v := nI 0) (by decide) ?_
      exact m_riR2 okt hp okc okD hl e hK hC hfr
    · skip
      try first | rw [n_b1] at h_214 | rw [n_b00] at h_214 | rw [n_eq (by omega) (by omega)] at h_214
      refine x_aload_n (pc := 217) dX7_readItem_217 rfl ?_
      refine x_getf (pc := 218) dX7_readItem_218 kf_X7_17 (by first | assumption | exact hC.1 | exact hH.1 | exact hV0.1 | exact hT.1) (by rfl) ?_
      refine x_bipush (pc := 221) dX7_readItem_221 (v := nI 10) (by decide) ?_
      refine x_iload_n (pc := 223) dX7_readItem_223 rfl ?_
      first | refine xn_iadd (pc := 224) dX7_readItem_224 ?_ | refine x_iadd (pc := 224) dX7_readItem_224 ?_
      refine xn_iald (pc := 225) dX7_readItem_225 (by assumption) (by first | omega | assumption) (by rfl) ?_
      rw [hk4]
      refine x_iconst (pc := 226) dX7_readItem_226 (v := nI 4) (by decide) ?_
      refine x_icmp_eq (pc := 227) dX7_readItem_227 (tgt := 234) (by decide) (fun h_227 => ?_) (fun h_227 => ?_)
      · skip
        try first | rw [n_b1] at h_227 | rw [n_b00] at h_227 | rw [n_eq (by omega) (by omega)] at h_227
        have e : false = hB T D (p + 1) := by unfold hB; rw [h_209, decide_eq_false (fun q => q.2 h_227)]; rfl
        refine x_iconst (pc := 234) dX7_readItem_234 (v := nI 0) (by decide) ?_
        exact m_riR2 okt hp okc okD hl e hK hC hfr
      · skip
        try first | rw [n_b1] at h_227 | rw [n_b00] at h_227 | rw [n_eq (by omega) (by omega)] at h_227
        have e : true = hB T D (p + 1) := by unfold hB; rw [h_209, decide_eq_true ⟨h_214, h_227⟩]; rfl
        refine x_iconst (pc := 230) dX7_readItem_230 (v := nI 1) (by decide) ?_
        refine x_goto (pc := 231) dX7_readItem_231 (tgt := 235) (by decide) ?_
        exact m_riR2 okt hp okc okD hl e hK hC hfr
theorem m_riP2 {w0 w : ax_W} {n : Nat} {T : List Nat} (okt : okT T) {p : Nat} (hp : p < 1000) {un ke rl zz : Int32} {C D : Crt} (okc : okC C) (okD : okC D) (hl : ltI T p = nI 112) {x1 z4 : Option Value} {b : Bool} (hb : b = pB T D (p + 1)) (hK : w 51 = om (nI T.length) (nI (pN T (pN T (p + 1)))) zz un ke rl) (hC : mC w C D) (hfr : ∀ j, (j < 51 ∨ j = 52 ∨ 60 < j) → w j = w0 j) : Run m_X7_readItem 3 0 0 335 [some (.ref 51), x1, some (.int (nI (nuS T (p + 1)))), some (.int (nI (nuS T (pN T (p + 1))))), z4] [.int (nI (bN b)), .ref 51] w n (Vo (riP T C D p un ke rl w0) n) := by
  have hn := okD.1
  have hi := it_p okt okD hl
  rw [← hb] at hi
  refine xw_putz (pc := 335) dX7_readItem_335 kf_X7_97 (by assumption) (by rfl) (by rfl) rfl rfl (by first | exact bN_lt _ | decide | omega) (fun w hnew hne => ?_)
  replace hK := hnew
  replace hC := hC.go fun j q1 q2 => hne j (by omega)
  replace hfr := fun j (hj : j < 51 ∨ j = 52 ∨ 60 < j) => (hne j (by omega)).trans (hfr j hj)
  clear hne
  refine x_aload_n (pc := 338) dX7_readItem_338 rfl ?_
  refine x_getf (pc := 339) dX7_readItem_339 kf_X7_97 (by first | assumption | exact hC.1 | exact hH.1 | exact hV0.1 | exact hT.1) (by rfl) ?_
  refine x_if_eq (pc := 342) dX7_readItem_342 (tgt := 359) (by decide) (fun h_342 => ?_) (fun h_342 => ?_)
  · skip
    try first | rw [n_b0] at h_342 | rw [n_eq0 (by omega)] at h_342
    subst h_342
    rw [if_neg (by decide)] at hi
    refine x_vret (pc := 359) dX7_readItem_359 rfl ?_
    first | exact vo_i (riP_yes hi hK hC' hfr) | exact vo_i (riP_no hi hK hC hfr)
  · skip
    try first | rw [n_b0] at h_342 | rw [n_eq0 (by omega)] at h_342
    simp only [Bool.not_eq_false] at h_342
    subst h_342
    rw [if_pos rfl] at hi
    have h2 := hb.symm
    unfold pB at h2
    simp only [Bool.and_eq_true, decide_eq_true_eq] at h2
    have h3 := h2.1.1.2
    have h4 := h2.1.2
    have h5 := h2.1.1.1
    rw [nm_m okt (by omega) (by omega)] at h3 h4
    simp only [Bool.and_eq_true, decide_eq_true_eq] at h3 h4
    refine x_aload_n (pc := 345) dX7_readItem_345 rfl ?_
    refine x_iload_n (pc := 346) dX7_readItem_346 rfl ?_
    refine x_iload_n (pc := 347) dX7_readItem_347 rfl ?_
    refine x_cv2 (q1 := 0) (q2 := 0) (ci := 7) (pc := 348) dX7_readItem_348 ks_X7_75 (by first | assumption | exact hC.1 | exact hH.1 | exact hV0.1 | exact hT.1) (by rfl) (by omega) (by rfl) (by rfl) (by rfl) (m_firstPerson hK hC h5 okc.2.1 (Nat.lt_of_lt_of_le h3.2 hn) (Nat.lt_of_lt_of_le h4.2 hn)) (vo_kk fun w hP => ?_)
    obtain ⟨hK', hC', hq⟩ := hP
    replace hK := hK'.trans hK
    replace hfr := fun j (hj : j < 51 ∨ j = 52 ∨ 60 < j) => (hq j (by omega)).trans (hfr j hj)
    refine x_goto (pc := 351) dX7_readItem_351 (tgt := 359) (by decide) ?_
    refine x_vret (pc := 359) dX7_readItem_359 rfl ?_
    first | exact vo_i (riP_yes hi hK hC' hfr) | exact vo_i (riP_no hi hK hC hfr)
theorem m_riP {w0 w : ax_W} {n : Nat} {T : List Nat} (okt : okT T) {p : Nat} (hp : p < 1000) {un ke rl : Int32} {C D : Crt} (okc : okC C) (okD : okC D) (hl : ltI T p = nI 112) {x1 z2 z3 z4 : Option Value} (hK : w 51 = om (nI T.length) (nI (p + 1)) (nI (bN true)) un ke rl) (ht : mT w T) (hC : mC w C D) (hfr : ∀ j, (j < 51 ∨ j = 52 ∨ 60 < j) → w j = w0 j) : Run m_X7_readItem 3 0 0 263 [some (.ref 51), x1, z2, z3, z4] [] w n (Vo (riP T C D p un ke rl w0) n) := by
  have hn := okD.1
  have hp5 := okD.2.1
  have hg1 := fgS_le T (p + 1)
  have hg2 : fgS T (p + 1 + fgS T (p + 1) + 1) ≤ 2 := fgS_le T _
  obtain ⟨fm, fk, fc, fs, fh, fv, fp, fd, h53, h54, h55, h56, h57, h58, h59, h60, ⟨e1, e2, e3, e4, e5⟩, ⟨d1, d2, d3, d4, d5⟩⟩ := id hC
  have fin : ∀ (b : Bool), b = decide (np D < 5) → Run m_X7_readItem 3 0 0 279 [some (.ref 51), x1, z2, z3, z4] [.int (nI (bN b)), .ref 51] w n (Vo (riP T C D p un ke rl w0) n) := by
    intro b hb
    subst hb
    clear h53 h54 h55 h56 h57 h58 h59 h60
    refine xw_putz (pc := 279) dX7_readItem_279 kf_X7_97 (by assumption) (by rfl) (by rfl) rfl rfl (by first | exact bN_lt _ | decide | omega) (fun w hnew hne => ?_)
    replace hK := hnew
    replace ht := ht.go fun j q1 q2 => hne j (by omega)
    replace hC := hC.go fun j q1 q2 => hne j (by omega)
    replace hfr := fun j (hj : j < 51 ∨ j = 52 ∨ 60 < j) => (hne j (by omega)).trans (hfr j hj)
    clear hne
    refine x_aload_n (pc := 282) dX7_readItem_282 rfl ?_
    refine x_bipush (pc := 283) dX7_readItem_283 (v := nI 44) (by decide) ?_
    refine x_cv1 (q1 := 0) (q2 := 0) (ci := 7) (pc := 285) dX7_readItem_285 ks_X7_105 (by first | assumption | exact hC.1 | exact hH.1 | exact hV0.1 | exact hT.1) (by rfl) (by omega) (by rfl) (by rfl) (by rfl) (m_statementAt okt (by omega) hK ht hC) (va_kk fun v w hP => ?_)
    obtain ⟨rfl, hK', hq⟩ := hP
    replace hK := hK'
    replace ht := ht.go fun j _ _ => hq j (by omega)
    replace hC := hC.go fun j _ _ => hq j (by omega)
    replace hfr := fun j (hj : j < 51 ∨ j = 52 ∨ 60 < j) => (hq j (by omega)).trans (hfr j hj)
    clear hq hK'
    refine x_istore_n (pc := 288) dX7_readItem_288 rfl ?_
    refine x_aload_n (pc := 289) dX7_readItem_289 rfl ?_
    refine x_bipush (pc := 290) dX7_readItem_290 (v := nI 59) (by decide) ?_
    refine x_cv1 (q1 := 0) (q2 := 0) (ci := 7) (pc := 292) dX7_readItem_292 ks_X7_105 (by first | assumption | exact hC.1 | exact hH.1 | exact hV0.1 | exact hT.1) (by rfl) (by omega) (by rfl) (by rfl) (by rfl) (m_statementAt okt (by omega) hK ht hC) (va_kk fun v w hP => ?_)
    obtain ⟨rfl, hK', hq⟩ := hP
    replace hK := hK'
    replace ht := ht.go fun j _ _ => hq j (by omega)
    replace hC := hC.go fun j _ _ => hq j (by omega)
    replace hfr := fun j (hj : j < 51 ∨ j = 52 ∨ 60 < j) => (hq j (by omega)).trans (hfr j hj)
    clear hq hK'
    obtain ⟨fm, fk, fc, fs, fh, fv, fp, fd, h53, h54, h55, h56, h57, h58, h59, h60, ⟨e1, e2, e3, e4, e5⟩, ⟨d1, d2, d3, d4, d5⟩⟩ := id hC
    refine x_istore_n (pc := 295) dX7_readItem_295 rfl ?_
    refine x_aload_n (pc := 296) dX7_readItem_296 rfl ?_
    refine x_aload_n (pc := 297) dX7_readItem_297 rfl ?_
    refine x_getf (pc := 298) dX7_readItem_298 kf_X7_97 (by first | assumption | exact hC.1 | exact hH.1 | exact hV0.1 | exact hT.1) (by rfl) ?_
    refine x_if_eq (pc := 301) dX7_readItem_301 (tgt := 334) (by decide) (fun h_301 => ?_) (fun h_301 => ?_)
    · skip
      try first | rw [n_b0] at h_301 | rw [n_eq0 (by omega)] at h_301
      have e : false = pB T D (p + 1) := by unfold pB; rw [h_301]; rfl
      refine x_iconst (pc := 334) dX7_readItem_334 (v := nI 0) (by decide) ?_
      exact m_riP2 okt hp okc okD hl e hK hC hfr
    · skip
      try first | rw [n_b0] at h_301 | rw [n_eq0 (by omega)] at h_301
      simp only [Bool.not_eq_false] at h_301
      have h3 := h_301
      simp only [Bool.and_eq_true] at h3
      obtain ⟨⟨-, h3⟩, h4⟩ := h3
      rw [nm_m okt (by omega) (by omega)] at h3 h4
      simp only [Bool.and_eq_true, decide_eq_true_eq] at h3 h4
      have hlt := h3.2
      have hlt2 := h4.2
      have hlt' : numS T (p + 1) (fgS T (p + 1)) < cn D := hlt
      have hlt2' : numS T (p + 1 + fgS T (p + 1) + 1) (fgS T (p + 1 + fgS T (p + 1) + 1)) < cn D := hlt2
      have hk4 : fk (10 + nuS T (p + 1)) = nI (kd D (nuS T (p + 1))) := (d4 _ hlt).1
      have hk5 : fk (10 + nuS T (pN T (p + 1))) = nI (kd D (nuS T (pN T (p + 1)))) := (d4 _ hlt2).1
      have hkd := (okD.2.2.2.1 _ hlt).1
      have hkd2 : kd D (nuS T (pN T (p + 1))) ≤ 4 := (okD.2.2.2.1 _ hlt2).1
      refine x_aload_n (pc := 304) dX7_readItem_304 rfl ?_
      refine x_getf (pc := 305) dX7_readItem_305 kf_X7_17 (by first | assumption | exact hC.1 | exact hH.1 | exact hV0.1 | exact hT.1) (by rfl) ?_
      refine x_bipush (pc := 308) dX7_readItem_308 (v := nI 10) (by decide) ?_
      refine x_iload_n (pc := 310) dX7_readItem_310 rfl ?_
      first | refine xn_iadd (pc := 311) dX7_readItem_311 ?_ | refine x_iadd (pc := 311) dX7_readItem_311 ?_
      refine xn_iald (pc := 312) dX7_readItem_312 (by assumption) (by first | omega | assumption) (by rfl) ?_
      rw [hk4]
      refine x_iconst (pc := 313) dX7_readItem_313 (v := nI 4) (by decide) ?_
      refine x_icmp_ne (pc := 314) dX7_readItem_314 (tgt := 334) (by decide) (fun h_314 => ?_) (fun h_314 => ?_)
      · skip
        try first | rw [n_b1] at h_314 | rw [n_b00] at h_314 | rw [n_eq (by omega) (by omega)] at h_314
        have e : false = pB T D (p + 1) := by unfold pB; rw [h_301, decide_eq_false (fun q => h_314 q.1)]; rfl
        refine x_iconst (pc := 334) dX7_readItem_334 (v := nI 0) (by decide) ?_
        exact m_riP2 okt hp okc okD hl e hK hC hfr
      · replace h_314 := Classical.not_not.mp h_314
        try first | rw [n_b1] at h_314 | rw [n_b00] at h_314 | rw [n_eq (by omega) (by omega)] at h_314
        refine x_aload_n (pc := 317) dX7_readItem_317 rfl ?_
        refine x_getf (pc := 318) dX7_readItem_318 kf_X7_17 (by first | assumption | exact hC.1 | exact hH.1 | exact hV0.1 | exact hT.1) (by rfl) ?_
        refine x_bipush (pc := 321) dX7_readItem_321 (v := nI 10) (by decide) ?_
        refine x_iload_n (pc := 323) dX7_readItem_323 rfl ?_
        first | refine xn_iadd (pc := 324) dX7_readItem_324 ?_ | refine x_iadd (pc := 324) dX7_readItem_324 ?_
        refine xn_iald (pc := 325) dX7_readItem_325 (by assumption) (by first | omega | assumption) (by rfl) ?_
        rw [hk5]
        refine x_iconst (pc := 326) dX7_readItem_326 (v := nI 4) (by decide) ?_
        refine x_icmp_ne (pc := 327) dX7_readItem_327 (tgt := 334) (by decide) (fun h_327 => ?_) (fun h_327 => ?_)
        · skip
          try first | rw [n_b1] at h_327 | rw [n_b00] at h_327 | rw [n_eq (by omega) (by omega)] at h_327
          have e : false = pB T D (p + 1) := by unfold pB; rw [h_301, decide_eq_false (fun q => h_327 q.2)]; rfl
          refine x_iconst (pc := 334) dX7_readItem_334 (v := nI 0) (by decide) ?_
          exact m_riP2 okt hp okc okD hl e hK hC hfr
        · replace h_327 := Classical.not_not.mp h_327
          try first | rw [n_b1] at h_327 | rw [n_b00] at h_327 | rw [n_eq (by omega) (by omega)] at h_327
          have e : true = pB T D (p + 1) := by unfold pB; rw [h_301, decide_eq_true ⟨h_314, h_327⟩]; rfl
          refine x_iconst (pc := 330) dX7_readItem_330 (v := nI 1) (by decide) ?_
          refine x_goto (pc := 331) dX7_readItem_331 (tgt := 335) (by decide) ?_
          exact m_riP2 okt hp okc okD hl e hK hC hfr
  refine x_aload_n (pc := 263) dX7_readItem_263 rfl ?_
  refine x_aload_n (pc := 264) dX7_readItem_264 rfl ?_
  refine x_getf (pc := 265) dX7_readItem_265 kf_X7_32 (by first | assumption | exact hC.1 | exact hH.1 | exact hV0.1 | exact hT.1) (by rfl) ?_
  refine x_iconst (pc := 268) dX7_readItem_268 (v := nI 1) (by decide) ?_
  refine xn_iald (pc := 269) dX7_readItem_269 (by assumption) (by first | omega | assumption) (by rfl) ?_
  rw [d3]
  refine x_iconst (pc := 270) dX7_readItem_270 (v := nI 5) (by decide) ?_
  refine x_icmp_ge (pc := 271) dX7_readItem_271 (tgt := 278) (by decide) (fun h_271 => ?_) (fun h_271 => ?_)
  · skip
    try first | rw [n_b1] at h_271 | rw [n_b00] at h_271 | rw [n_le (by omega) (by omega)] at h_271
    have e : false = decide (np D < 5) := (decide_eq_false (by omega)).symm
    refine x_iconst (pc := 278) dX7_readItem_278 (v := nI 0) (by decide) ?_
    exact fin _ e
  · skip
    try first | rw [n_b1] at h_271 | rw [n_b00] at h_271 | rw [n_le (by omega) (by omega)] at h_271
    have e : true = decide (np D < 5) := (decide_eq_true (by omega)).symm
    refine x_iconst (pc := 274) dX7_readItem_274 (v := nI 1) (by decide) ?_
    refine x_goto (pc := 275) dX7_readItem_275 (tgt := 279) (by decide) ?_
    exact fin _ e
theorem m_readItem {w0 : ax_W} {n : Nat} {T : List Nat} (okt : okT T) {p : Nat} (hp : p < T.length) {so un ke rl : Int32} {C D : Crt} (okc : okC C) (okD : okC D) (hK : w0 51 = om (nI T.length) (nI p) so un ke rl) (ht : mT w0 T) (hC : mC w0 C D) : Run m_X7_readItem 3 0 0 0 (l_ent m_X7_readItem [.ref 51]) [] w0 n (Vo (riP T C D p un ke rl w0) n) := by
  have hl := okt.1
  have hc := okt.2 p hp
  have hlt : ltI T p = nI (T.getD p 0) := if_pos hp
  have hfr : ∀ j, (j < 51 ∨ j = 52 ∨ 60 < j) → w0 j = w0 j := fun _ _ => rfl
  have main : ∀ w : ax_W, w 51 = om (nI T.length) (nI (p + 1)) (nI (bN true)) un ke rl → mT w T → mC w C D → (∀ j, (j < 51 ∨ j = 52 ∨ 60 < j) → w j = w0 j) → Run m_X7_readItem 3 0 0 21 [some (.ref 51), some (.int (nI (T.getD p 0))), none, none, none] [.int (nI (T.getD p 0))] w n (Vo (riP T C D p un ke rl w0) n) := by
    intro w hK ht hC hfr
    have hti : (nI (T.getD p 0)).toInt = (T.getD p 0 : Nat) := nI_toInt (by omega)
    by_cases h115 : T.getD p 0 = 115
    · rw [h115] at hlt hti ⊢
      exact x_tableIn (pc := 21) dX7_readItem_21 (tgt := 64) (off := 43) (by decide +kernel) (by decide +kernel) (by decide +kernel) (by decide) (m_riS okt (by omega) okc okD hlt hK ht hC hfr)
    by_cases h118 : T.getD p 0 = 118
    · rw [h118] at hlt hti ⊢
      exact x_tableIn (pc := 21) dX7_readItem_21 (tgt := 132) (off := 111) (by decide +kernel) (by decide +kernel) (by decide +kernel) (by decide) (m_riV okt (by omega) okD hlt hK ht hC hfr)
    by_cases h114 : T.getD p 0 = 114
    · rw [h114] at hlt hti ⊢
      exact x_tableIn (pc := 21) dX7_readItem_21 (tgt := 190) (off := 169) (by decide +kernel) (by decide +kernel) (by decide +kernel) (by decide) (m_riR okt (by omega) okc okD hlt hK ht hC hfr)
    by_cases h112 : T.getD p 0 = 112
    · rw [h112] at hlt hti ⊢
      exact x_tableIn (pc := 21) dX7_readItem_21 (tgt := 263) (off := 242) (by decide +kernel) (by decide +kernel) (by decide +kernel) (by decide) (m_riP okt (by omega) okc okD hlt hK ht hC hfr)
    have hne : ∀ c : Nat, c < 1000 → T.getD p 0 ≠ c → ¬ ltI T p = nI c := fun c h1 h2 q => h2 ((n_eq (by omega) (by omega)).mp (hlt.symm.trans q))
    have hi : itS T D p = none := it_no (hne _ (by omega) h115) (hne _ (by omega) h118) (hne _ (by omega) h114) (hne _ (by omega) h112)
    have hret : Run m_X7_readItem 3 0 0 354 [some (.ref 51), some (.int (nI (T.getD p 0))), none, none, none] [] w n (Vo (riP T C D p un ke rl w0) n) := by
      refine x_aload_n (pc := 354) dX7_readItem_354 rfl ?_
      refine x_iconst (pc := 355) dX7_readItem_355 (v := nI 0) (by decide) ?_
      refine xw_putz (pc := 356) dX7_readItem_356 kf_X7_97 (by assumption) (by rfl) (by rfl) rfl rfl (by first | exact bN_lt _ | decide | omega) (fun w hnew hne => ?_)
      replace hK := hnew
      replace hC := hC.go fun j q1 q2 => hne j (by omega)
      replace hfr := fun j (hj : j < 51 ∨ j = 52 ∨ 60 < j) => (hne j (by omega)).trans (hfr j hj)
      clear hne
      refine x_vret (pc := 359) dX7_readItem_359 rfl ?_
      exact vo_i (riP_no hi hK hC hfr)
    by_cases hlo : (nI (T.getD p 0)).toInt < 112 ∨ 118 < (nI (T.getD p 0)).toInt
    · exact x_tableOut (pc := 21) dX7_readItem_21 (tgt := 354) hlo (by decide) hret
    · have hv : (nI (T.getD p 0)).toInt = 113 ∨ (nI (T.getD p 0)).toInt = 116 ∨ (nI (T.getD p 0)).toInt = 117 := by omega
      rcases hv with hv | hv | hv
      · exact x_tableIn (pc := 21) dX7_readItem_21 (tgt := 354) (off := 333) (by omega) (by omega) (by rw [hv]; rfl) (by decide) hret
      · exact x_tableIn (pc := 21) dX7_readItem_21 (tgt := 354) (off := 333) (by omega) (by omega) (by rw [hv]; rfl) (by decide) hret
      · exact x_tableIn (pc := 21) dX7_readItem_21 (tgt := 354) (off := 333) (by omega) (by omega) (by rw [hv]; rfl) (by decide) hret
  refine x_aload_n (pc := 0) dX7_readItem_0 rfl ?_
  refine x_cv0p (ci := 7) (pc := 1) dX7_readItem_1 ks_X7_93 (by first | assumption | exact hC.1 | exact hH.1 | exact hV0.1 | exact hT.1) (by rfl) (by omega) (by rfl) (by rfl) (by rfl) (m_here okt (by omega) hK ht) ?_
  rw [show hrI T p = nI (T.getD p 0) from if_pos hp]
  refine x_istore_n (pc := 4) dX7_readItem_4 rfl ?_
  refine x_aload_n (pc := 5) dX7_readItem_5 rfl ?_
  refine x_dup (pc := 6) dX7_readItem_6 rfl ?_
  refine x_getf (pc := 7) dX7_readItem_7 kf_X7_90 (by first | assumption | exact hC.1 | exact hH.1 | exact hV0.1 | exact hT.1) (by rfl) ?_
  refine x_iconst (pc := 10) dX7_readItem_10 (v := nI 1) (by decide) ?_
  first | refine xn_iadd (pc := 11) dX7_readItem_11 ?_ | refine x_iadd (pc := 11) dX7_readItem_11 ?_
  refine xw_puti (pc := 12) dX7_readItem_12 kf_X7_90 (by assumption) (by rfl) (by rfl) rfl rfl (fun w hnew hne => ?_)
  replace hK := hnew
  replace ht := ht.go fun j q1 q2 => hne j (by omega)
  replace hC := hC.go fun j q1 q2 => hne j (by omega)
  replace hfr := fun j (hj : j < 51 ∨ j = 52 ∨ 60 < j) => (hne j (by omega)).trans (hfr j hj)
  clear hne
  refine x_aload_n (pc := 15) dX7_readItem_15 rfl ?_
  refine x_iconst (pc := 16) dX7_readItem_16 (v := nI 1) (by decide) ?_
  refine xw_putz (pc := 17) dX7_readItem_17 kf_X7_97 (by assumption) (by rfl) (by rfl) rfl rfl (by first | exact bN_lt _ | decide | omega) (fun w hnew hne => ?_)
  replace hK := hnew
  replace ht := ht.go fun j q1 q2 => hne j (by omega)
  replace hC := hC.go fun j q1 q2 => hne j (by omega)
  replace hfr := fun j (hj : j < 51 ∨ j = 52 ∨ 60 < j) => (hne j (by omega)).trans (hfr j hj)
  clear hne
  refine x_iload_n (pc := 20) dX7_readItem_20 rfl ?_
  exact main _ hK ht hC hfr
theorem it_ok {T : List Nat} {D D' : Crt} (okD : okC D) {p e : Nat} (h : itS T D p = some (D', e)) : okC D' ∧ p < e ∧ e ≤ p + 10 := by
  unfold itS at h
  cases hr : rdF T 3 (p + 1) with
  | none => rw [hr] at h; cases h
  | some q =>
    obtain ⟨l, e2⟩ := q
    rw [hr] at h
    simp only at h
    cases ht : tlS D (ltI T p) l with
    | none => rw [ht] at h; cases h
    | some D2 =>
      rw [ht] at h
      cases h
      have h2 := rdF_lt hr
      exact ⟨okC_tlS okD ht, by omega, by omega⟩
theorem m_fault0 {w0 : ax_W} {n : Nat} {T : List Nat} (okt : okT T) {at_ un ke rl : Int32} {so : Nat} (hso : so < 2) {C D : Crt} (okc : okC C) (hK : w0 51 = om (nI T.length) at_ (nI so) un ke rl) (ht : mT w0 T) (hC : mC w0 C D) : Run m_X7_fault 4 0 0 0 (l_ent m_X7_fault [.ref 51]) [] w0 n (Va (fun v w' => v = .int (rsI (raS T).1) ∧ (∃ a s : Nat, s < 2 ∧ w' 51 = om (nI T.length) (nI a) (nI s) un ke rl) ∧ mC w' C (raS T).2 ∧ ∀ j, (j < 51 ∨ j = 52 ∨ 60 < j) → w' j = w0 j) n) := by
  have hl := okt.1
  have loop : ∀ m p D (w : ax_W) so z1, T.length ≤ p + m → p < 1000 → so < 2 → okC D → w 51 = om (nI T.length) (nI p) (nI so) un ke rl → mT w T → mC w C D → (∀ j, (j < 51 ∨ j = 52 ∨ 60 < j) → w j = w0 j) →
      Run m_X7_fault 4 0 0 26 [some (.ref 51), z1] [] w n (Va (fun v w' => v = .int (rsI (raF T m D p).1) ∧ (∃ a s : Nat, s < 2 ∧ w' 51 = om (nI T.length) (nI a) (nI s) un ke rl) ∧ mC w' C (raF T m D p).2 ∧ ∀ j, (j < 51 ∨ j = 52 ∨ 60 < j) → w' j = w0 j) n) := by
    intro m
    induction m with
    | zero =>
      intro p D w so z1 hm hp hso okD hK ht hC hfr
      refine x_aload_n (pc := 26) dX7_fault_26 rfl ?_
      refine x_getf (pc := 27) dX7_fault_27 kf_X7_90 (by first | assumption | exact hC.1 | exact hH.1 | exact hV0.1 | exact hT.1) (by rfl) ?_
      refine x_aload_n (pc := 30) dX7_fault_30 rfl ?_
      refine x_getf (pc := 31) dX7_fault_31 kf_X7_86 (by first | assumption | exact hC.1 | exact hH.1 | exact hV0.1 | exact hT.1) (by rfl) ?_
      refine x_icmp_ge_t (pc := 34) dX7_fault_34 (tgt := 58) (by decide) (nI_le (by omega) (by omega)) ?_
      refine x_bipush (pc := 58) dX7_fault_58 (v := -4) (by decide) ?_
      refine x_iret (pc := 60) dX7_fault_60 rfl rfl ?_
      exact va_i ⟨rfl, ⟨_, _, hso, hK⟩, hC, hfr⟩
    | succ m ih =>
      intro p D w so z1 hm hp hso okD hK ht hC hfr
      have hra := raF_it T m D p
      refine x_aload_n (pc := 26) dX7_fault_26 rfl ?_
      refine x_getf (pc := 27) dX7_fault_27 kf_X7_90 (by first | assumption | exact hC.1 | exact hH.1 | exact hV0.1 | exact hT.1) (by rfl) ?_
      refine x_aload_n (pc := 30) dX7_fault_30 rfl ?_
      refine x_getf (pc := 31) dX7_fault_31 kf_X7_86 (by first | assumption | exact hC.1 | exact hH.1 | exact hV0.1 | exact hT.1) (by rfl) ?_
      refine x_icmp_ge (pc := 34) dX7_fault_34 (tgt := 58) (by decide) (fun h_34 => ?_) (fun h_34 => ?_)
      · skip
        try first | rw [n_b1] at h_34 | rw [n_b00] at h_34 | rw [n_le (by omega) (by omega)] at h_34
        rw [if_neg (by omega)] at hra
        refine x_bipush (pc := 58) dX7_fault_58 (v := -4) (by decide) ?_
        refine x_iret (pc := 60) dX7_fault_60 rfl rfl ?_
        exact va_i ⟨by rw [hra]; rfl, ⟨_, _, hso, hK⟩, by rw [hra]; exact hC, hfr⟩
      · skip
        try first | rw [n_b1] at h_34 | rw [n_b00] at h_34 | rw [n_le (by omega) (by omega)] at h_34
        rw [if_pos (by omega)] at hra
        refine x_aload_n (pc := 37) dX7_fault_37 rfl ?_
        refine x_getf (pc := 38) dX7_fault_38 kf_X7_90 (by first | assumption | exact hC.1 | exact hH.1 | exact hV0.1 | exact hT.1) (by rfl) ?_
        refine x_istore_n (pc := 41) dX7_fault_41 rfl ?_
        refine x_aload_n (pc := 42) dX7_fault_42 rfl ?_
        refine x_cv0 (q1 := 0) (q2 := 0) (ci := 7) (pc := 43) dX7_fault_43 ks_X7_109 (by first | assumption | exact hC.1 | exact hH.1 | exact hV0.1 | exact hT.1) (by rfl) (by omega) (by rfl) (by rfl) (by rfl) (m_readItem okt (by omega) okc okD hK ht hC) (vo_kk fun w hP => ?_)
        obtain ⟨a, ha, hK', hC', hq⟩ := hP
        replace ht := ht.go fun j _ _ => hq j (by omega)
        replace hfr := fun j (hj : j < 51 ∨ j = 52 ∨ 60 < j) => (hq j (by omega)).trans (hfr j hj)
        refine x_aload_n (pc := 46) dX7_fault_46 rfl ?_
        refine x_getf (pc := 47) dX7_fault_47 kf_X7_97 (by first | assumption | exact hC.1 | exact hH.1 | exact hV0.1 | exact hT.1) (by rfl) ?_
        refine x_if_ne (pc := 50) dX7_fault_50 (tgt := 55) (by decide) (fun h_50 => ?_) (fun h_50 => ?_)
        · skip
          try first | rw [n_b0] at h_50 | rw [n_eq0 (by omega)] at h_50
          cases hi : itS T D p with
          | none => rw [hi] at h_50; exact absurd rfl h_50
          | some q =>
            obtain ⟨D', e⟩ := q
            rw [hi] at hra hK' hC' ha
            have he := ha _ rfl
            simp only at he
            subst he
            rw [hra]
            have hio := it_ok okD hi
            refine x_goto (pc := 55) dX7_fault_55 (tgt := 26) (by decide) ?_
            exact ih _ _ _ 1 _ (by omega) (by omega) (by omega) hio.1 hK' ht hC' hfr
        · replace h_50 := Classical.not_not.mp h_50
          try first | rw [n_b0] at h_50 | rw [n_eq0 (by omega)] at h_50
          have hi : itS T D p = none := by cases hi : itS T D p with
            | none => rfl
            | some q => rw [hi] at h_50; cases h_50
          rw [hi] at hra hC' hK'
          refine x_iload_n (pc := 53) dX7_fault_53 rfl ?_
          refine x_iret (pc := 54) dX7_fault_54 rfl rfl ?_
          exact va_i ⟨by rw [hra]; rfl, ⟨_, 0, by omega, hK'⟩, by rw [hra]; exact hC', hfr⟩
  obtain ⟨fm, fk, fc, fs, fh, fv, fp, fd, h53, h54, h55, h56, h57, h58, h59, h60, ⟨e1, e2, e3, e4, e5⟩, ⟨d1, d2, d3, d4, d5⟩⟩ := id hC
  have hfr : ∀ j, (j < 51 ∨ j = 52 ∨ 60 < j) → w0 j = w0 j := fun _ _ => rfl
  refine x_aload_n (pc := 0) dX7_fault_0 rfl ?_
  refine x_iconst (pc := 1) dX7_fault_1 (v := nI 0) (by decide) ?_
  refine xw_puti (pc := 2) dX7_fault_2 kf_X7_90 (by assumption) (by rfl) (by rfl) rfl rfl (fun w hnew hne => ?_)
  replace hK := hnew
  replace h53 := (hne _ (by omega)).trans h53
  replace h54 := (hne _ (by omega)).trans h54
  replace h55 := (hne _ (by omega)).trans h55
  replace h56 := (hne _ (by omega)).trans h56
  replace h57 := (hne _ (by omega)).trans h57
  replace h58 := (hne _ (by omega)).trans h58
  replace h59 := (hne _ (by omega)).trans h59
  replace h60 := (hne _ (by omega)).trans h60
  replace ht := ht.go fun j q1 q2 => hne j (by omega)
  replace hfr := fun j (hj : j < 51 ∨ j = 52 ∨ 60 < j) => (hne j (by omega)).trans (hfr j hj)
  clear hne
  refine x_aload_n (pc := 5) dX7_fault_5 rfl ?_
  refine x_getf (pc := 6) dX7_fault_6 kf_X7_13 (by first | assumption | exact hC.1 | exact hH.1 | exact hV0.1 | exact hT.1) (by rfl) ?_
  refine x_iconst (pc := 9) dX7_fault_9 (v := nI 1) (by decide) ?_
  refine x_iconst (pc := 10) dX7_fault_10 (v := nI 0) (by decide) ?_
  refine xw_iast (pc := 11) dX7_fault_11 (by assumption) (by first | omega | assumption) (by rfl) (fun w hnew hne => ?_)
  replace hK := (hne _ (by omega)).trans hK
  replace h53 := hnew
  replace h54 := (hne _ (by omega)).trans h54
  replace h55 := (hne _ (by omega)).trans h55
  replace h56 := (hne _ (by omega)).trans h56
  replace h57 := (hne _ (by omega)).trans h57
  replace h58 := (hne _ (by omega)).trans h58
  replace h59 := (hne _ (by omega)).trans h59
  replace h60 := (hne _ (by omega)).trans h60
  replace ht := ht.go fun j q1 q2 => hne j (by omega)
  replace hfr := fun j (hj : j < 51 ∨ j = 52 ∨ 60 < j) => (hne j (by omega)).trans (hfr j hj)
  clear hne
  refine x_aload_n (pc := 12) dX7_fault_12 rfl ?_
  refine x_getf (pc := 13) dX7_fault_13 kf_X7_29 (by first | assumption | exact hC.1 | exact hH.1 | exact hV0.1 | exact hT.1) (by rfl) ?_
  refine x_iconst (pc := 16) dX7_fault_16 (v := nI 1) (by decide) ?_
  refine x_iconst (pc := 17) dX7_fault_17 (v := nI 0) (by decide) ?_
  refine xw_iast (pc := 18) dX7_fault_18 (by assumption) (by first | omega | assumption) (by rfl) (fun w hnew hne => ?_)
  replace hK := (hne _ (by omega)).trans hK
  replace h53 := (hne _ (by omega)).trans h53
  replace h54 := (hne _ (by omega)).trans h54
  replace h55 := (hne _ (by omega)).trans h55
  replace h56 := (hne _ (by omega)).trans h56
  replace h57 := (hne _ (by omega)).trans h57
  replace h58 := hnew
  replace h59 := (hne _ (by omega)).trans h59
  replace h60 := (hne _ (by omega)).trans h60
  replace ht := ht.go fun j q1 q2 => hne j (by omega)
  replace hfr := fun j (hj : j < 51 ∨ j = 52 ∨ 60 < j) => (hne j (by omega)).trans (hfr j hj)
  clear hne
  refine x_aload_n (pc := 19) dX7_fault_19 rfl ?_
  refine x_getf (pc := 20) dX7_fault_20 kf_X7_32 (by first | assumption | exact hC.1 | exact hH.1 | exact hV0.1 | exact hT.1) (by rfl) ?_
  refine x_iconst (pc := 23) dX7_fault_23 (v := nI 1) (by decide) ?_
  refine x_iconst (pc := 24) dX7_fault_24 (v := nI 0) (by decide) ?_
  refine xw_iast (pc := 25) dX7_fault_25 (by assumption) (by first | omega | assumption) (by rfl) (fun w hnew hne => ?_)
  replace hK := (hne _ (by omega)).trans hK
  replace h53 := (hne _ (by omega)).trans h53
  replace h54 := (hne _ (by omega)).trans h54
  replace h55 := (hne _ (by omega)).trans h55
  replace h56 := (hne _ (by omega)).trans h56
  replace h57 := (hne _ (by omega)).trans h57
  replace h58 := (hne _ (by omega)).trans h58
  replace h59 := hnew
  replace h60 := (hne _ (by omega)).trans h60
  replace ht := ht.go fun j q1 q2 => hne j (by omega)
  replace hfr := fun j (hj : j < 51 ∨ j = 52 ∨ 60 < j) => (hne j (by omega)).trans (hfr j hj)
  clear hne
  refine loop 200 0 noC _ so _ (by omega) (by omega) hso okC_no hK ht ⟨_, fk, fc, fs, fh, _, _, fd, h53, h54, h55, h56, h57, h58, h59, h60, ⟨?_, ?_, ?_, e4, e5⟩, ⟨?_, ?_, ?_, fun a ha => absurd ha (Nat.not_lt_zero a), fun a ha => absurd ha (Nat.not_lt_zero a)⟩⟩ hfr
  · rw [upd_ne _ _ (by decide)]; exact e1
  · rw [upd_ne _ _ (by decide)]; exact e2
  · rw [upd_ne _ _ (by decide)]; exact e3
  · rw [upd_same]; rfl
  · rw [upd_same]; rfl
  · rw [upd_same]; rfl
def cpF (f : Nat → Int32) (N k : Nat) : Nat → Int32 := fun i => if i < k then f (N + i) else f i
theorem cpF_0 (f : Nat → Int32) (N : Nat) : cpF f N 0 = f := rfl
theorem cpF_up {f : Nat → Int32} {N k : Nat} (h : k < N) : upd (cpF f N k) k (cpF f N k (N + k)) = cpF f N (k + 1) := by
  funext i
  by_cases q : i = k
  · subst q; rw [upd_same]; unfold cpF; rw [if_neg (by omega), if_pos (by omega)]
  · rw [upd_ne _ _ q]; unfold cpF
    by_cases h2 : i < k
    · rw [if_pos h2, if_pos (by omega)]
    · rw [if_neg h2, if_neg (by omega)]
theorem cpF_lo {f : Nat → Int32} {N k i : Nat} (h : i < k) : cpF f N k i = f (N + i) := if_pos h
theorem cpF_hi {f : Nat → Int32} {N k i : Nat} (h : k ≤ i) : cpF f N k i = f i := if_neg (by omega)
def zrF (f : Nat → Int32) (k : Nat) : Nat → Int32 := fun i => if i < k then nI 0 else f i
theorem zrF_up {f : Nat → Int32} {k : Nat} : upd (zrF f k) k (nI 0) = zrF f (k + 1) := by
  funext i
  by_cases q : i = k
  · subst q; rw [upd_same]; unfold zrF; rw [if_pos (by omega)]
  · rw [upd_ne _ _ q]; unfold zrF
    by_cases h2 : i < k
    · rw [if_pos h2, if_pos (by omega)]
    · rw [if_neg h2, if_neg (by omega)]
theorem m_takeDraft {w0 : ax_W} {n : Nat} {ty at_ so un ke rl : Int32} {C D : Crt} (okD : okC D) {f : Nat → Int32} (hK : w0 51 = om ty at_ so un ke rl) (hC : mC w0 C D) (hN : w0 61 = ai 132 f) : Run m_X7_takeDraft 0 0 0 0 (l_ent m_X7_takeDraft [.ref 51]) [] w0 n (Vo (fun w' => w' 51 = om ty at_ so (nI 0) (nI 0) rl ∧ mC w' D D ∧ mN w' noH [] [] ∧ ∀ j, (j < 51 ∨ j = 52 ∨ 61 < j) → w' j = w0 j) n) := by
  have hn := okD.1
  have hp := okD.2.1
  have t3 : ∀ m k (w : ax_W), k + m = 12 → w 51 = om ty at_ so un ke rl → mC w D D → w 61 = ai 132 (zrF f k) → (∀ j, (j < 51 ∨ j = 52 ∨ 61 < j) → w j = w0 j) → Run m_X7_takeDraft 0 0 0 139 [some (.ref 51), some (.int (nI k))] [] w n (Vo (fun w' => w' 51 = om ty at_ so (nI 0) (nI 0) rl ∧ mC w' D D ∧ mN w' noH [] [] ∧ ∀ j, (j < 51 ∨ j = 52 ∨ 61 < j) → w' j = w0 j) n) := by
    intro m
    induction m with
    | zero =>
      intro k w hk hK hC hN hfr
      have hkk : k = 12 := by omega
      subst hkk
      refine x_iload_n (pc := 139) dX7_takeDraft_139 rfl ?_
      refine x_bipush (pc := 140) dX7_takeDraft_140 (v := nI 12) (by decide) ?_
      refine x_icmp_ge_t (pc := 142) dX7_takeDraft_142 (tgt := 158) (by decide) (nI_le (by omega) (by omega)) ?_
      refine x_aload_n (pc := 158) dX7_takeDraft_158 rfl ?_
      refine x_iconst (pc := 159) dX7_takeDraft_159 (v := nI 0) (by decide) ?_
      refine xw_puti (pc := 160) dX7_takeDraft_160 kf_X7_112 (by assumption) (by rfl) (by rfl) rfl rfl (fun w hnew hne => ?_)
      replace hK := hnew
      replace hN := (hne _ (by omega)).trans hN
      replace hC := hC.go fun j q1 q2 => hne j (by omega)
      replace hfr := fun j (hj : j < 51 ∨ j = 52 ∨ 61 < j) => (hne j (by omega)).trans (hfr j hj)
      clear hne
      refine x_aload_n (pc := 163) dX7_takeDraft_163 rfl ?_
      refine x_iconst (pc := 164) dX7_takeDraft_164 (v := nI 0) (by decide) ?_
      refine xw_puti (pc := 165) dX7_takeDraft_165 kf_X7_115 (by assumption) (by rfl) (by rfl) rfl rfl (fun w hnew hne => ?_)
      replace hK := hnew
      replace hN := (hne _ (by omega)).trans hN
      replace hC := hC.go fun j q1 q2 => hne j (by omega)
      replace hfr := fun j (hj : j < 51 ∨ j = 52 ∨ 61 < j) => (hne j (by omega)).trans (hfr j hj)
      clear hne
      refine x_vret (pc := 168) dX7_takeDraft_168 rfl ?_
      exact vo_i ⟨hK, hC, ⟨_, hN, ⟨rfl, rfl, fun i hi => absurd hi (Nat.not_lt_zero i)⟩, fun u hu => absurd hu (Nat.not_lt_zero u), fun u hu => absurd hu (Nat.not_lt_zero u)⟩, hfr⟩
    | succ m ih =>
      intro k w hk hK hC hN hfr
      refine x_iload_n (pc := 139) dX7_takeDraft_139 rfl ?_
      refine x_bipush (pc := 140) dX7_takeDraft_140 (v := nI 12) (by decide) ?_
      refine x_icmp_ge_f (pc := 142) dX7_takeDraft_142 (tgt := 158) (by decide) (nI_ge (by omega) (by omega)) ?_
      refine x_aload_n (pc := 145) dX7_takeDraft_145 rfl ?_
      refine x_getf (pc := 146) dX7_takeDraft_146 kf_X7_38 (by first | assumption | exact hC.1 | exact hH.1 | exact hV0.1 | exact hT.1) (by rfl) ?_
      refine x_iload_n (pc := 149) dX7_takeDraft_149 rfl ?_
      refine x_iconst (pc := 150) dX7_takeDraft_150 (v := nI 0) (by decide) ?_
      refine xw_iast (pc := 151) dX7_takeDraft_151 (by assumption) (by first | omega | assumption) (by rfl) (fun w hnew hne => ?_)
      replace hK := (hne _ (by omega)).trans hK
      replace hN := hnew
      replace hC := hC.go fun j q1 q2 => hne j (by omega)
      replace hfr := fun j (hj : j < 51 ∨ j = 52 ∨ 61 < j) => (hne j (by omega)).trans (hfr j hj)
      clear hne
      refine xn_iinc (pc := 152) dX7_takeDraft_152 rfl rfl ?_
      refine x_goto (pc := 155) dX7_takeDraft_155 (tgt := 139) (by decide) ?_
      exact ih (k + 1) w (by omega) hK hC (by rw [← zrF_up]; exact hN) hfr
  obtain ⟨fm, fk, fc, fs, fh, fv, fp, fd, h53, h54, h55, h56, h57, h58, h59, h60, ⟨e1, e2, e3, e4, e5⟩, ⟨d1, d2, d3, d4, d5⟩⟩ := id hC
  have t2 : ∀ m k (w : ax_W) (gm gv gp : Nat → Int32), k + m = 5 → gm 0 = nI (cn D) → gm 1 = nI (cn D) → gv 0 = nI (vd D) → gv 1 = nI (vd D) → gp 0 = nI (np D) → gp 1 = nI (np D) → w 51 = om ty at_ so un ke rl → w 53 = ai 2 gm → w 54 = ai 20 (cpF fk 10 10) → w 55 = ai 20 (cpF fc 10 10) → w 56 = ai 20 (cpF fs 10 10) → w 57 = ai 20 (cpF fh 10 10) → w 58 = ai 2 gv → w 59 = ai 2 gp → w 60 = ai 10 (cpF fd 5 k) → w 61 = ai 132 f → (∀ j, (j < 51 ∨ j = 52 ∨ 61 < j) → w j = w0 j) → Run m_X7_takeDraft 0 0 0 112 [some (.ref 51), some (.int (nI k))] [] w n (Vo (fun w' => w' 51 = om ty at_ so (nI 0) (nI 0) rl ∧ mC w' D D ∧ mN w' noH [] [] ∧ ∀ j, (j < 51 ∨ j = 52 ∨ 61 < j) → w' j = w0 j) n) := by
    intro m
    induction m with
    | zero =>
      intro k w gm gv gp hk a1 a2 a3 a4 a5 a6 hK h53 h54 h55 h56 h57 h58 h59 h60 hN hfr
      have hkk : k = 5 := by omega
      subst hkk
      refine x_iload_n (pc := 112) dX7_takeDraft_112 rfl ?_
      refine x_iconst (pc := 113) dX7_takeDraft_113 (v := nI 5) (by decide) ?_
      refine x_icmp_ge_t (pc := 114) dX7_takeDraft_114 (tgt := 137) (by decide) (nI_le (by omega) (by omega)) ?_
      refine x_iconst (pc := 137) dX7_takeDraft_137 (v := nI 0) (by decide) ?_
      refine x_istore_n (pc := 138) dX7_takeDraft_138 rfl ?_
      refine t3 12 0 w (by omega) hK ⟨gm, _, _, _, _, gv, gp, _, h53, h54, h55, h56, h57, h58, h59, h60, ⟨a1, a3, a5, fun a ha => ?_, fun p hp => ?_⟩, ⟨a2, a4, a6, fun a ha => ?_, fun p hp => ?_⟩⟩ hN hfr
      · rw [cpF_lo (by omega), cpF_lo (by omega), cpF_lo (by omega), cpF_lo (by omega), show 10 + (10 * 0 + a) = 10 * 1 + a by omega]; exact d4 a ha
      · rw [cpF_lo (by omega), show 5 + (5 * 0 + p) = 5 * 1 + p by omega]; exact d5 p hp
      · rw [cpF_hi (by omega), cpF_hi (by omega), cpF_hi (by omega), cpF_hi (by omega)]; exact d4 a ha
      · rw [cpF_hi (by omega)]; exact d5 p hp
    | succ m ih =>
      intro k w gm gv gp hk a1 a2 a3 a4 a5 a6 hK h53 h54 h55 h56 h57 h58 h59 h60 hN hfr
      refine x_iload_n (pc := 112) dX7_takeDraft_112 rfl ?_
      refine x_iconst (pc := 113) dX7_takeDraft_113 (v := nI 5) (by decide) ?_
      refine x_icmp_ge_f (pc := 114) dX7_takeDraft_114 (tgt := 137) (by decide) (nI_ge (by omega) (by omega)) ?_
      refine x_aload_n (pc := 117) dX7_takeDraft_117 rfl ?_
      refine x_getf (pc := 118) dX7_takeDraft_118 kf_X7_35 (by first | assumption | exact hC.1 | exact hH.1 | exact hV0.1 | exact hT.1) (by rfl) ?_
      refine x_iload_n (pc := 121) dX7_takeDraft_121 rfl ?_
      refine x_aload_n (pc := 122) dX7_takeDraft_122 rfl ?_
      refine x_getf (pc := 123) dX7_takeDraft_123 kf_X7_35 (by first | assumption | exact hC.1 | exact hH.1 | exact hV0.1 | exact hT.1) (by rfl) ?_
      refine x_iconst (pc := 126) dX7_takeDraft_126 (v := nI 5) (by decide) ?_
      refine x_iload_n (pc := 127) dX7_takeDraft_127 rfl ?_
      first | refine xn_iadd (pc := 128) dX7_takeDraft_128 ?_ | refine x_iadd (pc := 128) dX7_takeDraft_128 ?_
      refine xn_iald (pc := 129) dX7_takeDraft_129 (by assumption) (by first | omega | assumption) (by rfl) ?_
      refine xw_iast (pc := 130) dX7_takeDraft_130 (by assumption) (by first | omega | assumption) (by rfl) (fun w hnew hne => ?_)
      replace hK := (hne _ (by omega)).trans hK
      replace h53 := (hne _ (by omega)).trans h53
      replace h54 := (hne _ (by omega)).trans h54
      replace h55 := (hne _ (by omega)).trans h55
      replace h56 := (hne _ (by omega)).trans h56
      replace h57 := (hne _ (by omega)).trans h57
      replace h58 := (hne _ (by omega)).trans h58
      replace h59 := (hne _ (by omega)).trans h59
      replace h60 := hnew
      replace hN := (hne _ (by omega)).trans hN
      replace hfr := fun j (hj : j < 51 ∨ j = 52 ∨ 61 < j) => (hne j (by omega)).trans (hfr j hj)
      clear hne
      refine xn_iinc (pc := 131) dX7_takeDraft_131 rfl rfl ?_
      refine x_goto (pc := 134) dX7_takeDraft_134 (tgt := 112) (by decide) ?_
      exact ih (k + 1) w gm gv gp (by omega) a1 a2 a3 a4 a5 a6 hK h53 h54 h55 h56 h57 h58 h59 (by rw [← cpF_up (by omega)]; exact h60) hN hfr
  have t1 : ∀ m k (w : ax_W) (gm gv gp : Nat → Int32), k + m = 10 → gm 0 = nI (cn D) → gm 1 = nI (cn D) → gv 0 = nI (vd D) → gv 1 = nI (vd D) → gp 0 = nI (np D) → gp 1 = nI (np D) → w 51 = om ty at_ so un ke rl → w 53 = ai 2 gm → w 54 = ai 20 (cpF fk 10 k) → w 55 = ai 20 (cpF fc 10 k) → w 56 = ai 20 (cpF fs 10 k) → w 57 = ai 20 (cpF fh 10 k) → w 58 = ai 2 gv → w 59 = ai 2 gp → w 60 = ai 10 fd → w 61 = ai 132 f → (∀ j, (j < 51 ∨ j = 52 ∨ 61 < j) → w j = w0 j) → Run m_X7_takeDraft 0 0 0 38 [some (.ref 51), some (.int (nI k))] [] w n (Vo (fun w' => w' 51 = om ty at_ so (nI 0) (nI 0) rl ∧ mC w' D D ∧ mN w' noH [] [] ∧ ∀ j, (j < 51 ∨ j = 52 ∨ 61 < j) → w' j = w0 j) n) := by
    intro m
    induction m with
    | zero =>
      intro k w gm gv gp hk a1 a2 a3 a4 a5 a6 hK h53 h54 h55 h56 h57 h58 h59 h60 hN hfr
      have hkk : k = 10 := by omega
      subst hkk
      refine x_iload_n (pc := 38) dX7_takeDraft_38 rfl ?_
      refine x_bipush (pc := 39) dX7_takeDraft_39 (v := nI 10) (by decide) ?_
      refine x_icmp_ge_t (pc := 41) dX7_takeDraft_41 (tgt := 110) (by decide) (nI_le (by omega) (by omega)) ?_
      refine x_iconst (pc := 110) dX7_takeDraft_110 (v := nI 0) (by decide) ?_
      refine x_istore_n (pc := 111) dX7_takeDraft_111 rfl ?_
      exact t2 5 0 w gm gv gp (by omega) a1 a2 a3 a4 a5 a6 hK h53 h54 h55 h56 h57 h58 h59 h60 hN hfr
    | succ m ih =>
      intro k w gm gv gp hk a1 a2 a3 a4 a5 a6 hK h53 h54 h55 h56 h57 h58 h59 h60 hN hfr
      refine x_iload_n (pc := 38) dX7_takeDraft_38 rfl ?_
      refine x_bipush (pc := 39) dX7_takeDraft_39 (v := nI 10) (by decide) ?_
      refine x_icmp_ge_f (pc := 41) dX7_takeDraft_41 (tgt := 110) (by decide) (nI_ge (by omega) (by omega)) ?_
      refine x_aload_n (pc := 44) dX7_takeDraft_44 rfl ?_
      refine x_getf (pc := 45) dX7_takeDraft_45 kf_X7_17 (by first | assumption | exact hC.1 | exact hH.1 | exact hV0.1 | exact hT.1) (by rfl) ?_
      refine x_iload_n (pc := 48) dX7_takeDraft_48 rfl ?_
      refine x_aload_n (pc := 49) dX7_takeDraft_49 rfl ?_
      refine x_getf (pc := 50) dX7_takeDraft_50 kf_X7_17 (by first | assumption | exact hC.1 | exact hH.1 | exact hV0.1 | exact hT.1) (by rfl) ?_
      refine x_bipush (pc := 53) dX7_takeDraft_53 (v := nI 10) (by decide) ?_
      refine x_iload_n (pc := 55) dX7_takeDraft_55 rfl ?_
      first | refine xn_iadd (pc := 56) dX7_takeDraft_56 ?_ | refine x_iadd (pc := 56) dX7_takeDraft_56 ?_
      refine xn_iald (pc := 57) dX7_takeDraft_57 (by assumption) (by first | omega | assumption) (by rfl) ?_
      refine xw_iast (pc := 58) dX7_takeDraft_58 (by assumption) (by first | omega | assumption) (by rfl) (fun w hnew hne => ?_)
      replace hK := (hne _ (by omega)).trans hK
      replace h53 := (hne _ (by omega)).trans h53
      replace h54 := hnew
      replace h55 := (hne _ (by omega)).trans h55
      replace h56 := (hne _ (by omega)).trans h56
      replace h57 := (hne _ (by omega)).trans h57
      replace h58 := (hne _ (by omega)).trans h58
      replace h59 := (hne _ (by omega)).trans h59
      replace h60 := (hne _ (by omega)).trans h60
      replace hN := (hne _ (by omega)).trans hN
      replace hfr := fun j (hj : j < 51 ∨ j = 52 ∨ 61 < j) => (hne j (by omega)).trans (hfr j hj)
      clear hne
      refine x_aload_n (pc := 59) dX7_takeDraft_59 rfl ?_
      refine x_getf (pc := 60) dX7_takeDraft_60 kf_X7_20 (by first | assumption | exact hC.1 | exact hH.1 | exact hV0.1 | exact hT.1) (by rfl) ?_
      refine x_iload_n (pc := 63) dX7_takeDraft_63 rfl ?_
      refine x_aload_n (pc := 64) dX7_takeDraft_64 rfl ?_
      refine x_getf (pc := 65) dX7_takeDraft_65 kf_X7_20 (by first | assumption | exact hC.1 | exact hH.1 | exact hV0.1 | exact hT.1) (by rfl) ?_
      refine x_bipush (pc := 68) dX7_takeDraft_68 (v := nI 10) (by decide) ?_
      refine x_iload_n (pc := 70) dX7_takeDraft_70 rfl ?_
      first | refine xn_iadd (pc := 71) dX7_takeDraft_71 ?_ | refine x_iadd (pc := 71) dX7_takeDraft_71 ?_
      refine xn_iald (pc := 72) dX7_takeDraft_72 (by assumption) (by first | omega | assumption) (by rfl) ?_
      refine xw_iast (pc := 73) dX7_takeDraft_73 (by assumption) (by first | omega | assumption) (by rfl) (fun w hnew hne => ?_)
      replace hK := (hne _ (by omega)).trans hK
      replace h53 := (hne _ (by omega)).trans h53
      replace h54 := (hne _ (by omega)).trans h54
      replace h55 := hnew
      replace h56 := (hne _ (by omega)).trans h56
      replace h57 := (hne _ (by omega)).trans h57
      replace h58 := (hne _ (by omega)).trans h58
      replace h59 := (hne _ (by omega)).trans h59
      replace h60 := (hne _ (by omega)).trans h60
      replace hN := (hne _ (by omega)).trans hN
      replace hfr := fun j (hj : j < 51 ∨ j = 52 ∨ 61 < j) => (hne j (by omega)).trans (hfr j hj)
      clear hne
      refine x_aload_n (pc := 74) dX7_takeDraft_74 rfl ?_
      refine x_getf (pc := 75) dX7_takeDraft_75 kf_X7_23 (by first | assumption | exact hC.1 | exact hH.1 | exact hV0.1 | exact hT.1) (by rfl) ?_
      refine x_iload_n (pc := 78) dX7_takeDraft_78 rfl ?_
      refine x_aload_n (pc := 79) dX7_takeDraft_79 rfl ?_
      refine x_getf (pc := 80) dX7_takeDraft_80 kf_X7_23 (by first | assumption | exact hC.1 | exact hH.1 | exact hV0.1 | exact hT.1) (by rfl) ?_
      refine x_bipush (pc := 83) dX7_takeDraft_83 (v := nI 10) (by decide) ?_
      refine x_iload_n (pc := 85) dX7_takeDraft_85 rfl ?_
      first | refine xn_iadd (pc := 86) dX7_takeDraft_86 ?_ | refine x_iadd (pc := 86) dX7_takeDraft_86 ?_
      refine xn_iald (pc := 87) dX7_takeDraft_87 (by assumption) (by first | omega | assumption) (by rfl) ?_
      refine xw_iast (pc := 88) dX7_takeDraft_88 (by assumption) (by first | omega | assumption) (by rfl) (fun w hnew hne => ?_)
      replace hK := (hne _ (by omega)).trans hK
      replace h53 := (hne _ (by omega)).trans h53
      replace h54 := (hne _ (by omega)).trans h54
      replace h55 := (hne _ (by omega)).trans h55
      replace h56 := hnew
      replace h57 := (hne _ (by omega)).trans h57
      replace h58 := (hne _ (by omega)).trans h58
      replace h59 := (hne _ (by omega)).trans h59
      replace h60 := (hne _ (by omega)).trans h60
      replace hN := (hne _ (by omega)).trans hN
      replace hfr := fun j (hj : j < 51 ∨ j = 52 ∨ 61 < j) => (hne j (by omega)).trans (hfr j hj)
      clear hne
      refine x_aload_n (pc := 89) dX7_takeDraft_89 rfl ?_
      refine x_getf (pc := 90) dX7_takeDraft_90 kf_X7_26 (by first | assumption | exact hC.1 | exact hH.1 | exact hV0.1 | exact hT.1) (by rfl) ?_
      refine x_iload_n (pc := 93) dX7_takeDraft_93 rfl ?_
      refine x_aload_n (pc := 94) dX7_takeDraft_94 rfl ?_
      refine x_getf (pc := 95) dX7_takeDraft_95 kf_X7_26 (by first | assumption | exact hC.1 | exact hH.1 | exact hV0.1 | exact hT.1) (by rfl) ?_
      refine x_bipush (pc := 98) dX7_takeDraft_98 (v := nI 10) (by decide) ?_
      refine x_iload_n (pc := 100) dX7_takeDraft_100 rfl ?_
      first | refine xn_iadd (pc := 101) dX7_takeDraft_101 ?_ | refine x_iadd (pc := 101) dX7_takeDraft_101 ?_
      refine xn_iald (pc := 102) dX7_takeDraft_102 (by assumption) (by first | omega | assumption) (by rfl) ?_
      refine xw_iast (pc := 103) dX7_takeDraft_103 (by assumption) (by first | omega | assumption) (by rfl) (fun w hnew hne => ?_)
      replace hK := (hne _ (by omega)).trans hK
      replace h53 := (hne _ (by omega)).trans h53
      replace h54 := (hne _ (by omega)).trans h54
      replace h55 := (hne _ (by omega)).trans h55
      replace h56 := (hne _ (by omega)).trans h56
      replace h57 := hnew
      replace h58 := (hne _ (by omega)).trans h58
      replace h59 := (hne _ (by omega)).trans h59
      replace h60 := (hne _ (by omega)).trans h60
      replace hN := (hne _ (by omega)).trans hN
      replace hfr := fun j (hj : j < 51 ∨ j = 52 ∨ 61 < j) => (hne j (by omega)).trans (hfr j hj)
      clear hne
      refine xn_iinc (pc := 104) dX7_takeDraft_104 rfl rfl ?_
      refine x_goto (pc := 107) dX7_takeDraft_107 (tgt := 38) (by decide) ?_
      exact ih (k + 1) w gm gv gp (by omega) a1 a2 a3 a4 a5 a6 hK h53 (by rw [← cpF_up (by omega)]; exact h54) (by rw [← cpF_up (by omega)]; exact h55) (by rw [← cpF_up (by omega)]; exact h56) (by rw [← cpF_up (by omega)]; exact h57) h58 h59 h60 hN hfr
  have hfr : ∀ j, (j < 51 ∨ j = 52 ∨ 61 < j) → w0 j = w0 j := fun _ _ => rfl
  refine x_aload_n (pc := 0) dX7_takeDraft_0 rfl ?_
  refine x_getf (pc := 1) dX7_takeDraft_1 kf_X7_13 (by first | assumption | exact hC.1 | exact hH.1 | exact hV0.1 | exact hT.1) (by rfl) ?_
  refine x_iconst (pc := 4) dX7_takeDraft_4 (v := nI 0) (by decide) ?_
  refine x_aload_n (pc := 5) dX7_takeDraft_5 rfl ?_
  refine x_getf (pc := 6) dX7_takeDraft_6 kf_X7_13 (by first | assumption | exact hC.1 | exact hH.1 | exact hV0.1 | exact hT.1) (by rfl) ?_
  refine x_iconst (pc := 9) dX7_takeDraft_9 (v := nI 1) (by decide) ?_
  refine xn_iald (pc := 10) dX7_takeDraft_10 (by assumption) (by first | omega | assumption) (by rfl) ?_
  rw [d1]
  refine xw_iast (pc := 11) dX7_takeDraft_11 (by assumption) (by first | omega | assumption) (by rfl) (fun w hnew hne => ?_)
  replace hK := (hne _ (by omega)).trans hK
  replace h53 := hnew
  replace h54 := (hne _ (by omega)).trans h54
  replace h55 := (hne _ (by omega)).trans h55
  replace h56 := (hne _ (by omega)).trans h56
  replace h57 := (hne _ (by omega)).trans h57
  replace h58 := (hne _ (by omega)).trans h58
  replace h59 := (hne _ (by omega)).trans h59
  replace h60 := (hne _ (by omega)).trans h60
  replace hN := (hne _ (by omega)).trans hN
  replace hfr := fun j (hj : j < 51 ∨ j = 52 ∨ 61 < j) => (hne j (by omega)).trans (hfr j hj)
  clear hne
  refine x_aload_n (pc := 12) dX7_takeDraft_12 rfl ?_
  refine x_getf (pc := 13) dX7_takeDraft_13 kf_X7_29 (by first | assumption | exact hC.1 | exact hH.1 | exact hV0.1 | exact hT.1) (by rfl) ?_
  refine x_iconst (pc := 16) dX7_takeDraft_16 (v := nI 0) (by decide) ?_
  refine x_aload_n (pc := 17) dX7_takeDraft_17 rfl ?_
  refine x_getf (pc := 18) dX7_takeDraft_18 kf_X7_29 (by first | assumption | exact hC.1 | exact hH.1 | exact hV0.1 | exact hT.1) (by rfl) ?_
  refine x_iconst (pc := 21) dX7_takeDraft_21 (v := nI 1) (by decide) ?_
  refine xn_iald (pc := 22) dX7_takeDraft_22 (by assumption) (by first | omega | assumption) (by rfl) ?_
  rw [d2]
  refine xw_iast (pc := 23) dX7_takeDraft_23 (by assumption) (by first | omega | assumption) (by rfl) (fun w hnew hne => ?_)
  replace hK := (hne _ (by omega)).trans hK
  replace h53 := (hne _ (by omega)).trans h53
  replace h54 := (hne _ (by omega)).trans h54
  replace h55 := (hne _ (by omega)).trans h55
  replace h56 := (hne _ (by omega)).trans h56
  replace h57 := (hne _ (by omega)).trans h57
  replace h58 := hnew
  replace h59 := (hne _ (by omega)).trans h59
  replace h60 := (hne _ (by omega)).trans h60
  replace hN := (hne _ (by omega)).trans hN
  replace hfr := fun j (hj : j < 51 ∨ j = 52 ∨ 61 < j) => (hne j (by omega)).trans (hfr j hj)
  clear hne
  refine x_aload_n (pc := 24) dX7_takeDraft_24 rfl ?_
  refine x_getf (pc := 25) dX7_takeDraft_25 kf_X7_32 (by first | assumption | exact hC.1 | exact hH.1 | exact hV0.1 | exact hT.1) (by rfl) ?_
  refine x_iconst (pc := 28) dX7_takeDraft_28 (v := nI 0) (by decide) ?_
  refine x_aload_n (pc := 29) dX7_takeDraft_29 rfl ?_
  refine x_getf (pc := 30) dX7_takeDraft_30 kf_X7_32 (by first | assumption | exact hC.1 | exact hH.1 | exact hV0.1 | exact hT.1) (by rfl) ?_
  refine x_iconst (pc := 33) dX7_takeDraft_33 (v := nI 1) (by decide) ?_
  refine xn_iald (pc := 34) dX7_takeDraft_34 (by assumption) (by first | omega | assumption) (by rfl) ?_
  rw [d3]
  refine xw_iast (pc := 35) dX7_takeDraft_35 (by assumption) (by first | omega | assumption) (by rfl) (fun w hnew hne => ?_)
  replace hK := (hne _ (by omega)).trans hK
  replace h53 := (hne _ (by omega)).trans h53
  replace h54 := (hne _ (by omega)).trans h54
  replace h55 := (hne _ (by omega)).trans h55
  replace h56 := (hne _ (by omega)).trans h56
  replace h57 := (hne _ (by omega)).trans h57
  replace h58 := (hne _ (by omega)).trans h58
  replace h59 := hnew
  replace h60 := (hne _ (by omega)).trans h60
  replace hN := (hne _ (by omega)).trans hN
  replace hfr := fun j (hj : j < 51 ∨ j = 52 ∨ 61 < j) => (hne j (by omega)).trans (hfr j hj)
  clear hne
  refine x_iconst (pc := 36) dX7_takeDraft_36 (v := nI 0) (by decide) ?_
  refine x_istore_n (pc := 37) dX7_takeDraft_37 rfl ?_
  exact t1 10 0 w _ _ _ (by omega) (upd_same _ _ _) (by rw [upd_ne _ _ (by decide)]; exact d1) (upd_same _ _ _) (by rw [upd_ne _ _ (by decide)]; exact d2) (upd_same _ _ _) (by rw [upd_ne _ _ (by decide)]; exact d3) hK h53 h54 h55 h56 h57 h58 h59 h60 hN hfr
theorem m_fault {w : ax_W} {n : Nat} {T : List Nat} {C : Crt} {h : Hrg} {L K : List Hrg} (hm : isM w T C h L K) (okt : okT T) (okc : okC C) : Run m_X7_fault 4 0 0 0 (l_ent m_X7_fault [.ref 51]) [] w n (PM (rsI (raS T).1) T C h L K w n) := by
  obtain ⟨a, s, r, D, h1, h2, h3, hK, ht, hC, hN, hD⟩ := hm
  refine (m_fault0 okt h1 okc hK ht hC).mono ?_
  intro v w' n' hP
  obtain ⟨x, rfl, rfl, rfl, ⟨a', s', hs, hK'⟩, hC', hq⟩ := hP
  exact va_i ⟨rfl, ⟨a', s', r, _, hs, h2, h3, hK', ht.go fun j _ _ => hq j (by omega), hC', hN.go fun j _ _ => hq j (by omega), hD.go fun j _ _ => hq j (by omega)⟩, fun j hj => hq j (by omega)⟩
theorem m_lay {w : ax_W} {n : Nat} {T : List Nat} {C : Crt} {h : Hrg} {L K : List Hrg} (hm : isM w T C h L K) (okt : okT T) (okc : okC C) : Run m_X7_lay 5 0 0 0 (l_ent m_X7_lay [.ref 51]) [] w n (if laB T then PM (nI (cn (raS T).2)) T (raS T).2 noH [] [] w n else PM (-2) T C h L K w n) := by
  obtain ⟨a, s, r, D, h1, h2, h3, hK, ht, hC, hN, hD⟩ := hm
  have okR : okC (raS T).2 := okC_raF T 200 noC 0 okC_no
  have hvd := okR.vd
  have hrn : ∀ o : Option Nat, (raS T).1 = o → (rsI o = -4 ↔ o = none) := by
    intro o ho
    cases o with
    | none => exact ⟨fun _ => rfl, fun _ => rfl⟩
    | some a =>
      refine ⟨fun q => ?_, fun q => by cases q⟩
      have hlt := raF_lt T 200 noC 0 a ho
      have hTl := okt.1
      have q2 : nI a = -4 := q
      have := congrArg (fun x : Int32 => x.toInt) q2
      rw [show (nI a).toInt = (a : Int) from nI_toInt (by omega)] at this
      have h4 : ((-4 : Int32)).toInt = -4 := by decide +kernel
      rw [h4] at this
      omega
  have hfr0 : ∀ j, (j < 51 ∨ j = 52 ∨ 61 < j) → w j = w j := fun _ _ => rfl
  refine x_aload_n (pc := 0) dX7_lay_0 rfl ?_
  refine x_cv0 (q1 := 0) (q2 := 0) (ci := 7) (pc := 1) dX7_lay_1 ks_X7_118 (by first | assumption | exact hC.1 | exact hH.1 | exact hV0.1 | exact hT.1) (by rfl) (by omega) (by rfl) (by rfl) (by rfl) (m_fault0 okt h1 okc hK ht hC) (va_kk fun v w hP => ?_)
  obtain ⟨rfl, ⟨a', s', hs, hK'⟩, hC', hq⟩ := hP
  have ht' := ht.go fun j _ _ => hq j (by omega)
  have hN' := hN.go fun j _ _ => hq j (by omega)
  have hD' := hD.go fun j _ _ => hq j (by omega)
  obtain ⟨fm, fk, fc, fs, fh, fv, fp, fd, h53, h54, h55, h56, h57, h58, h59, h60, e0, ⟨d1, d2, d3, d4, d5⟩⟩ := id hC'
  refine x_bipush (pc := 4) dX7_lay_4 (v := -4) (by decide) ?_
  refine x_icmp_ne (pc := 6) dX7_lay_6 (tgt := 18) (by decide) (fun h_6 => ?_) (fun h_6 => ?_)
  · skip
    try first | rw [n_b1] at h_6 | rw [n_b00] at h_6 | rw [n_eq (by omega) (by omega)] at h_6
    rw [hrn _ rfl] at h_6
    have e : laB T = false := decide_eq_false (fun q => h_6 q.1)
    refine x_bipush (pc := 18) dX7_lay_18 (v := -2) (by decide) ?_
    refine x_iret (pc := 20) dX7_lay_20 rfl rfl ?_
    rw [e, if_neg (by decide)]
    exact va_i ⟨rfl, ⟨a', s', r, _, hs, h2, h3, hK', ht', hC', hN', hD'⟩, fun j hj => hq j (by omega)⟩
  · replace h_6 := Classical.not_not.mp h_6
    try first | rw [n_b1] at h_6 | rw [n_b00] at h_6 | rw [n_eq (by omega) (by omega)] at h_6
    rw [hrn _ rfl] at h_6
    refine x_aload_n (pc := 9) dX7_lay_9 rfl ?_
    refine x_getf (pc := 10) dX7_lay_10 kf_X7_29 (by first | assumption | exact hC.1 | exact hH.1 | exact hV0.1 | exact hT.1) (by rfl) ?_
    refine x_iconst (pc := 13) dX7_lay_13 (v := nI 1) (by decide) ?_
    refine xn_iald (pc := 14) dX7_lay_14 (by assumption) (by first | omega | assumption) (by rfl) ?_
    rw [d2]
    refine x_if_ne (pc := 15) dX7_lay_15 (tgt := 21) (by decide) (fun h_15 => ?_) (fun h_15 => ?_)
    · skip
      try first | rw [n_b0] at h_15 | rw [n_eq0 (by omega)] at h_15
      have e : laB T = true := decide_eq_true ⟨h_6, by omega⟩
      obtain ⟨f61, hN61, -⟩ := id hN'
      refine x_aload_n (pc := 21) dX7_lay_21 rfl ?_
      refine x_cv0 (q1 := 0) (q2 := 0) (ci := 7) (pc := 22) dX7_lay_22 ks_X7_79 (by first | assumption | exact hC.1 | exact hH.1 | exact hV0.1 | exact hT.1) (by rfl) (by omega) (by rfl) (by rfl) (by rfl) (m_takeDraft okR hK' hC' hN61) (vo_kk fun w hP => ?_)
      obtain ⟨hK2, hC2, hN2, hq2⟩ := hP
      obtain ⟨gm, gk, gc, gs, gh, gv, gp, gd, g53, g54, g55, g56, g57, g58, g59, g60, ⟨b1, b2, b3, b4, b5⟩, -⟩ := id hC2
      refine x_aload_n (pc := 25) dX7_lay_25 rfl ?_
      refine x_getf (pc := 26) dX7_lay_26 kf_X7_13 (by first | assumption | exact hC.1 | exact hH.1 | exact hV0.1 | exact hT.1) (by rfl) ?_
      refine x_iconst (pc := 29) dX7_lay_29 (v := nI 0) (by decide) ?_
      refine xn_iald (pc := 30) dX7_lay_30 (by assumption) (by first | omega | assumption) (by rfl) ?_
      rw [b1]
      refine x_iret (pc := 31) dX7_lay_31 rfl rfl ?_
      rw [e, if_pos rfl]
      exact va_i ⟨rfl, ⟨a', s', r, _, hs, by decide, by decide, hK2, ht'.go fun j _ _ => hq2 j (by omega), hC2, hN2, hD'.go fun j _ _ => hq2 j (by omega)⟩, fun j hj => (hq2 j (by omega)).trans (hq j (by omega))⟩
    · replace h_15 := Classical.not_not.mp h_15
      try first | rw [n_b0] at h_15 | rw [n_eq0 (by omega)] at h_15
      have e : laB T = false := decide_eq_false (fun q => q.2 (by omega))
      refine x_bipush (pc := 18) dX7_lay_18 (v := -2) (by decide) ?_
      refine x_iret (pc := 20) dX7_lay_20 rfl rfl ?_
      rw [e, if_neg (by decide)]
      exact va_i ⟨rfl, ⟨a', s', r, _, hs, h2, h3, hK', ht', hC', hN', hD'⟩, fun j hj => hq j (by omega)⟩
theorem m_wipe {w : ax_W} {n : Nat} {T : List Nat} {C : Crt} {h : Hrg} {L K : List Hrg} (hm : isM w T C h L K) : Run m_X7_wipe 0 0 0 0 (l_ent m_X7_wipe [.ref 51]) [] w n (PM (nI T.length) [] C h L K w n) := by
  obtain ⟨a, s, r, D, h1, h2, h3, hK, ⟨f, ht, hf⟩, hC, hN, hD⟩ := hm
  have hfr : ∀ j, j < 51 → w j = w j := fun _ _ => rfl
  refine x_aload_n (pc := 0) dX7_wipe_0 rfl ?_
  refine x_getf (pc := 1) dX7_wipe_1 kf_X7_86 (by first | assumption | exact hC.1 | exact hH.1 | exact hV0.1 | exact hT.1) (by rfl) ?_
  refine x_istore_n (pc := 4) dX7_wipe_4 rfl ?_
  refine x_aload_n (pc := 5) dX7_wipe_5 rfl ?_
  refine x_iconst (pc := 6) dX7_wipe_6 (v := nI 0) (by decide) ?_
  refine xw_puti (pc := 7) dX7_wipe_7 kf_X7_86 (by assumption) (by rfl) (by rfl) rfl rfl (fun w hnew hne => ?_)
  replace hK := hnew
  replace ht := (hne _ (by omega)).trans ht
  replace hC := hC.go fun j q1 q2 => hne j (by omega)
  replace hN := hN.go fun j q1 q2 => hne j (by omega)
  replace hD := hD.go fun j q1 q2 => hne j (by omega)
  replace hfr := fun j (hj : j < 51) => (hne j (by omega)).trans (hfr j hj)
  clear hne
  refine x_iload_n (pc := 10) dX7_wipe_10 rfl ?_
  refine x_iret (pc := 11) dX7_wipe_11 rfl rfl ?_
  exact va_i ⟨rfl, ⟨a, s, r, D, h1, h2, h3, hK, ⟨f, ht, fun i hi => absurd hi (Nat.not_lt_zero i)⟩, hC, hN, hD⟩, hfr⟩
theorem c_m_isStatement {w : ax_W} {n : Nat} {C D : Crt} {ty at_ so un ke rl : Int32} (okc : okC C) (hK : w 51 = om ty at_ so un ke rl) (hC : mC w C D) (x : Int32) : Run m_X7_isStatement 1 0 0 0 (l_ent m_X7_isStatement [.ref 51, .int x]) [] w n (Pu (.int (nI (bN (inB x (cn C))))) w n) := by
  have hn := okc.1
  obtain ⟨fm, fk, fc, fs, fh, fv, fp, fd, h53, h54, h55, h56, h57, h58, h59, h60, ⟨e1, e2, e3, e4, e5⟩, -⟩ := id hC
  refine x_iload_n (pc := 0) dX7_isStatement_0 rfl ?_
  refine x_iconst (pc := 1) dX7_isStatement_1 (v := nI 0) (by decide) ?_
  refine x_aload_n (pc := 2) dX7_isStatement_2 rfl ?_
  refine x_getf (pc := 3) dX7_isStatement_3 kf_X7_13 (by first | assumption | exact hC.1 | exact hH.1 | exact hV0.1 | exact hT.1) (by rfl) ?_
  refine x_iconst (pc := 6) dX7_isStatement_6 (v := nI 0) (by decide) ?_
  refine xn_iald (pc := 7) dX7_isStatement_7 (by assumption) (by first | omega | assumption) (by rfl) ?_
  rw [e1]
  refine x_iconst (pc := 8) dX7_isStatement_8 (v := nI 1) (by decide) ?_
  refine x_isub (pc := 9) dX7_isStatement_9 ?_
  refine x_cs3p (pc := 10) dX7_isStatement_10 ks_X7_82 (by omega) (by rfl) (by rfl) (by rfl) (c_in _ _ _) ?_
  rw [inI_m _ (by omega)]
  refine x_zret (pc := 13) dX7_isStatement_13 rfl (by first | decide | exact bN_lt _ | omega) ?_
  exact pu_n rfl
theorem c_m_isVerdict {w : ax_W} {n : Nat} {C D : Crt} {ty at_ so un ke rl : Int32} (okc : okC C) (hK : w 51 = om ty at_ so un ke rl) (hC : mC w C D) (x : Int32) : Run m_X7_isVerdict 2 0 0 0 (l_ent m_X7_isVerdict [.ref 51, .int x]) [] w n (Pu (.int (nI (bN (vtB C x)))) w n) := by
  have hn := okc.1
  have hv := okc.vd
  obtain ⟨fm, fk, fc, fs, fh, fv, fp, fd, h53, h54, h55, h56, h57, h58, h59, h60, ⟨e1, e2, e3, e4, e5⟩, -⟩ := id hC
  rcases inB_cases x (n := cn C) (by omega) with hx | ⟨a, ha, rfl⟩
  · refine x_aload_n (pc := 0) dX7_isVerdict_0 rfl ?_
    refine x_iload_n (pc := 1) dX7_isVerdict_1 rfl ?_
    refine x_cv1p (ci := 7) (pc := 2) dX7_isVerdict_2 ks_X7_124 (by first | assumption | exact hC.1 | exact hH.1 | exact hV0.1 | exact hT.1) (by rfl) (by omega) (by rfl) (by rfl) (by rfl) (c_m_isStatement okc hK hC _) ?_
    refine x_if_eq (pc := 5) dX7_isVerdict_5 (tgt := 26) (by decide) (fun h_5 => ?_) (fun h_5 => ?_)
    · skip
      try first | rw [n_b0] at h_5 | rw [n_eq0 (by omega)] at h_5
      refine x_iconst (pc := 26) dX7_isVerdict_26 (v := nI 0) (by decide) ?_
      refine x_zret (pc := 27) dX7_isVerdict_27 rfl (by first | decide | exact bN_lt _ | omega) ?_
      exact pu_n (by simp [vtB, hx, bN])
    · skip
      try first | rw [n_b0] at h_5 | rw [n_eq0 (by omega)] at h_5
      rw [hx] at h_5; exact absurd rfl h_5
  · have hx : inB (nI a) (cn C) = true := by rw [inB_n (by omega) (by omega)]; simpa using ha
    refine x_aload_n (pc := 0) dX7_isVerdict_0 rfl ?_
    refine x_iload_n (pc := 1) dX7_isVerdict_1 rfl ?_
    refine x_cv1p (ci := 7) (pc := 2) dX7_isVerdict_2 ks_X7_124 (by first | assumption | exact hC.1 | exact hH.1 | exact hV0.1 | exact hT.1) (by rfl) (by omega) (by rfl) (by rfl) (by rfl) (c_m_isStatement okc hK hC _) ?_
    refine x_if_eq (pc := 5) dX7_isVerdict_5 (tgt := 26) (by decide) (fun h_5 => ?_) (fun h_5 => ?_)
    · skip
      try first | rw [n_b0] at h_5 | rw [n_eq0 (by omega)] at h_5
      rw [hx] at h_5; cases h_5
    · skip
      try first | rw [n_b0] at h_5 | rw [n_eq0 (by omega)] at h_5
      refine x_aload_n (pc := 8) dX7_isVerdict_8 rfl ?_
      refine x_getf (pc := 9) dX7_isVerdict_9 kf_X7_29 (by first | assumption | exact hC.1 | exact hH.1 | exact hV0.1 | exact hT.1) (by rfl) ?_
      refine x_iconst (pc := 12) dX7_isVerdict_12 (v := nI 0) (by decide) ?_
      refine xn_iald (pc := 13) dX7_isVerdict_13 (by assumption) (by first | omega | assumption) (by rfl) ?_
      rw [e2]
      refine x_iload_n (pc := 14) dX7_isVerdict_14 rfl ?_
      first | refine xn_ishr (pc := 15) dX7_isVerdict_15 (by omega) (by omega) ?_ | refine x_ishr (pc := 15) dX7_isVerdict_15 ?_
      refine x_iconst (pc := 16) dX7_isVerdict_16 (v := nI 1) (by decide) ?_
      first | refine xn_bit (pc := 17) dX7_isVerdict_17 ?_ | refine xn_nd (pc := 17) dX7_isVerdict_17 ?_ | refine xn_iand (pc := 17) dX7_isVerdict_17 ?_ | refine x_iand (pc := 17) dX7_isVerdict_17 ?_
      refine x_iconst (pc := 18) dX7_isVerdict_18 (v := nI 1) (by decide) ?_
      refine x_icmp_ne (pc := 19) dX7_isVerdict_19 (tgt := 26) (by decide) (fun h_19 => ?_) (fun h_19 => ?_)
      · skip
        try first | rw [n_b1] at h_19 | rw [n_b00] at h_19 | rw [n_eq (by omega) (by omega)] at h_19
        have hh : (vd C).testBit a = false := by simpa using h_19
        refine x_iconst (pc := 26) dX7_isVerdict_26 (v := nI 0) (by decide) ?_
        refine x_zret (pc := 27) dX7_isVerdict_27 rfl (by first | decide | exact bN_lt _ | omega) ?_
        exact pu_n (by rw [vtB_n okc ha, hh]; rfl)
      · replace h_19 := Classical.not_not.mp h_19
        try first | rw [n_b1] at h_19 | rw [n_b00] at h_19 | rw [n_eq (by omega) (by omega)] at h_19
        have hh : (vd C).testBit a = true := by simpa using h_19
        refine x_iconst (pc := 22) dX7_isVerdict_22 (v := nI 1) (by decide) ?_
        refine x_goto (pc := 23) dX7_isVerdict_23 (tgt := 27) (by decide) ?_
        refine x_zret (pc := 27) dX7_isVerdict_27 rfl (by first | decide | exact bN_lt _ | omega) ?_
        exact pu_n (by rw [vtB_n okc ha, hh]; rfl)
