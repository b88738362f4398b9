/-! what the WHOLE CHAINS of one VERDICT come to: found, the best one (cost, length, row), fewest days, NIGHTS, what all have, what any has, the least cost to each NIGHT -/
abbrev Srv : Type := Nat × Nat × Nat × (Nat → Nat) × Nat × Nat × Nat × Nat × (Nat → Nat)
abbrev v_fo (s : Srv) : Nat := s.1
abbrev v_bc (s : Srv) : Nat := s.2.1
abbrev v_bl (s : Srv) : Nat := s.2.2.1
abbrev v_br (s : Srv) : Nat → Nat := s.2.2.2.1
abbrev v_fe (s : Srv) : Nat := s.2.2.2.2.1
abbrev v_en (s : Srv) : Nat := s.2.2.2.2.2.1
abbrev v_cm (s : Srv) : Nat := s.2.2.2.2.2.2.1
abbrev v_td (s : Srv) : Nat := s.2.2.2.2.2.2.2.1
abbrev v_le (s : Srv) : Nat → Nat := s.2.2.2.2.2.2.2.2
abbrev ov (k fo bc bl fe en cm td : Nat) : ax_C := ao 5 [.ref (k + 1), .ref (k + 2), .ref (k + 3), .int (nI fo), .int (nI bc), .int (nI bl), .int (nI fe), .int (nI en), .int (nI cm), .int (nI td)]
def isV (w : ax_W) (k : Nat) (s : Srv) : Prop := w k = ov k (v_fo s) (v_bc s) (v_bl s) (v_fe s) (v_en s) (v_cm s) (v_td s) ∧ ∃ fr fb fl : Nat → Int32, w (k + 1) = ai 10 fr ∧ w (k + 2) = ai 10 fb ∧ w (k + 3) = ai 10 fl ∧ (∀ i, i < v_bl s → fb i = nI (v_br s i)) ∧ ∀ a, a < 10 → fl a = nI (v_le s a)
def okV (s : Srv) : Prop := v_bl s ≤ 10 ∧ v_bc s < 1000 ∧ v_fe s < 1000 ∧ v_en s < 1024 ∧ v_cm s < 1024 ∧ v_td s < 1024 ∧ ∀ a, a < 10 → v_le s a < 1000
theorem isV.go {w w' : ax_W} {k : Nat} {s : Srv} (h : isV w k s) (hq : ∀ j, k ≤ j → j < k + 4 → w' j = w j) : isV w' k s := by
  obtain ⟨h0, fr, fb, fl, h1, h2, h3, h4⟩ := h
  exact ⟨by rw [hq _ (by omega) (by omega)]; exact h0, fr, fb, fl, by rw [hq _ (by omega) (by omega)]; exact h1, by rw [hq _ (by omega) (by omega)]; exact h2, by rw [hq _ (by omega) (by omega)]; exact h3, h4⟩
def nbB (C : Crt) (s : Srv) (row : Nat → Nat) (L : Nat) : Bool := decide (v_fo s = 0 ∨ cosA C row L < v_bc s ∨ (cosA C row L = v_bc s ∧ L < v_bl s))
def leF (C : Crt) (s : Srv) (row : Nat → Nat) (L : Nat) : Nat → Nat := if (v_en s).testBit (row (L - 1)) = false ∨ cosA C row L < v_le s (row (L - 1)) then fup (v_le s) (row (L - 1)) (cosA C row L) else v_le s
/-- one WHOLE CHAIN more -/
def noteS (C : Crt) (s : Srv) (row : Nat → Nat) (L : Nat) : Srv :=
  (v_fo s + 1, if nbB C s row L then cosA C row L else v_bc s, if nbB C s row L then L else v_bl s, if nbB C s row L then row else v_br s,
   if v_fo s = 0 then dayA C row L else (if dayA C row L < v_fe s then dayA C row L else v_fe s), v_en s ||| 2 ^ row (L - 1),
   if v_fo s = 0 then mbP row L else v_cm s &&& mbP row L, v_td s ||| mbP row L, leF C s row L)
theorem okV_note {C : Crt} (ok : okC C) {s : Srv} (hs : okV s) {row : Nat → Nat} {L : Nat} (h0 : 0 < L) (hL : L ≤ 10) (hr : ∀ i, i < L → row i < cn C) : okV (noteS C s row L) := by
  obtain ⟨a1, a2, a3, a4, a5, a6, a7⟩ := hs
  have hc := cosA_le ok hr hL
  have hd := dayA_le ok hr
  have hn := ok.1
  have hm : mbP row L < 1024 := Nat.lt_of_lt_of_le (mbP_lt hr) ok.lt
  have hx := hr (L - 1) (by omega)
  have hp := pow_10 (show row (L - 1) < 10 by omega)
  refine ⟨?_, ?_, ?_, or_1024 a4 hp, ?_, or_1024 a6 hm, fun a ha => ?_⟩
  · show (if nbB C s row L = true then L else v_bl s) ≤ 10
    split <;> omega
  · show (if nbB C s row L = true then cosA C row L else v_bc s) < 1000
    split <;> omega
  · show (if v_fo s = 0 then dayA C row L else (if dayA C row L < v_fe s then dayA C row L else v_fe s)) < 1000
    split
    · omega
    · split <;> omega
  · show (if v_fo s = 0 then mbP row L else v_cm s &&& mbP row L) < 1024
    split
    · exact hm
    · exact Nat.lt_of_le_of_lt Nat.and_le_left a5
  · show leF C s row L a < 1000
    unfold leF
    split
    · by_cases hax : a = row (L - 1)
      · subst hax; rw [fup_same]; omega
      · rw [fup_ne _ _ hax]; exact a7 a ha
    · exact a7 a ha
theorem c_note {w : ax_W} {n k s : Nat} {C : Crt} (ok : okC C) {v : Srv} (hV : isV w k v) (hv : okV v) (hC : isC w s C) (hks : k + 4 ≤ s ∨ s + 6 ≤ k) {row : Nat → Nat} {L : Nat} (h0 : 0 < L) (hL : L ≤ 10) {fr : Nat → Int32} (hfr0 : w (k + 1) = ai 10 fr) (hrow : ∀ i, i < L → fr i = nI (row i) ∧ row i < cn C) (hfo : v_fo v < 2147483647) :
    Run m_X5_note 3 0 0 0 (l_ent m_X5_note [.ref k, .ref s, .int (nI (mbP row L)), .int (nI L)]) [] w n (Vo (fun w' => isV w' k (noteS C v row L) ∧ w' (k + 1) = w (k + 1) ∧ sameW w w' k 4) n) := by
  have hr : ∀ i, i < L → row i < cn C := fun i hi => (hrow i hi).2
  have hok2 := okV_note ok hv h0 hL hr
  obtain ⟨a1, a2, a3, a4, a5, a6, a7⟩ := hv
  have hc := cosA_le ok hr hL
  have hd := dayA_le ok hr
  have hn := ok.1
  have hm : mbP row L < 1024 := Nat.lt_of_lt_of_le (mbP_lt hr) ok.lt
  have hx := hr (L - 1) (by omega)
  have hx10 : row (L - 1) < 10 := by omega
  obtain ⟨hK, fr', fb, fl, g1, g2, g3, g4, g5⟩ := hV
  have hff : fr' = fr := by
    have := g1.symm.trans hfr0
    simpa using this
  subst hff
  have hC0 := hC
  have hsk := hC.1
  -- from 142 on: fewest days, what all have, NIGHTS, what any has, one more
  have st142 : ∀ (w1 : ax_W) (bc bl : Nat) (br le : Nat → Nat) (fb1 fl1 : Nat → Int32), bc = (if nbB C v row L then cosA C row L else v_bc v) → bl = (if nbB C v row L then L else v_bl v) → br = (if nbB C v row L then row else v_br v) → le = leF C v row L →
      w1 k = ov k (v_fo v) bc bl (v_fe v) (v_en v) (v_cm v) (v_td v) → w1 (k + 1) = ai 10 fr' → w1 (k + 2) = ai 10 fb1 → w1 (k + 3) = ai 10 fl1 → (∀ i, i < bl → fb1 i = nI (br i)) → (∀ a, a < 10 → fl1 a = nI (le a)) → (∀ j, (j < k ∨ k + 4 ≤ j) → w1 j = w j) →
      Run m_X5_note 3 0 0 142 [some (.ref k), some (.ref s), some (.int (nI (mbP row L))), some (.int (nI L)), some (.int (nI (cosA C row L))), some (.int (nI (row (L - 1)))), some (.int (nI (dayA C row L))), some (.int (nI (bN (decide (v_fo v = 0)))))] [] w1 n (Vo (fun w' => isV w' k (noteS C v row L) ∧ w' (k + 1) = w (k + 1) ∧ sameW w w' k 4) n) := by
    intro w1 bc bl br le fb1 fl1 e1 e2 e3 e4 hK g1 g2 g3 g4 g5 hq
    have st165 : ∀ (w2 : ax_W) (fe : Nat), fe = (if v_fo v = 0 then dayA C row L else (if dayA C row L < v_fe v then dayA C row L else v_fe v)) → w2 k = ov k (v_fo v) bc bl fe (v_en v) (v_cm v) (v_td v) → (∀ j, j ≠ k → w2 j = w1 j) →
        Run m_X5_note 3 0 0 165 [some (.ref k), some (.ref s), some (.int (nI (mbP row L))), some (.int (nI L)), some (.int (nI (cosA C row L))), some (.int (nI (row (L - 1)))), some (.int (nI (dayA C row L))), some (.int (nI (bN (decide (v_fo v = 0)))))] [] w2 n (Vo (fun w' => isV w' k (noteS C v row L) ∧ w' (k + 1) = w (k + 1) ∧ sameW w w' k 4) n) := by
      intro w2 fe e5 hK hq2
      have st184 : ∀ (w3 : ax_W) (cm : Nat), cm = (if v_fo v = 0 then mbP row L else v_cm v &&& mbP row L) → w3 k = ov k (v_fo v) bc bl fe (v_en v) cm (v_td v) → (∀ j, j ≠ k → w3 j = w1 j) →
          Run m_X5_note 3 0 0 184 [some (.ref k), some (.ref s), some (.int (nI (mbP row L))), some (.int (nI L)), some (.int (nI (cosA C row L))), some (.int (nI (row (L - 1)))), some (.int (nI (dayA C row L))), some (.int (nI (bN (decide (v_fo v = 0)))))] [] w3 n (Vo (fun w' => isV w' k (noteS C v row L) ∧ w' (k + 1) = w (k + 1) ∧ sameW w w' k 4) n) := by
        intro w3 cm e6 hK hq3
        have hfr : ∀ j, j ≠ k → w3 j = w1 j := hq3
        refine x_aload_n (pc := 184) dX5_note_184 rfl ?_
        refine x_dup (pc := 185) dX5_note_185 rfl ?_
        refine x_getf (pc := 186) dX5_note_186 kf_X5_25 (by assumption) (by rfl) ?_
        refine x_iload (pc := 189) dX5_note_189 rfl ?_
        refine x_cs1p (pc := 191) dX5_note_191 ks_X5_42 (by omega) (by rfl) (by rfl) (by rfl) (c_bit hx10) ?_
        first | refine xn_ior (pc := 194) dX5_note_194 ?_ | refine x_ior (pc := 194) dX5_note_194 ?_
        refine xw_puti (pc := 195) dX5_note_195 kf_X5_25 (by assumption) (by rfl) (by rfl) rfl rfl (fun w hnew hne => ?_)
        replace hK := hnew
        replace hfr := fun j (hj : j ≠ k) => (hne j (by omega)).trans (hfr j hj)
        clear hne
        refine x_aload_n (pc := 198) dX5_note_198 rfl ?_
        refine x_dup (pc := 199) dX5_note_199 rfl ?_
        refine x_getf (pc := 200) dX5_note_200 kf_X5_31 (by assumption) (by rfl) ?_
        refine x_iload_n (pc := 203) dX5_note_203 rfl ?_
        first | refine xn_ior (pc := 204) dX5_note_204 ?_ | refine x_ior (pc := 204) dX5_note_204 ?_
        refine xw_puti (pc := 205) dX5_note_205 kf_X5_31 (by assumption) (by rfl) (by rfl) rfl rfl (fun w hnew hne => ?_)
        replace hK := hnew
        replace hfr := fun j (hj : j ≠ k) => (hne j (by omega)).trans (hfr j hj)
        clear hne
        refine x_aload_n (pc := 208) dX5_note_208 rfl ?_
        refine x_dup (pc := 209) dX5_note_209 rfl ?_
        refine x_getf (pc := 210) dX5_note_210 kf_X5_21 (by assumption) (by rfl) ?_
        refine x_iconst (pc := 213) dX5_note_213 (v := nI 1) (by decide) ?_
        first | refine xn_iadd (pc := 214) dX5_note_214 ?_ | refine x_iadd (pc := 214) dX5_note_214 ?_
        refine xw_puti (pc := 215) dX5_note_215 kf_X5_21 (by assumption) (by rfl) (by rfl) rfl rfl (fun w hnew hne => ?_)
        replace hK := hnew
        replace hfr := fun j (hj : j ≠ k) => (hne j (by omega)).trans (hfr j hj)
        clear hne
        refine x_vret (pc := 218) dX5_note_218 rfl ?_
        refine vo_i ⟨⟨?_, fr', fb1, fl1, (hfr _ (by omega)).trans g1, (hfr _ (by omega)).trans g2, (hfr _ (by omega)).trans g3, ?_, ?_⟩, ?_, fun j hj => (hfr j (by omega)).trans (hq j hj)⟩
        · subst e1 e2 e5 e6
          exact hK
        · subst e2 e3
          exact g4
        · subst e4
          exact g5
        · rw [hfr _ (by omega), g1, hfr0]
      refine x_aload_n (pc := 165) dX5_note_165 rfl ?_
      refine x_iload (pc := 166) dX5_note_166 rfl ?_
      refine x_if_eq (pc := 168) dX5_note_168 (tgt := 175) (by decide) (fun h_168 => ?_) (fun h_168 => ?_)
      · skip
        try first | rw [n_b0] at h_168 | rw [n_eq0 (by omega)] at h_168
        simp at h_168
        have e6 : v_cm v &&& mbP row L = (if v_fo v = 0 then mbP row L else v_cm v &&& mbP row L) := by rw [if_neg h_168]
        refine x_aload_n (pc := 175) dX5_note_175 rfl ?_
        refine x_getf (pc := 176) dX5_note_176 kf_X5_28 (by assumption) (by rfl) ?_
        refine x_iload_n (pc := 179) dX5_note_179 rfl ?_
        refine xn_iand (pc := 180) dX5_note_180 ?_
        refine xw_puti (pc := 181) dX5_note_181 kf_X5_28 (by assumption) (by rfl) (by rfl) rfl rfl (fun w hnew hne => ?_)
        exact st184 w _ e6 hnew (fun j hj => (hne j hj).trans (hq2 j hj))
      · skip
        try first | rw [n_b0] at h_168 | rw [n_eq0 (by omega)] at h_168
        simp at h_168
        have e6 : mbP row L = (if v_fo v = 0 then mbP row L else v_cm v &&& mbP row L) := by rw [if_pos h_168]
        refine x_iload_n (pc := 171) dX5_note_171 rfl ?_
        refine x_goto (pc := 172) dX5_note_172 (tgt := 181) (by decide) ?_
        refine xw_puti (pc := 181) dX5_note_181 kf_X5_28 (by assumption) (by rfl) (by rfl) rfl rfl (fun w hnew hne => ?_)
        exact st184 w _ e6 hnew (fun j hj => (hne j hj).trans (hq2 j hj))
    have hmin : (if nI (dayA C row L) < nI (v_fe v) then nI (dayA C row L) else nI (v_fe v)) = nI (if dayA C row L < v_fe v then dayA C row L else v_fe v) := by
      by_cases h : dayA C row L < v_fe v
      · rw [if_pos h, if_pos ((n_lt (by omega) (by omega)).mpr h)]
      · rw [if_neg h, if_neg (fun q => h ((n_lt (by omega) (by omega)).mp q))]
    refine x_aload_n (pc := 142) dX5_note_142 rfl ?_
    refine x_iload (pc := 143) dX5_note_143 rfl ?_
    refine x_if_eq (pc := 145) dX5_note_145 (tgt := 153) (by decide) (fun h_145 => ?_) (fun h_145 => ?_)
    · skip
      try first | rw [n_b0] at h_145 | rw [n_eq0 (by omega)] at h_145
      simp at h_145
      have e5 : (if dayA C row L < v_fe v then dayA C row L else v_fe v) = (if v_fo v = 0 then dayA C row L else (if dayA C row L < v_fe v then dayA C row L else v_fe v)) := by rw [if_neg h_145]
      refine x_aload_n (pc := 153) dX5_note_153 rfl ?_
      refine x_getf (pc := 154) dX5_note_154 kf_X5_86 (by assumption) (by rfl) ?_
      refine x_iload (pc := 157) dX5_note_157 rfl ?_
      refine x_mmin (pc := 159) dX5_note_159 kX_min_X5_89 kXs_min kI_J9 kXc_min (by omega) rfl ?_
      rw [hmin]
      refine xw_puti (pc := 162) dX5_note_162 kf_X5_86 (by assumption) (by rfl) (by rfl) rfl rfl (fun w hnew hne => ?_)
      exact st165 w _ e5 hnew hne
    · skip
      try first | rw [n_b0] at h_145 | rw [n_eq0 (by omega)] at h_145
      simp at h_145
      have e5 : dayA C row L = (if v_fo v = 0 then dayA C row L else (if dayA C row L < v_fe v then dayA C row L else v_fe v)) := by rw [if_pos h_145]
      refine x_iload (pc := 148) dX5_note_148 rfl ?_
      refine x_goto (pc := 150) dX5_note_150 (tgt := 162) (by decide) ?_
      refine xw_puti (pc := 162) dX5_note_162 kf_X5_86 (by assumption) (by rfl) (by rfl) rfl rfl (fun w hnew hne => ?_)
      exact st165 w _ e5 hnew hne
  have st105 : ∀ (w1 : ax_W) (bc bl : Nat) (br : Nat → Nat) (fb1 : Nat → Int32), bc = (if nbB C v row L then cosA C row L else v_bc v) → bl = (if nbB C v row L then L else v_bl v) → br = (if nbB C v row L then row else v_br v) →
      w1 k = ov k (v_fo v) bc bl (v_fe v) (v_en v) (v_cm v) (v_td v) → w1 (k + 1) = ai 10 fr' → w1 (k + 2) = ai 10 fb1 → w1 (k + 3) = ai 10 fl → (∀ i, i < bl → fb1 i = nI (br i)) → (∀ j, (j < k ∨ k + 4 ≤ j) → w1 j = w j) →
      Run m_X5_note 3 0 0 105 [some (.ref k), some (.ref s), some (.int (nI (mbP row L))), some (.int (nI L)), some (.int (nI (cosA C row L))), some (.int (nI (row (L - 1)))), some (.int (nI (dayA C row L))), some (.int (nI (bN (decide (v_fo v = 0)))))] [] w1 n (Vo (fun w' => isV w' k (noteS C v row L) ∧ w' (k + 1) = w (k + 1) ∧ sameW w w' k 4) n) := by
    intro w1 bc bl br fb1 e1 e2 e3 hK g1 g2 g3 g4 hq
    have hle := a7 _ hx10
    refine x_aload_n (pc := 105) dX5_note_105 rfl ?_
    refine x_getf (pc := 106) dX5_note_106 kf_X5_25 (by assumption) (by rfl) ?_
    refine x_iload (pc := 109) dX5_note_109 rfl ?_
    refine x_cs2p (pc := 111) dX5_note_111 ks_X5_34 (by omega) (by rfl) (by rfl) (by rfl) (c_has (by omega) hx10) ?_
    refine x_if_eq (pc := 114) dX5_note_114 (tgt := 131) (by decide) (fun h_114 => ?_) (fun h_114 => ?_)
    · skip
      try first | rw [n_b0] at h_114 | rw [n_eq0 (by omega)] at h_114
      have e4 : fup (v_le v) (row (L - 1)) (cosA C row L) = leF C v row L := by rw [leF, if_pos (Or.inl h_114)]
      refine x_aload_n (pc := 131) dX5_note_131 rfl ?_
      refine x_getf (pc := 132) dX5_note_132 kf_X5_18 (by assumption) (by rfl) ?_
      refine x_iload (pc := 135) dX5_note_135 rfl ?_
      refine x_iload (pc := 137) dX5_note_137 rfl ?_
      refine x_cs3 (q1 := 0) (q2 := 0) (pc := 139) dX5_note_139 ks_X5_38 (by omega) (by rfl) (by rfl) (by rfl) (c_put (by assumption) (by omega) (by omega)) (vo_kk fun w hP => ?_)
      obtain ⟨hnew, hne⟩ := hP
      refine st142 w bc bl br _ fb1 _ e1 e2 e3 e4 ((hne _ (by omega)).trans hK) ((hne _ (by omega)).trans g1) ((hne _ (by omega)).trans g2) hnew g4 ?_ (fun j hj => (hne j (by omega)).trans (hq j hj))
      intro a ha
      by_cases hax : a = row (L - 1)
      · subst hax; rw [fup_same, upd_same]
      · rw [fup_ne _ _ hax, upd_ne _ _ hax]; exact g5 a ha
    · skip
      try first | rw [n_b0] at h_114 | rw [n_eq0 (by omega)] at h_114
      refine x_iload (pc := 117) dX5_note_117 rfl ?_
      refine x_aload_n (pc := 119) dX5_note_119 rfl ?_
      refine x_getf (pc := 120) dX5_note_120 kf_X5_18 (by assumption) (by rfl) ?_
      refine x_iload (pc := 123) dX5_note_123 rfl ?_
      refine x_cs2p (pc := 125) dX5_note_125 ks_X5_50 (by omega) (by rfl) (by rfl) (by rfl) (c_at (by assumption) (by omega) (by omega)) ?_
      rw [g5 _ hx10]
      refine x_icmp_ge (pc := 128) dX5_note_128 (tgt := 142) (by decide) (fun h_128 => ?_) (fun h_128 => ?_)
      · skip
        try first | rw [n_b1] at h_128 | rw [n_b00] at h_128 | rw [n_le (by omega) (by omega)] at h_128
        have e4 : v_le v = leF C v row L := by simp only [Bool.not_eq_false] at h_114; rw [leF, if_neg (fun q => q.elim (fun q => by rw [h_114] at q; cases q) (fun q => by omega))]
        exact st142 w1 bc bl br _ fb1 fl e1 e2 e3 e4 hK g1 g2 g3 g4 g5 hq
      · skip
        try first | rw [n_b1] at h_128 | rw [n_b00] at h_128 | rw [n_le (by omega) (by omega)] at h_128
        have e4 : fup (v_le v) (row (L - 1)) (cosA C row L) = leF C v row L := by rw [leF, if_pos (Or.inr (by omega))]
        refine x_aload_n (pc := 131) dX5_note_131 rfl ?_
        refine x_getf (pc := 132) dX5_note_132 kf_X5_18 (by assumption) (by rfl) ?_
        refine x_iload (pc := 135) dX5_note_135 rfl ?_
        refine x_iload (pc := 137) dX5_note_137 rfl ?_
        refine x_cs3 (q1 := 0) (q2 := 0) (pc := 139) dX5_note_139 ks_X5_38 (by omega) (by rfl) (by rfl) (by rfl) (c_put (by assumption) (by omega) (by omega)) (vo_kk fun w hP => ?_)
        obtain ⟨hnew, hne⟩ := hP
        refine st142 w bc bl br _ fb1 _ e1 e2 e3 e4 ((hne _ (by omega)).trans hK) ((hne _ (by omega)).trans g1) ((hne _ (by omega)).trans g2) hnew g4 ?_ (fun j hj => (hne j (by omega)).trans (hq j hj))
        intro a ha
        by_cases hax : a = row (L - 1)
        · subst hax; rw [fup_same, upd_same]
        · rw [fup_ne _ _ hax, upd_ne _ _ hax]; exact g5 a ha
  have st79 : nbB C v row L = true → Run m_X5_note 3 0 0 79 [some (.ref k), some (.ref s), some (.int (nI (mbP row L))), some (.int (nI L)), some (.int (nI (cosA C row L))), some (.int (nI (row (L - 1)))), some (.int (nI (dayA C row L))), some (.int (nI (bN (decide (v_fo v = 0)))))] [] w n (Vo (fun w' => isV w' k (noteS C v row L) ∧ w' (k + 1) = w (k + 1) ∧ sameW w w' k 4) n) := by
    intro hb
    have hfr : ∀ j, (j < k ∨ k + 4 ≤ j) → w j = w j := fun _ _ => rfl
    refine x_aload_n (pc := 79) dX5_note_79 rfl ?_
    refine x_getf (pc := 80) dX5_note_80 kf_X5_9 (by assumption) (by rfl) ?_
    refine x_iconst (pc := 83) dX5_note_83 (v := nI 0) (by decide) ?_
    refine x_aload_n (pc := 84) dX5_note_84 rfl ?_
    refine x_getf (pc := 85) dX5_note_85 kf_X5_15 (by assumption) (by rfl) ?_
    refine x_iconst (pc := 88) dX5_note_88 (v := nI 0) (by decide) ?_
    refine x_bipush (pc := 89) dX5_note_89 (v := nI 10) (by decide) ?_
    refine xw_copy (pc := 91) dX5_note_91 kA_X5_80 (by assumption) (by assumption) (by omega) (by omega) rfl (by omega) rfl (fun w hnew hne => ?_)
    replace hK := (hne _ (by omega)).trans hK
    replace g1 := (hne _ (by omega)).trans g1
    replace g2 := hnew
    replace g3 := (hne _ (by omega)).trans g3
    replace hfr := fun j (hj : j < k ∨ k + 4 ≤ j) => (hne j (by omega)).trans (hfr j hj)
    clear hne
    refine x_aload_n (pc := 94) dX5_note_94 rfl ?_
    refine x_iload (pc := 95) dX5_note_95 rfl ?_
    refine xw_puti (pc := 97) dX5_note_97 kf_X5_74 (by assumption) (by rfl) (by rfl) rfl rfl (fun w hnew hne => ?_)
    replace hK := hnew
    replace g1 := (hne _ (by omega)).trans g1
    replace g2 := (hne _ (by omega)).trans g2
    replace g3 := (hne _ (by omega)).trans g3
    replace hfr := fun j (hj : j < k ∨ k + 4 ≤ j) => (hne j (by omega)).trans (hfr j hj)
    clear hne
    refine x_aload_n (pc := 100) dX5_note_100 rfl ?_
    refine x_iload_n (pc := 101) dX5_note_101 rfl ?_
    refine xw_puti (pc := 102) dX5_note_102 kf_X5_77 (by assumption) (by rfl) (by rfl) rfl rfl (fun w hnew hne => ?_)
    replace hK := hnew
    replace g1 := (hne _ (by omega)).trans g1
    replace g2 := (hne _ (by omega)).trans g2
    replace g3 := (hne _ (by omega)).trans g3
    replace hfr := fun j (hj : j < k ∨ k + 4 ≤ j) => (hne j (by omega)).trans (hfr j hj)
    clear hne
    refine st105 w _ _ row _ (by rw [if_pos hb]) (by rw [if_pos hb]) (by rw [if_pos hb]) hK g1 g2 g3 ?_ hfr
    intro i hi
    have hi' : i < 10 := by omega
    simp only [if_pos hi']
    exact (hrow i hi).1
  refine x_aload_n (pc := 0) dX5_note_0 rfl ?_
  refine x_aload_n (pc := 1) dX5_note_1 rfl ?_
  refine x_getf (pc := 2) dX5_note_2 kf_X5_9 (by assumption) (by rfl) ?_
  refine x_iload_n (pc := 5) dX5_note_5 rfl ?_
  refine x_cv2p (ci := 0) (pc := 6) dX5_note_6 ks_X5_68 (by assumption) (by rfl) (by omega) (by rfl) (by rfl) (by rfl) (c_costOf hC0 ok hfr0 hL hrow) ?_
  refine x_istore (pc := 9) dX5_note_9 rfl ?_
  refine x_aload_n (pc := 11) dX5_note_11 rfl ?_
  refine x_getf (pc := 12) dX5_note_12 kf_X5_9 (by assumption) (by rfl) ?_
  refine x_iload_n (pc := 15) dX5_note_15 rfl ?_
  refine x_iconst (pc := 16) dX5_note_16 (v := nI 1) (by decide) ?_
  first | refine xn_isub (pc := 17) dX5_note_17 (by omega) ?_ | refine x_isub (pc := 17) dX5_note_17 ?_
  refine x_cs2p (pc := 18) dX5_note_18 ks_X5_50 (by omega) (by rfl) (by rfl) (by rfl) (c_at (by assumption) (by omega) (by omega)) ?_
  rw [(hrow (L - 1) (by omega)).1]
  refine x_istore (pc := 21) dX5_note_21 rfl ?_
  refine x_aload_n (pc := 23) dX5_note_23 rfl ?_
  refine x_aload_n (pc := 24) dX5_note_24 rfl ?_
  refine x_getf (pc := 25) dX5_note_25 kf_X5_9 (by assumption) (by rfl) ?_
  refine x_iload_n (pc := 28) dX5_note_28 rfl ?_
  refine x_cv2p (ci := 0) (pc := 29) dX5_note_29 ks_X5_71 (by assumption) (by rfl) (by omega) (by rfl) (by rfl) (by rfl) (c_daysOf hC0 ok hfr0 hL hrow) ?_
  refine x_istore (pc := 32) dX5_note_32 rfl ?_
  refine x_aload_n (pc := 34) dX5_note_34 rfl ?_
  refine x_getf (pc := 35) dX5_note_35 kf_X5_21 (by assumption) (by rfl) ?_
  refine x_if_ne (pc := 38) dX5_note_38 (tgt := 45) (by decide) (fun h_38 => ?_) (fun h_38 => ?_)
  · skip
    try first | rw [n_b0] at h_38 | rw [n_eq0 (by omega)] at h_38
    have hfb : decide (v_fo v = 0) = false := decide_eq_false h_38
    refine x_iconst (pc := 45) dX5_note_45 (v := nI 0) (by decide) ?_
    refine Run.top (v' := .int (nI (bN (decide (v_fo v = 0))))) (by rw [hfb]; rfl) ?_
    refine x_istore (pc := 46) dX5_note_46 rfl ?_
    refine x_iload (pc := 48) dX5_note_48 rfl ?_
    refine x_if_ne (pc := 50) dX5_note_50 (tgt := 79) (by decide) (fun h_50 => ?_) (fun h_50 => ?_)
    · skip
      try first | rw [n_b0] at h_50 | rw [n_eq0 (by omega)] at h_50
      have hb : nbB C v row L = true := by simp at h_50; simp [nbB, h_50]
      exact st79 hb
    · replace h_50 := Classical.not_not.mp h_50
      try first | rw [n_b0] at h_50 | rw [n_eq0 (by omega)] at h_50
      simp at h_50
      refine x_iload (pc := 53) dX5_note_53 rfl ?_
      refine x_aload_n (pc := 55) dX5_note_55 rfl ?_
      refine x_getf (pc := 56) dX5_note_56 kf_X5_74 (by assumption) (by rfl) ?_
      refine x_icmp_lt (pc := 59) dX5_note_59 (tgt := 79) (by decide) (fun h_59 => ?_) (fun h_59 => ?_)
      · skip
        try first | rw [n_b1] at h_59 | rw [n_b00] at h_59 | rw [n_lt (by omega) (by omega)] at h_59
        have hb : nbB C v row L = true := by simp [nbB, h_59]
        exact st79 hb
      · skip
        try first | rw [n_b1] at h_59 | rw [n_b00] at h_59 | rw [n_lt (by omega) (by omega)] at h_59
        refine x_iload (pc := 62) dX5_note_62 rfl ?_
        refine x_aload_n (pc := 64) dX5_note_64 rfl ?_
        refine x_getf (pc := 65) dX5_note_65 kf_X5_74 (by assumption) (by rfl) ?_
        refine x_icmp_ne (pc := 68) dX5_note_68 (tgt := 105) (by decide) (fun h_68 => ?_) (fun h_68 => ?_)
        · skip
          try first | rw [n_b1] at h_68 | rw [n_b00] at h_68 | rw [n_eq (by omega) (by omega)] at h_68
          have hb : nbB C v row L = false := decide_eq_false (by omega)
          exact st105 w _ _ (v_br v) fb (by rw [if_neg (by rw [hb]; decide)]) (by rw [if_neg (by rw [hb]; decide)]) (by rw [if_neg (by rw [hb]; decide)]) hK g1 g2 g3 g4 (fun _ _ => rfl)
        · replace h_68 := Classical.not_not.mp h_68
          try first | rw [n_b1] at h_68 | rw [n_b00] at h_68 | rw [n_eq (by omega) (by omega)] at h_68
          refine x_iload_n (pc := 71) dX5_note_71 rfl ?_
          refine x_aload_n (pc := 72) dX5_note_72 rfl ?_
          refine x_getf (pc := 73) dX5_note_73 kf_X5_77 (by assumption) (by rfl) ?_
          refine x_icmp_ge (pc := 76) dX5_note_76 (tgt := 105) (by decide) (fun h_76 => ?_) (fun h_76 => ?_)
          · skip
            try first | rw [n_b1] at h_76 | rw [n_b00] at h_76 | rw [n_le (by omega) (by omega)] at h_76
            have hb : nbB C v row L = false := decide_eq_false (by omega)
            exact st105 w _ _ (v_br v) fb (by rw [if_neg (by rw [hb]; decide)]) (by rw [if_neg (by rw [hb]; decide)]) (by rw [if_neg (by rw [hb]; decide)]) hK g1 g2 g3 g4 (fun _ _ => rfl)
          · skip
            try first | rw [n_b1] at h_76 | rw [n_b00] at h_76 | rw [n_le (by omega) (by omega)] at h_76
            have hb : nbB C v row L = true := decide_eq_true (by omega)
            exact st79 hb
  · replace h_38 := Classical.not_not.mp h_38
    try first | rw [n_b0] at h_38 | rw [n_eq0 (by omega)] at h_38
    have hfb : decide (v_fo v = 0) = true := decide_eq_true h_38
    refine x_iconst (pc := 41) dX5_note_41 (v := nI 1) (by decide) ?_
    refine x_goto (pc := 42) dX5_note_42 (tgt := 46) (by decide) ?_
    refine Run.top (v' := .int (nI (bN (decide (v_fo v = 0))))) (by rw [hfb]; rfl) ?_
    refine x_istore (pc := 46) dX5_note_46 rfl ?_
    refine x_iload (pc := 48) dX5_note_48 rfl ?_
    refine x_if_ne (pc := 50) dX5_note_50 (tgt := 79) (by decide) (fun h_50 => ?_) (fun h_50 => ?_)
    · skip
      try first | rw [n_b0] at h_50 | rw [n_eq0 (by omega)] at h_50
      have hb : nbB C v row L = true := by simp at h_50; simp [nbB, h_50]
      exact st79 hb
    · replace h_50 := Classical.not_not.mp h_50
      try first | rw [n_b0] at h_50 | rw [n_eq0 (by omega)] at h_50
      simp at h_50
      refine x_iload (pc := 53) dX5_note_53 rfl ?_
      refine x_aload_n (pc := 55) dX5_note_55 rfl ?_
      refine x_getf (pc := 56) dX5_note_56 kf_X5_74 (by assumption) (by rfl) ?_
      refine x_icmp_lt (pc := 59) dX5_note_59 (tgt := 79) (by decide) (fun h_59 => ?_) (fun h_59 => ?_)
      · skip
        try first | rw [n_b1] at h_59 | rw [n_b00] at h_59 | rw [n_lt (by omega) (by omega)] at h_59
        have hb : nbB C v row L = true := by simp [nbB, h_59]
        exact st79 hb
      · skip
        try first | rw [n_b1] at h_59 | rw [n_b00] at h_59 | rw [n_lt (by omega) (by omega)] at h_59
        refine x_iload (pc := 62) dX5_note_62 rfl ?_
        refine x_aload_n (pc := 64) dX5_note_64 rfl ?_
        refine x_getf (pc := 65) dX5_note_65 kf_X5_74 (by assumption) (by rfl) ?_
        refine x_icmp_ne (pc := 68) dX5_note_68 (tgt := 105) (by decide) (fun h_68 => ?_) (fun h_68 => ?_)
        · skip
          try first | rw [n_b1] at h_68 | rw [n_b00] at h_68 | rw [n_eq (by omega) (by omega)] at h_68
          have hb : nbB C v row L = false := decide_eq_false (by omega)
          exact st105 w _ _ (v_br v) fb (by rw [if_neg (by rw [hb]; decide)]) (by rw [if_neg (by rw [hb]; decide)]) (by rw [if_neg (by rw [hb]; decide)]) hK g1 g2 g3 g4 (fun _ _ => rfl)
        · replace h_68 := Classical.not_not.mp h_68
          try first | rw [n_b1] at h_68 | rw [n_b00] at h_68 | rw [n_eq (by omega) (by omega)] at h_68
          refine x_iload_n (pc := 71) dX5_note_71 rfl ?_
          refine x_aload_n (pc := 72) dX5_note_72 rfl ?_
          refine x_getf (pc := 73) dX5_note_73 kf_X5_77 (by assumption) (by rfl) ?_
          refine x_icmp_ge (pc := 76) dX5_note_76 (tgt := 105) (by decide) (fun h_76 => ?_) (fun h_76 => ?_)
          · skip
            try first | rw [n_b1] at h_76 | rw [n_b00] at h_76 | rw [n_le (by omega) (by omega)] at h_76
            have hb : nbB C v row L = false := decide_eq_false (by omega)
            exact st105 w _ _ (v_br v) fb (by rw [if_neg (by rw [hb]; decide)]) (by rw [if_neg (by rw [hb]; decide)]) (by rw [if_neg (by rw [hb]; decide)]) hK g1 g2 g3 g4 (fun _ _ => rfl)
          · skip
            try first | rw [n_b1] at h_76 | rw [n_b00] at h_76 | rw [n_le (by omega) (by omega)] at h_76
            have hb : nbB C v row L = true := decide_eq_true (by omega)
            exact st79 hb
