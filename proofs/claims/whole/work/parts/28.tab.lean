/-! the reference's tables -/
def lesN (o : Bst) : Nat := match o with
  | none => 100000
  | some q => q.1
def morN (o : Bst) : Nat := match o with
  | none => 0
  | some q => q.2.length
def thnI (o : Bst) : Int32 := match o with
  | none => -4
  | some q => match q.2 with
    | [] => -4
    | b :: _ => nI b
def mB (w : ax_W) (F : Nat → Nat → Int32) : Prop := w 62 = ai 10240 (F 0) ∧ w 63 = ai 10240 (F 1) ∧ w 64 = ai 10240 (F 2) ∧ w 65 = ai 10240 (F 3) ∧ w 66 = ai 10240 (F 4) ∧ w 67 = ai 10240 (F 5) ∧ w 68 = ai 10240 (F 6) ∧ w 69 = ai 10240 (F 7) ∧ w 70 = ai 10240 (F 8)
theorem mB.go {w w' : ax_W} {F : Nat → Nat → Int32} (h : mB w F) (hq : ∀ j, 62 ≤ j → j < 71 → w' j = w j) : mB w' F := by
  obtain ⟨h1, h2, h3, h4, h5, h6, h7, h8, h9⟩ := h
  exact ⟨by rw [hq _ (by omega) (by omega)]; exact h1, by rw [hq _ (by omega) (by omega)]; exact h2, by rw [hq _ (by omega) (by omega)]; exact h3, by rw [hq _ (by omega) (by omega)]; exact h4, by rw [hq _ (by omega) (by omega)]; exact h5, by rw [hq _ (by omega) (by omega)]; exact h6, by rw [hq _ (by omega) (by omega)]; exact h7, by rw [hq _ (by omega) (by omega)]; exact h8, by rw [hq _ (by omega) (by omega)]; exact h9⟩
def tb9 (g0 g1 g2 g3 g4 g5 g6 g7 g8 : Nat → Int32) : Nat → Nat → Int32 := fun i => match i with
  | 0 => g0
  | 1 => g1
  | 2 => g2
  | 3 => g3
  | 4 => g4
  | 5 => g5
  | 6 => g6
  | 7 => g7
  | _ => g8
theorem mD.B {w : ax_W} (h : mD w) : ∃ F, mB w F := by
  obtain ⟨h, -⟩ := h
  obtain ⟨g0, e0⟩ := h 0 (by decide)
  obtain ⟨g1, e1⟩ := h 1 (by decide)
  obtain ⟨g2, e2⟩ := h 2 (by decide)
  obtain ⟨g3, e3⟩ := h 3 (by decide)
  obtain ⟨g4, e4⟩ := h 4 (by decide)
  obtain ⟨g5, e5⟩ := h 5 (by decide)
  obtain ⟨g6, e6⟩ := h 6 (by decide)
  obtain ⟨g7, e7⟩ := h 7 (by decide)
  obtain ⟨g8, e8⟩ := h 8 (by decide)
  exact ⟨tb9 g0 g1 g2 g3 g4 g5 g6 g7 g8, e0, e1, e2, e3, e4, e5, e6, e7, e8⟩
theorem mB.D {w : ax_W} {F : Nat → Nat → Int32} (h : mB w F) {f : Nat → Int32} (h71 : w 71 = ai 10 f) : mD w := by
  obtain ⟨h1, h2, h3, h4, h5, h6, h7, h8, h9⟩ := h
  refine ⟨fun i hi => ?_, f, h71⟩
  rcases (by omega : i = 0 ∨ i = 1 ∨ i = 2 ∨ i = 3 ∨ i = 4 ∨ i = 5 ∨ i = 6 ∨ i = 7 ∨ i = 8) with rfl | rfl | rfl | rfl | rfl | rfl | rfl | rfl | rfl
  · exact ⟨_, h1⟩
  · exact ⟨_, h2⟩
  · exact ⟨_, h3⟩
  · exact ⟨_, h4⟩
  · exact ⟨_, h5⟩
  · exact ⟨_, h6⟩
  · exact ⟨_, h7⟩
  · exact ⟨_, h8⟩
  · exact ⟨_, h9⟩
/-- the same but at k -/
def sameT (F F' : Nat → Nat → Int32) (k : Nat) : Prop := ∀ x, x ≠ k → F' 0 x = F 0 x ∧ F' 1 x = F 1 x ∧ F' 2 x = F 2 x ∧ F' 3 x = F 3 x ∧ F' 4 x = F 4 x ∧ F' 5 x = F 5 x ∧ F' 6 x = F 6 x ∧ F' 7 x = F 7 x ∧ F' 8 x = F 8 x
theorem sameT.trans {F G H : Nat → Nat → Int32} {k : Nat} (h : sameT F G k) (h2 : sameT G H k) : sameT F H k := by
  intro x hx
  obtain ⟨a0, a1, a2, a3, a4, a5, a6, a7, a8⟩ := h x hx
  obtain ⟨b0, b1, b2, b3, b4, b5, b6, b7, b8⟩ := h2 x hx
  exact ⟨b0.trans a0, b1.trans a1, b2.trans a2, b3.trans a3, b4.trans a4, b5.trans a5, b6.trans a6, b7.trans a7, b8.trans a8⟩
theorem sameT.refl (F : Nat → Nat → Int32) (k : Nat) : sameT F F k := fun _ _ => ⟨rfl, rfl, rfl, rfl, rfl, rfl, rfl, rfl, rfl⟩
def tbV (C : Crt) (last L : Nat) (X : List (List Nat)) (wb : Bool) (F : Nat → Nat → Int32) (k : Nat) : Prop :=
  F 0 k = nI X.length ∧ F 1 k = nI (lesN (bstM C last L X)) ∧ F 2 k = nI (morN (bstM C last L X)) ∧ F 3 k = thnI (bstM C last L X) ∧ F 4 k = nI (dayM C X) ∧ F 5 k = nI (allM X) ∧ F 6 k = nI (anyM X) ∧ F 7 k = nI (endM last X) ∧ F 8 k = nI (bN wb)
theorem tbV.go {C : Crt} {last L : Nat} {X : List (List Nat)} {wb : Bool} {F F' : Nat → Nat → Int32} {k k' : Nat} (h : tbV C last L X wb F k) (hs : sameT F F' k') (hk : k ≠ k') : tbV C last L X wb F' k := by
  obtain ⟨a0, a1, a2, a3, a4, a5, a6, a7, a8⟩ := h
  obtain ⟨b0, b1, b2, b3, b4, b5, b6, b7, b8⟩ := hs k hk
  exact ⟨b0.trans a0, b1.trans a1, b2.trans a2, b3.trans a3, b4.trans a4, b5.trans a5, b6.trans a6, b7.trans a7, b8.trans a8⟩
def onB (o : Option Nat) (a : Nat) : Bool := match o with
  | none => true
  | some b => decide (b = a)
abbrev same62 (w w' : ax_W) : Prop := ∀ j, (j < 62 ∨ 70 < j) → w' j = w j
theorem m_endAt {w : ax_W} {n : Nat} {C : Crt} (okc : okC C) {ty at_ so un ke rl : Int32} (hK : w 51 = om ty at_ so un ke rl) (hC : mR w C) {F : Nat → Nat → Int32} (hB : mB w F) {k last L : Nat} (hk : k < 10240) (hl : last < cn C) {o : Option Nat} (ho : ∀ b, o = some b → b < 10) : Run m_X7_endAt 1 0 0 0 (l_ent m_X7_endAt [.ref 51, .int (nI k), .int (nI last), .int (rsI' o)]) [] w n (Vo (fun w' => ∃ F', mB w' F' ∧ tbV C last L (if onB o last then [[]] else []) (decide (whoS C last ≠ 0)) F' k ∧ sameT F F' k ∧ same62 w w') n) := by
  have hn := okc.1
  have hw := whoS_lt okc last
  obtain ⟨h62, h63, h64, h65, h66, h67, h68, h69, h70⟩ := hB
  have fin : ∀ (b b0 : Bool), b = onB o last → Run m_X7_endAt 1 0 0 16 [some (.ref 51), some (.int (nI k)), some (.int (nI last)), some (.int (rsI' o)), none] [.int (nI (bN b))] w n (Vo (fun w' => ∃ F', mB w' F' ∧ tbV C last L (if onB o last then [[]] else []) (decide (whoS C last ≠ 0)) F' k ∧ sameT F F' k ∧ same62 w w') n) := by
    intro b b0 hb
    rw [← hb]
    have hfr : ∀ j, (j < 62 ∨ 70 < j) → w j = w j := fun _ _ => rfl
    cases b with
    | false =>
      refine x_istore (pc := 16) dX7_endAt_16 rfl ?_
      refine x_aload_n (pc := 18) dX7_endAt_18 rfl ?_
      refine x_getf (pc := 19) dX7_endAt_19 kf_X7_41 (by first | assumption | exact hC.1 | exact hH.1 | exact hV0.1 | exact hT.1) (by rfl) ?_
      refine x_iload_n (pc := 22) dX7_endAt_22 rfl ?_
      refine x_iload (pc := 23) dX7_endAt_23 rfl ?_
      refine x_if_eq_t (pc := 25) dX7_endAt_25 (tgt := 32) (by decide) rfl ?_
      refine x_iconst (pc := 32) dX7_endAt_32 (v := nI 0) (by decide) ?_
      refine xw_iast (pc := 33) dX7_endAt_33 (by assumption) (by first | omega | assumption) (by rfl) (fun w hnew hne => ?_)
      replace hK := (hne _ (by omega)).trans hK
      replace h62 := hnew
      replace h63 := (hne _ (by omega)).trans h63
      replace h64 := (hne _ (by omega)).trans h64
      replace h65 := (hne _ (by omega)).trans h65
      replace h66 := (hne _ (by omega)).trans h66
      replace h67 := (hne _ (by omega)).trans h67
      replace h68 := (hne _ (by omega)).trans h68
      replace h69 := (hne _ (by omega)).trans h69
      replace h70 := (hne _ (by omega)).trans h70
      replace hC := hC.go fun j q1 q2 => hne j (by omega)
      replace hfr := fun j (hj : j < 62 ∨ 70 < j) => (hne j (by omega)).trans (hfr j hj)
      clear hne
      refine x_aload_n (pc := 34) dX7_endAt_34 rfl ?_
      refine x_getf (pc := 35) dX7_endAt_35 kf_X7_44 (by first | assumption | exact hC.1 | exact hH.1 | exact hV0.1 | exact hT.1) (by rfl) ?_
      refine x_iload_n (pc := 38) dX7_endAt_38 rfl ?_
      refine x_iload (pc := 39) dX7_endAt_39 rfl ?_
      refine x_if_eq_t (pc := 41) dX7_endAt_41 (tgt := 48) (by decide) rfl ?_
      refine x_ldc (pc := 48) dX7_endAt_48 kK_X7_144 ?_
      refine xw_iast (pc := 50) dX7_endAt_50 (by assumption) (by first | omega | assumption) (by rfl) (fun w hnew hne => ?_)
      replace hK := (hne _ (by omega)).trans hK
      replace h62 := (hne _ (by omega)).trans h62
      replace h63 := hnew
      replace h64 := (hne _ (by omega)).trans h64
      replace h65 := (hne _ (by omega)).trans h65
      replace h66 := (hne _ (by omega)).trans h66
      replace h67 := (hne _ (by omega)).trans h67
      replace h68 := (hne _ (by omega)).trans h68
      replace h69 := (hne _ (by omega)).trans h69
      replace h70 := (hne _ (by omega)).trans h70
      replace hC := hC.go fun j q1 q2 => hne j (by omega)
      replace hfr := fun j (hj : j < 62 ∨ 70 < j) => (hne j (by omega)).trans (hfr j hj)
      clear hne
      refine x_aload_n (pc := 51) dX7_endAt_51 rfl ?_
      refine x_getf (pc := 52) dX7_endAt_52 kf_X7_53 (by first | assumption | exact hC.1 | exact hH.1 | exact hV0.1 | exact hT.1) (by rfl) ?_
      refine x_iload_n (pc := 55) dX7_endAt_55 rfl ?_
      refine x_iload (pc := 56) dX7_endAt_56 rfl ?_
      refine x_if_eq_t (pc := 58) dX7_endAt_58 (tgt := 65) (by decide) rfl ?_
      refine x_ldc (pc := 65) dX7_endAt_65 kK_X7_144 ?_
      refine xw_iast (pc := 67) dX7_endAt_67 (by assumption) (by first | omega | assumption) (by rfl) (fun w hnew hne => ?_)
      replace hK := (hne _ (by omega)).trans hK
      replace h62 := (hne _ (by omega)).trans h62
      replace h63 := (hne _ (by omega)).trans h63
      replace h64 := (hne _ (by omega)).trans h64
      replace h65 := (hne _ (by omega)).trans h65
      replace h66 := hnew
      replace h67 := (hne _ (by omega)).trans h67
      replace h68 := (hne _ (by omega)).trans h68
      replace h69 := (hne _ (by omega)).trans h69
      replace h70 := (hne _ (by omega)).trans h70
      replace hC := hC.go fun j q1 q2 => hne j (by omega)
      replace hfr := fun j (hj : j < 62 ∨ 70 < j) => (hne j (by omega)).trans (hfr j hj)
      clear hne
      refine x_aload_n (pc := 68) dX7_endAt_68 rfl ?_
      refine x_getf (pc := 69) dX7_endAt_69 kf_X7_47 (by first | assumption | exact hC.1 | exact hH.1 | exact hV0.1 | exact hT.1) (by rfl) ?_
      refine x_iload_n (pc := 72) dX7_endAt_72 rfl ?_
      refine x_iconst (pc := 73) dX7_endAt_73 (v := nI 0) (by decide) ?_
      refine xw_iast (pc := 74) dX7_endAt_74 (by assumption) (by first | omega | assumption) (by rfl) (fun w hnew hne => ?_)
      replace hK := (hne _ (by omega)).trans hK
      replace h62 := (hne _ (by omega)).trans h62
      replace h63 := (hne _ (by omega)).trans h63
      replace h64 := hnew
      replace h65 := (hne _ (by omega)).trans h65
      replace h66 := (hne _ (by omega)).trans h66
      replace h67 := (hne _ (by omega)).trans h67
      replace h68 := (hne _ (by omega)).trans h68
      replace h69 := (hne _ (by omega)).trans h69
      replace h70 := (hne _ (by omega)).trans h70
      replace hC := hC.go fun j q1 q2 => hne j (by omega)
      replace hfr := fun j (hj : j < 62 ∨ 70 < j) => (hne j (by omega)).trans (hfr j hj)
      clear hne
      refine x_aload_n (pc := 75) dX7_endAt_75 rfl ?_
      refine x_getf (pc := 76) dX7_endAt_76 kf_X7_50 (by first | assumption | exact hC.1 | exact hH.1 | exact hV0.1 | exact hT.1) (by rfl) ?_
      refine x_iload_n (pc := 79) dX7_endAt_79 rfl ?_
      refine x_bipush (pc := 80) dX7_endAt_80 (v := -4) (by decide) ?_
      refine xw_iast (pc := 82) dX7_endAt_82 (by assumption) (by first | omega | assumption) (by rfl) (fun w hnew hne => ?_)
      replace hK := (hne _ (by omega)).trans hK
      replace h62 := (hne _ (by omega)).trans h62
      replace h63 := (hne _ (by omega)).trans h63
      replace h64 := (hne _ (by omega)).trans h64
      replace h65 := hnew
      replace h66 := (hne _ (by omega)).trans h66
      replace h67 := (hne _ (by omega)).trans h67
      replace h68 := (hne _ (by omega)).trans h68
      replace h69 := (hne _ (by omega)).trans h69
      replace h70 := (hne _ (by omega)).trans h70
      replace hC := hC.go fun j q1 q2 => hne j (by omega)
      replace hfr := fun j (hj : j < 62 ∨ 70 < j) => (hne j (by omega)).trans (hfr j hj)
      clear hne
      refine x_aload_n (pc := 83) dX7_endAt_83 rfl ?_
      refine x_getf (pc := 84) dX7_endAt_84 kf_X7_56 (by first | assumption | exact hC.1 | exact hH.1 | exact hV0.1 | exact hT.1) (by rfl) ?_
      refine x_iload_n (pc := 87) dX7_endAt_87 rfl ?_
      refine x_iload (pc := 88) dX7_endAt_88 rfl ?_
      refine x_if_eq_t (pc := 90) dX7_endAt_90 (tgt := 97) (by decide) rfl ?_
      refine x_sipush (pc := 97) dX7_endAt_97 (v := nI 1023) (by decide) ?_
      refine xw_iast (pc := 100) dX7_endAt_100 (by assumption) (by first | omega | assumption) (by rfl) (fun w hnew hne => ?_)
      replace hK := (hne _ (by omega)).trans hK
      replace h62 := (hne _ (by omega)).trans h62
      replace h63 := (hne _ (by omega)).trans h63
      replace h64 := (hne _ (by omega)).trans h64
      replace h65 := (hne _ (by omega)).trans h65
      replace h66 := (hne _ (by omega)).trans h66
      replace h67 := hnew
      replace h68 := (hne _ (by omega)).trans h68
      replace h69 := (hne _ (by omega)).trans h69
      replace h70 := (hne _ (by omega)).trans h70
      replace hC := hC.go fun j q1 q2 => hne j (by omega)
      replace hfr := fun j (hj : j < 62 ∨ 70 < j) => (hne j (by omega)).trans (hfr j hj)
      clear hne
      refine x_aload_n (pc := 101) dX7_endAt_101 rfl ?_
      refine x_getf (pc := 102) dX7_endAt_102 kf_X7_59 (by first | assumption | exact hC.1 | exact hH.1 | exact hV0.1 | exact hT.1) (by rfl) ?_
      refine x_iload_n (pc := 105) dX7_endAt_105 rfl ?_
      refine x_iconst (pc := 106) dX7_endAt_106 (v := nI 0) (by decide) ?_
      refine xw_iast (pc := 107) dX7_endAt_107 (by assumption) (by first | omega | assumption) (by rfl) (fun w hnew hne => ?_)
      replace hK := (hne _ (by omega)).trans hK
      replace h62 := (hne _ (by omega)).trans h62
      replace h63 := (hne _ (by omega)).trans h63
      replace h64 := (hne _ (by omega)).trans h64
      replace h65 := (hne _ (by omega)).trans h65
      replace h66 := (hne _ (by omega)).trans h66
      replace h67 := (hne _ (by omega)).trans h67
      replace h68 := hnew
      replace h69 := (hne _ (by omega)).trans h69
      replace h70 := (hne _ (by omega)).trans h70
      replace hC := hC.go fun j q1 q2 => hne j (by omega)
      replace hfr := fun j (hj : j < 62 ∨ 70 < j) => (hne j (by omega)).trans (hfr j hj)
      clear hne
      refine x_aload_n (pc := 108) dX7_endAt_108 rfl ?_
      refine x_getf (pc := 109) dX7_endAt_109 kf_X7_62 (by first | assumption | exact hC.1 | exact hH.1 | exact hV0.1 | exact hT.1) (by rfl) ?_
      refine x_iload_n (pc := 112) dX7_endAt_112 rfl ?_
      refine x_iload (pc := 113) dX7_endAt_113 rfl ?_
      refine x_if_eq_t (pc := 115) dX7_endAt_115 (tgt := 124) (by decide) rfl ?_
      refine x_iconst (pc := 124) dX7_endAt_124 (v := nI 0) (by decide) ?_
      refine xw_iast (pc := 125) dX7_endAt_125 (by assumption) (by first | omega | assumption) (by rfl) (fun w hnew hne => ?_)
      replace hK := (hne _ (by omega)).trans hK
      replace h62 := (hne _ (by omega)).trans h62
      replace h63 := (hne _ (by omega)).trans h63
      replace h64 := (hne _ (by omega)).trans h64
      replace h65 := (hne _ (by omega)).trans h65
      replace h66 := (hne _ (by omega)).trans h66
      replace h67 := (hne _ (by omega)).trans h67
      replace h68 := (hne _ (by omega)).trans h68
      replace h69 := hnew
      replace h70 := (hne _ (by omega)).trans h70
      replace hC := hC.go fun j q1 q2 => hne j (by omega)
      replace hfr := fun j (hj : j < 62 ∨ 70 < j) => (hne j (by omega)).trans (hfr j hj)
      clear hne
      refine x_aload_n (pc := 126) dX7_endAt_126 rfl ?_
      refine x_getf (pc := 127) dX7_endAt_127 kf_X7_65 (by first | assumption | exact hC.1 | exact hH.1 | exact hV0.1 | exact hT.1) (by rfl) ?_
      refine x_iload_n (pc := 130) dX7_endAt_130 rfl ?_
      refine x_aload_n (pc := 131) dX7_endAt_131 rfl ?_
      refine x_iload_n (pc := 132) dX7_endAt_132 rfl ?_
      refine x_cv1p (ci := 7) (pc := 133) dX7_endAt_133 ks_X7_145 (by first | assumption | exact hC.1 | exact hH.1 | exact hV0.1 | exact hT.1) (by rfl) (by omega) (by rfl) (by rfl) (by rfl) (m_couldHave okc hK hC (by omega)) ?_
      refine x_if_eq (pc := 136) dX7_endAt_136 (tgt := 143) (by decide) (fun h_136 => ?_) (fun h_136 => ?_)
      · skip
        try first | rw [n_b0] at h_136 | rw [n_eq0 (by omega)] at h_136
        have e : 0 = bN (decide (whoS C last ≠ 0)) := by simp [h_136, bN]
        refine x_iconst (pc := 143) dX7_endAt_143 (v := nI 0) (by decide) ?_
        refine xw_iast (pc := 144) dX7_endAt_144 (by assumption) (by first | omega | assumption) (by rfl) (fun w hnew hne => ?_)
        replace hK := (hne _ (by omega)).trans hK
        replace h62 := (hne _ (by omega)).trans h62
        replace h63 := (hne _ (by omega)).trans h63
        replace h64 := (hne _ (by omega)).trans h64
        replace h65 := (hne _ (by omega)).trans h65
        replace h66 := (hne _ (by omega)).trans h66
        replace h67 := (hne _ (by omega)).trans h67
        replace h68 := (hne _ (by omega)).trans h68
        replace h69 := (hne _ (by omega)).trans h69
        replace h70 := hnew
        replace hC := hC.go fun j q1 q2 => hne j (by omega)
        replace hfr := fun j (hj : j < 62 ∨ 70 < j) => (hne j (by omega)).trans (hfr j hj)
        clear hne
        refine x_vret (pc := 145) dX7_endAt_145 rfl ?_
        refine vo_i ⟨tb9 _ _ _ _ _ _ _ _ _, ⟨h62, h63, h64, h65, h66, h67, h68, h69, h70⟩, ⟨upd_same _ _ _, upd_same _ _ _, upd_same _ _ _, upd_same _ _ _, upd_same _ _ _, upd_same _ _ _, upd_same _ _ _, upd_same _ _ _, ?_⟩, fun x hx => ⟨upd_ne _ _ hx, upd_ne _ _ hx, upd_ne _ _ hx, upd_ne _ _ hx, upd_ne _ _ hx, upd_ne _ _ hx, upd_ne _ _ hx, upd_ne _ _ hx, upd_ne _ _ hx⟩, hfr⟩
        rw [← e]
        exact upd_same _ _ _
      · skip
        try first | rw [n_b0] at h_136 | rw [n_eq0 (by omega)] at h_136
        have e : 1 = bN (decide (whoS C last ≠ 0)) := by simp [h_136, bN]
        refine x_iconst (pc := 139) dX7_endAt_139 (v := nI 1) (by decide) ?_
        refine x_goto (pc := 140) dX7_endAt_140 (tgt := 144) (by decide) ?_
        refine xw_iast (pc := 144) dX7_endAt_144 (by assumption) (by first | omega | assumption) (by rfl) (fun w hnew hne => ?_)
        replace hK := (hne _ (by omega)).trans hK
        replace h62 := (hne _ (by omega)).trans h62
        replace h63 := (hne _ (by omega)).trans h63
        replace h64 := (hne _ (by omega)).trans h64
        replace h65 := (hne _ (by omega)).trans h65
        replace h66 := (hne _ (by omega)).trans h66
        replace h67 := (hne _ (by omega)).trans h67
        replace h68 := (hne _ (by omega)).trans h68
        replace h69 := (hne _ (by omega)).trans h69
        replace h70 := hnew
        replace hC := hC.go fun j q1 q2 => hne j (by omega)
        replace hfr := fun j (hj : j < 62 ∨ 70 < j) => (hne j (by omega)).trans (hfr j hj)
        clear hne
        refine x_vret (pc := 145) dX7_endAt_145 rfl ?_
        refine vo_i ⟨tb9 _ _ _ _ _ _ _ _ _, ⟨h62, h63, h64, h65, h66, h67, h68, h69, h70⟩, ⟨upd_same _ _ _, upd_same _ _ _, upd_same _ _ _, upd_same _ _ _, upd_same _ _ _, upd_same _ _ _, upd_same _ _ _, upd_same _ _ _, ?_⟩, fun x hx => ⟨upd_ne _ _ hx, upd_ne _ _ hx, upd_ne _ _ hx, upd_ne _ _ hx, upd_ne _ _ hx, upd_ne _ _ hx, upd_ne _ _ hx, upd_ne _ _ hx, upd_ne _ _ hx⟩, hfr⟩
        rw [← e]
        exact upd_same _ _ _
    | true =>
      have e69 : (2 : Nat) ^ last = endM last [[]] := by simp [endM, endT]
      refine x_istore (pc := 16) dX7_endAt_16 rfl ?_
      refine x_aload_n (pc := 18) dX7_endAt_18 rfl ?_
      refine x_getf (pc := 19) dX7_endAt_19 kf_X7_41 (by first | assumption | exact hC.1 | exact hH.1 | exact hV0.1 | exact hT.1) (by rfl) ?_
      refine x_iload_n (pc := 22) dX7_endAt_22 rfl ?_
      refine x_iload (pc := 23) dX7_endAt_23 rfl ?_
      refine x_if_eq_f (pc := 25) dX7_endAt_25 (tgt := 32) (by decide) (by decide +kernel) ?_
      refine x_iconst (pc := 28) dX7_endAt_28 (v := nI 1) (by decide) ?_
      refine x_goto (pc := 29) dX7_endAt_29 (tgt := 33) (by decide) ?_
      refine xw_iast (pc := 33) dX7_endAt_33 (by assumption) (by first | omega | assumption) (by rfl) (fun w hnew hne => ?_)
      replace hK := (hne _ (by omega)).trans hK
      replace h62 := hnew
      replace h63 := (hne _ (by omega)).trans h63
      replace h64 := (hne _ (by omega)).trans h64
      replace h65 := (hne _ (by omega)).trans h65
      replace h66 := (hne _ (by omega)).trans h66
      replace h67 := (hne _ (by omega)).trans h67
      replace h68 := (hne _ (by omega)).trans h68
      replace h69 := (hne _ (by omega)).trans h69
      replace h70 := (hne _ (by omega)).trans h70
      replace hC := hC.go fun j q1 q2 => hne j (by omega)
      replace hfr := fun j (hj : j < 62 ∨ 70 < j) => (hne j (by omega)).trans (hfr j hj)
      clear hne
      refine x_aload_n (pc := 34) dX7_endAt_34 rfl ?_
      refine x_getf (pc := 35) dX7_endAt_35 kf_X7_44 (by first | assumption | exact hC.1 | exact hH.1 | exact hV0.1 | exact hT.1) (by rfl) ?_
      refine x_iload_n (pc := 38) dX7_endAt_38 rfl ?_
      refine x_iload (pc := 39) dX7_endAt_39 rfl ?_
      refine x_if_eq_f (pc := 41) dX7_endAt_41 (tgt := 48) (by decide) (by decide +kernel) ?_
      refine x_iconst (pc := 44) dX7_endAt_44 (v := nI 0) (by decide) ?_
      refine x_goto (pc := 45) dX7_endAt_45 (tgt := 50) (by decide) ?_
      refine xw_iast (pc := 50) dX7_endAt_50 (by assumption) (by first | omega | assumption) (by rfl) (fun w hnew hne => ?_)
      replace hK := (hne _ (by omega)).trans hK
      replace h62 := (hne _ (by omega)).trans h62
      replace h63 := hnew
      replace h64 := (hne _ (by omega)).trans h64
      replace h65 := (hne _ (by omega)).trans h65
      replace h66 := (hne _ (by omega)).trans h66
      replace h67 := (hne _ (by omega)).trans h67
      replace h68 := (hne _ (by omega)).trans h68
      replace h69 := (hne _ (by omega)).trans h69
      replace h70 := (hne _ (by omega)).trans h70
      replace hC := hC.go fun j q1 q2 => hne j (by omega)
      replace hfr := fun j (hj : j < 62 ∨ 70 < j) => (hne j (by omega)).trans (hfr j hj)
      clear hne
      refine x_aload_n (pc := 51) dX7_endAt_51 rfl ?_
      refine x_getf (pc := 52) dX7_endAt_52 kf_X7_53 (by first | assumption | exact hC.1 | exact hH.1 | exact hV0.1 | exact hT.1) (by rfl) ?_
      refine x_iload_n (pc := 55) dX7_endAt_55 rfl ?_
      refine x_iload (pc := 56) dX7_endAt_56 rfl ?_
      refine x_if_eq_f (pc := 58) dX7_endAt_58 (tgt := 65) (by decide) (by decide +kernel) ?_
      refine x_iconst (pc := 61) dX7_endAt_61 (v := nI 0) (by decide) ?_
      refine x_goto (pc := 62) dX7_endAt_62 (tgt := 67) (by decide) ?_
      refine xw_iast (pc := 67) dX7_endAt_67 (by assumption) (by first | omega | assumption) (by rfl) (fun w hnew hne => ?_)
      replace hK := (hne _ (by omega)).trans hK
      replace h62 := (hne _ (by omega)).trans h62
      replace h63 := (hne _ (by omega)).trans h63
      replace h64 := (hne _ (by omega)).trans h64
      replace h65 := (hne _ (by omega)).trans h65
      replace h66 := hnew
      replace h67 := (hne _ (by omega)).trans h67
      replace h68 := (hne _ (by omega)).trans h68
      replace h69 := (hne _ (by omega)).trans h69
      replace h70 := (hne _ (by omega)).trans h70
      replace hC := hC.go fun j q1 q2 => hne j (by omega)
      replace hfr := fun j (hj : j < 62 ∨ 70 < j) => (hne j (by omega)).trans (hfr j hj)
      clear hne
      refine x_aload_n (pc := 68) dX7_endAt_68 rfl ?_
      refine x_getf (pc := 69) dX7_endAt_69 kf_X7_47 (by first | assumption | exact hC.1 | exact hH.1 | exact hV0.1 | exact hT.1) (by rfl) ?_
      refine x_iload_n (pc := 72) dX7_endAt_72 rfl ?_
      refine x_iconst (pc := 73) dX7_endAt_73 (v := nI 0) (by decide) ?_
      refine xw_iast (pc := 74) dX7_endAt_74 (by assumption) (by first | omega | assumption) (by rfl) (fun w hnew hne => ?_)
      replace hK := (hne _ (by omega)).trans hK
      replace h62 := (hne _ (by omega)).trans h62
      replace h63 := (hne _ (by omega)).trans h63
      replace h64 := hnew
      replace h65 := (hne _ (by omega)).trans h65
      replace h66 := (hne _ (by omega)).trans h66
      replace h67 := (hne _ (by omega)).trans h67
      replace h68 := (hne _ (by omega)).trans h68
      replace h69 := (hne _ (by omega)).trans h69
      replace h70 := (hne _ (by omega)).trans h70
      replace hC := hC.go fun j q1 q2 => hne j (by omega)
      replace hfr := fun j (hj : j < 62 ∨ 70 < j) => (hne j (by omega)).trans (hfr j hj)
      clear hne
      refine x_aload_n (pc := 75) dX7_endAt_75 rfl ?_
      refine x_getf (pc := 76) dX7_endAt_76 kf_X7_50 (by first | assumption | exact hC.1 | exact hH.1 | exact hV0.1 | exact hT.1) (by rfl) ?_
      refine x_iload_n (pc := 79) dX7_endAt_79 rfl ?_
      refine x_bipush (pc := 80) dX7_endAt_80 (v := -4) (by decide) ?_
      refine xw_iast (pc := 82) dX7_endAt_82 (by assumption) (by first | omega | assumption) (by rfl) (fun w hnew hne => ?_)
      replace hK := (hne _ (by omega)).trans hK
      replace h62 := (hne _ (by omega)).trans h62
      replace h63 := (hne _ (by omega)).trans h63
      replace h64 := (hne _ (by omega)).trans h64
      replace h65 := hnew
      replace h66 := (hne _ (by omega)).trans h66
      replace h67 := (hne _ (by omega)).trans h67
      replace h68 := (hne _ (by omega)).trans h68
      replace h69 := (hne _ (by omega)).trans h69
      replace h70 := (hne _ (by omega)).trans h70
      replace hC := hC.go fun j q1 q2 => hne j (by omega)
      replace hfr := fun j (hj : j < 62 ∨ 70 < j) => (hne j (by omega)).trans (hfr j hj)
      clear hne
      refine x_aload_n (pc := 83) dX7_endAt_83 rfl ?_
      refine x_getf (pc := 84) dX7_endAt_84 kf_X7_56 (by first | assumption | exact hC.1 | exact hH.1 | exact hV0.1 | exact hT.1) (by rfl) ?_
      refine x_iload_n (pc := 87) dX7_endAt_87 rfl ?_
      refine x_iload (pc := 88) dX7_endAt_88 rfl ?_
      refine x_if_eq_f (pc := 90) dX7_endAt_90 (tgt := 97) (by decide) (by decide +kernel) ?_
      refine x_iconst (pc := 93) dX7_endAt_93 (v := nI 0) (by decide) ?_
      refine x_goto (pc := 94) dX7_endAt_94 (tgt := 100) (by decide) ?_
      refine xw_iast (pc := 100) dX7_endAt_100 (by assumption) (by first | omega | assumption) (by rfl) (fun w hnew hne => ?_)
      replace hK := (hne _ (by omega)).trans hK
      replace h62 := (hne _ (by omega)).trans h62
      replace h63 := (hne _ (by omega)).trans h63
      replace h64 := (hne _ (by omega)).trans h64
      replace h65 := (hne _ (by omega)).trans h65
      replace h66 := (hne _ (by omega)).trans h66
      replace h67 := hnew
      replace h68 := (hne _ (by omega)).trans h68
      replace h69 := (hne _ (by omega)).trans h69
      replace h70 := (hne _ (by omega)).trans h70
      replace hC := hC.go fun j q1 q2 => hne j (by omega)
      replace hfr := fun j (hj : j < 62 ∨ 70 < j) => (hne j (by omega)).trans (hfr j hj)
      clear hne
      refine x_aload_n (pc := 101) dX7_endAt_101 rfl ?_
      refine x_getf (pc := 102) dX7_endAt_102 kf_X7_59 (by first | assumption | exact hC.1 | exact hH.1 | exact hV0.1 | exact hT.1) (by rfl) ?_
      refine x_iload_n (pc := 105) dX7_endAt_105 rfl ?_
      refine x_iconst (pc := 106) dX7_endAt_106 (v := nI 0) (by decide) ?_
      refine xw_iast (pc := 107) dX7_endAt_107 (by assumption) (by first | omega | assumption) (by rfl) (fun w hnew hne => ?_)
      replace hK := (hne _ (by omega)).trans hK
      replace h62 := (hne _ (by omega)).trans h62
      replace h63 := (hne _ (by omega)).trans h63
      replace h64 := (hne _ (by omega)).trans h64
      replace h65 := (hne _ (by omega)).trans h65
      replace h66 := (hne _ (by omega)).trans h66
      replace h67 := (hne _ (by omega)).trans h67
      replace h68 := hnew
      replace h69 := (hne _ (by omega)).trans h69
      replace h70 := (hne _ (by omega)).trans h70
      replace hC := hC.go fun j q1 q2 => hne j (by omega)
      replace hfr := fun j (hj : j < 62 ∨ 70 < j) => (hne j (by omega)).trans (hfr j hj)
      clear hne
      refine x_aload_n (pc := 108) dX7_endAt_108 rfl ?_
      refine x_getf (pc := 109) dX7_endAt_109 kf_X7_62 (by first | assumption | exact hC.1 | exact hH.1 | exact hV0.1 | exact hT.1) (by rfl) ?_
      refine x_iload_n (pc := 112) dX7_endAt_112 rfl ?_
      refine x_iload (pc := 113) dX7_endAt_113 rfl ?_
      refine x_if_eq_f (pc := 115) dX7_endAt_115 (tgt := 124) (by decide) (by decide +kernel) ?_
      refine x_iconst (pc := 118) dX7_endAt_118 (v := nI 1) (by decide) ?_
      refine x_iload_n (pc := 119) dX7_endAt_119 rfl ?_
      first | refine xn_shl1 (pc := 120) dX7_endAt_120 (by omega) ?_ | refine xn_ishl (pc := 120) dX7_endAt_120 (by omega) (by omega) ?_ | refine x_ishl (pc := 120) dX7_endAt_120 ?_
      refine x_goto (pc := 121) dX7_endAt_121 (tgt := 125) (by decide) ?_
      refine xw_iast (pc := 125) dX7_endAt_125 (by assumption) (by first | omega | assumption) (by rfl) (fun w hnew hne => ?_)
      replace hK := (hne _ (by omega)).trans hK
      replace h62 := (hne _ (by omega)).trans h62
      replace h63 := (hne _ (by omega)).trans h63
      replace h64 := (hne _ (by omega)).trans h64
      replace h65 := (hne _ (by omega)).trans h65
      replace h66 := (hne _ (by omega)).trans h66
      replace h67 := (hne _ (by omega)).trans h67
      replace h68 := (hne _ (by omega)).trans h68
      replace h69 := hnew
      replace h70 := (hne _ (by omega)).trans h70
      replace hC := hC.go fun j q1 q2 => hne j (by omega)
      replace hfr := fun j (hj : j < 62 ∨ 70 < j) => (hne j (by omega)).trans (hfr j hj)
      clear hne
      refine x_aload_n (pc := 126) dX7_endAt_126 rfl ?_
      refine x_getf (pc := 127) dX7_endAt_127 kf_X7_65 (by first | assumption | exact hC.1 | exact hH.1 | exact hV0.1 | exact hT.1) (by rfl) ?_
      refine x_iload_n (pc := 130) dX7_endAt_130 rfl ?_
      refine x_aload_n (pc := 131) dX7_endAt_131 rfl ?_
      refine x_iload_n (pc := 132) dX7_endAt_132 rfl ?_
      refine x_cv1p (ci := 7) (pc := 133) dX7_endAt_133 ks_X7_145 (by first | assumption | exact hC.1 | exact hH.1 | exact hV0.1 | exact hT.1) (by rfl) (by omega) (by rfl) (by rfl) (by rfl) (m_couldHave okc hK hC (by omega)) ?_
      refine x_if_eq (pc := 136) dX7_endAt_136 (tgt := 143) (by decide) (fun h_136 => ?_) (fun h_136 => ?_)
      · skip
        try first | rw [n_b0] at h_136 | rw [n_eq0 (by omega)] at h_136
        have e : 0 = bN (decide (whoS C last ≠ 0)) := by simp [h_136, bN]
        refine x_iconst (pc := 143) dX7_endAt_143 (v := nI 0) (by decide) ?_
        refine xw_iast (pc := 144) dX7_endAt_144 (by assumption) (by first | omega | assumption) (by rfl) (fun w hnew hne => ?_)
        replace hK := (hne _ (by omega)).trans hK
        replace h62 := (hne _ (by omega)).trans h62
        replace h63 := (hne _ (by omega)).trans h63
        replace h64 := (hne _ (by omega)).trans h64
        replace h65 := (hne _ (by omega)).trans h65
        replace h66 := (hne _ (by omega)).trans h66
        replace h67 := (hne _ (by omega)).trans h67
        replace h68 := (hne _ (by omega)).trans h68
        replace h69 := (hne _ (by omega)).trans h69
        replace h70 := hnew
        replace hC := hC.go fun j q1 q2 => hne j (by omega)
        replace hfr := fun j (hj : j < 62 ∨ 70 < j) => (hne j (by omega)).trans (hfr j hj)
        clear hne
        refine x_vret (pc := 145) dX7_endAt_145 rfl ?_
        refine vo_i ⟨tb9 _ _ _ _ _ _ _ _ _, ⟨h62, h63, h64, h65, h66, h67, h68, h69, h70⟩, ⟨upd_same _ _ _, upd_same _ _ _, upd_same _ _ _, upd_same _ _ _, upd_same _ _ _, upd_same _ _ _, upd_same _ _ _, ?_, ?_⟩, fun x hx => ⟨upd_ne _ _ hx, upd_ne _ _ hx, upd_ne _ _ hx, upd_ne _ _ hx, upd_ne _ _ hx, upd_ne _ _ hx, upd_ne _ _ hx, upd_ne _ _ hx, upd_ne _ _ hx⟩, hfr⟩
        · rw [if_pos rfl, ← e69]
          exact upd_same _ _ _
        · rw [← e]
          exact upd_same _ _ _
      · skip
        try first | rw [n_b0] at h_136 | rw [n_eq0 (by omega)] at h_136
        have e : 1 = bN (decide (whoS C last ≠ 0)) := by simp [h_136, bN]
        refine x_iconst (pc := 139) dX7_endAt_139 (v := nI 1) (by decide) ?_
        refine x_goto (pc := 140) dX7_endAt_140 (tgt := 144) (by decide) ?_
        refine xw_iast (pc := 144) dX7_endAt_144 (by assumption) (by first | omega | assumption) (by rfl) (fun w hnew hne => ?_)
        replace hK := (hne _ (by omega)).trans hK
        replace h62 := (hne _ (by omega)).trans h62
        replace h63 := (hne _ (by omega)).trans h63
        replace h64 := (hne _ (by omega)).trans h64
        replace h65 := (hne _ (by omega)).trans h65
        replace h66 := (hne _ (by omega)).trans h66
        replace h67 := (hne _ (by omega)).trans h67
        replace h68 := (hne _ (by omega)).trans h68
        replace h69 := (hne _ (by omega)).trans h69
        replace h70 := hnew
        replace hC := hC.go fun j q1 q2 => hne j (by omega)
        replace hfr := fun j (hj : j < 62 ∨ 70 < j) => (hne j (by omega)).trans (hfr j hj)
        clear hne
        refine x_vret (pc := 145) dX7_endAt_145 rfl ?_
        refine vo_i ⟨tb9 _ _ _ _ _ _ _ _ _, ⟨h62, h63, h64, h65, h66, h67, h68, h69, h70⟩, ⟨upd_same _ _ _, upd_same _ _ _, upd_same _ _ _, upd_same _ _ _, upd_same _ _ _, upd_same _ _ _, upd_same _ _ _, ?_, ?_⟩, fun x hx => ⟨upd_ne _ _ hx, upd_ne _ _ hx, upd_ne _ _ hx, upd_ne _ _ hx, upd_ne _ _ hx, upd_ne _ _ hx, upd_ne _ _ hx, upd_ne _ _ hx, upd_ne _ _ hx⟩, hfr⟩
        · rw [if_pos rfl, ← e69]
          exact upd_same _ _ _
        · rw [← e]
          exact upd_same _ _ _
  cases o with
  | none =>
    refine x_iload_n (pc := 0) dX7_endAt_0 rfl ?_
    refine x_bipush (pc := 1) dX7_endAt_1 (v := -4) (by decide) ?_
    refine x_icmp_eq_t (pc := 3) dX7_endAt_3 (tgt := 11) (by decide) rfl ?_
    refine x_iconst (pc := 11) dX7_endAt_11 (v := nI 1) (by decide) ?_
    refine x_goto (pc := 12) dX7_endAt_12 (tgt := 16) (by decide) ?_
    exact fin true true rfl
  | some b =>
    have hb := ho b rfl
    refine x_iload_n (pc := 0) dX7_endAt_0 rfl ?_
    refine x_bipush (pc := 1) dX7_endAt_1 (v := -4) (by decide) ?_
    refine x_icmp_eq_f (pc := 3) dX7_endAt_3 (tgt := 11) (by decide) (rsI'_ne (by omega)) ?_
    refine x_iload_n (pc := 6) dX7_endAt_6 rfl ?_
    refine x_iload_n (pc := 7) dX7_endAt_7 rfl ?_
    refine x_icmp_ne (pc := 8) dX7_endAt_8 (tgt := 15) (by decide) (fun h_8 => ?_) (fun h_8 => ?_)
    · skip
      try first | rw [n_b1] at h_8 | rw [n_b00] at h_8 | rw [n_eq (by omega) (by omega)] at h_8
      have e : false = onB (some b) last := (decide_eq_false (fun q => h_8 (by rw [q]; rfl))).symm
      refine x_iconst (pc := 15) dX7_endAt_15 (v := nI 0) (by decide) ?_
      exact fin _ true e
    · replace h_8 := Classical.not_not.mp h_8
      try first | rw [n_b1] at h_8 | rw [n_b00] at h_8 | rw [n_eq (by omega) (by omega)] at h_8
      have e : true = onB (some b) last := (decide_eq_true ((n_eq (by omega) (by omega)).mp h_8)).symm
      refine x_iconst (pc := 11) dX7_endAt_11 (v := nI 1) (by decide) ?_
      refine x_goto (pc := 12) dX7_endAt_12 (tgt := 16) (by decide) ?_
      exact fin _ true e
