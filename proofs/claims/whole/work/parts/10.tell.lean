/-! a court told: the empty one, one more STATEMENT, VERDICT, HANG, PERSON; a copy -/
def noC : Crt := (0, fun _ => 0, fun _ => 0, fun _ => 0, fun _ => 0, 0, 0, fun _ => 0)
theorem okC_no : okC noC := ⟨by decide, by decide, by decide, fun a h => absurd h (Nat.not_lt_zero a), fun a h => absurd h (Nat.not_lt_zero a)⟩
/-- the same cells but those from k on, so many -/
abbrev sameW (w w' : ax_W) (k len : Nat) : Prop := ∀ j, (j < k ∨ k + len ≤ j) → w' j = w j
theorem c_clearC {w : ax_W} {n k : Nat} {C : Crt} (hC : isC w k C) : Run m_X0_clear 0 0 0 0 (l_ent m_X0_clear [.ref k]) [] w n (Vo (fun w' => isC w' k noC ∧ sameW w w' k 6) n) := by
  obtain ⟨hK, f1, f2, f3, f4, f5, g1, g2, g3, g4, g5, g6, g7⟩ := hC
  have hfr : ∀ j, (j < k ∨ k + 6 ≤ j) → w j = w j := fun _ _ => rfl
  refine x_aload_n (pc := 0) dX0_clear_0 rfl ?_
  refine x_iconst (pc := 1) dX0_clear_1 (v := nI 0) (by decide) ?_
  refine xw_puti (pc := 2) dX0_clear_2 kf_X0_27 (by assumption) (by rfl) (by rfl) rfl rfl (fun w hnew hne => ?_)
  replace hK := hnew
  replace g1 := (hne _ (by omega)).trans g1
  replace g2 := (hne _ (by omega)).trans g2
  replace g3 := (hne _ (by omega)).trans g3
  replace g4 := (hne _ (by omega)).trans g4
  replace g5 := (hne _ (by omega)).trans g5
  replace hfr := fun j (hj : j < k ∨ k + 6 ≤ j) => (hne j (by omega)).trans (hfr j hj)
  clear hne
  refine x_aload_n (pc := 5) dX0_clear_5 rfl ?_
  refine x_iconst (pc := 6) dX0_clear_6 (v := nI 0) (by decide) ?_
  refine xw_puti (pc := 7) dX0_clear_7 kf_X0_31 (by assumption) (by rfl) (by rfl) rfl rfl (fun w hnew hne => ?_)
  replace hK := hnew
  replace g1 := (hne _ (by omega)).trans g1
  replace g2 := (hne _ (by omega)).trans g2
  replace g3 := (hne _ (by omega)).trans g3
  replace g4 := (hne _ (by omega)).trans g4
  replace g5 := (hne _ (by omega)).trans g5
  replace hfr := fun j (hj : j < k ∨ k + 6 ≤ j) => (hne j (by omega)).trans (hfr j hj)
  clear hne
  refine x_aload_n (pc := 10) dX0_clear_10 rfl ?_
  refine x_iconst (pc := 11) dX0_clear_11 (v := nI 0) (by decide) ?_
  refine xw_puti (pc := 12) dX0_clear_12 kf_X0_34 (by assumption) (by rfl) (by rfl) rfl rfl (fun w hnew hne => ?_)
  replace hK := hnew
  replace g1 := (hne _ (by omega)).trans g1
  replace g2 := (hne _ (by omega)).trans g2
  replace g3 := (hne _ (by omega)).trans g3
  replace g4 := (hne _ (by omega)).trans g4
  replace g5 := (hne _ (by omega)).trans g5
  replace hfr := fun j (hj : j < k ∨ k + 6 ≤ j) => (hne j (by omega)).trans (hfr j hj)
  clear hne
  refine x_vret (pc := 15) dX0_clear_15 rfl ?_
  exact vo_i ⟨⟨hK, f1, f2, f3, f4, f5, g1, g2, g3, g4, g5, fun a h => absurd h (Nat.not_lt_zero a), fun a h => absurd h (Nat.not_lt_zero a)⟩, hfr⟩
/-- a copy of the court at s, made at k -/
theorem c_copyC {w : ax_W} {n k s : Nat} {C C0 : Crt} (hC : isC w k C0) (hs : isC w s C) (ok : okC C) (hks : k + 6 ≤ s ∨ s + 6 ≤ k) : Run m_X0_copyFrom 2 0 0 0 (l_ent m_X0_copyFrom [.ref k, .ref s]) [] w n (Vo (fun w' => isC w' k C ∧ sameW w w' k 6) n) := by
  obtain ⟨hK, f1, f2, f3, f4, f5, g1, g2, g3, g4, g5, -⟩ := hC
  obtain ⟨hS, e1, e2, e3, e4, e5, s1, s2, s3, s4, s5, s6, s7⟩ := hs
  have hn := ok.1
  have hp := ok.2.1
  have hfr : ∀ j, (j < k ∨ k + 6 ≤ j) → w j = w j := fun _ _ => rfl
  refine x_aload_n (pc := 0) dX0_copyFrom_0 rfl ?_
  refine x_getf (pc := 1) dX0_copyFrom_1 kf_X0_9 (by assumption) (by rfl) ?_
  refine x_iconst (pc := 4) dX0_copyFrom_4 (v := nI 0) (by decide) ?_
  refine x_aload_n (pc := 5) dX0_copyFrom_5 rfl ?_
  refine x_getf (pc := 6) dX0_copyFrom_6 kf_X0_9 (by assumption) (by rfl) ?_
  refine x_iconst (pc := 9) dX0_copyFrom_9 (v := nI 0) (by decide) ?_
  refine x_bipush (pc := 10) dX0_copyFrom_10 (v := nI 10) (by decide) ?_
  refine xw_copy (pc := 12) dX0_copyFrom_12 kA_X0_37 (by assumption) (by assumption) (by omega) (by omega) rfl (by omega) rfl (fun w hnew hne => ?_)
  replace hK := (hne _ (by omega)).trans hK
  replace g1 := hnew
  replace g2 := (hne _ (by omega)).trans g2
  replace g3 := (hne _ (by omega)).trans g3
  replace g4 := (hne _ (by omega)).trans g4
  replace g5 := (hne _ (by omega)).trans g5
  replace hS := (hne _ (by omega)).trans hS
  replace s1 := (hne _ (by omega)).trans s1
  replace s2 := (hne _ (by omega)).trans s2
  replace s3 := (hne _ (by omega)).trans s3
  replace s4 := (hne _ (by omega)).trans s4
  replace s5 := (hne _ (by omega)).trans s5
  replace hfr := fun j (hj : j < k ∨ k + 6 ≤ j) => (hne j (by omega)).trans (hfr j hj)
  clear hne
  refine x_aload_n (pc := 15) dX0_copyFrom_15 rfl ?_
  refine x_getf (pc := 16) dX0_copyFrom_16 kf_X0_15 (by assumption) (by rfl) ?_
  refine x_iconst (pc := 19) dX0_copyFrom_19 (v := nI 0) (by decide) ?_
  refine x_aload_n (pc := 20) dX0_copyFrom_20 rfl ?_
  refine x_getf (pc := 21) dX0_copyFrom_21 kf_X0_15 (by assumption) (by rfl) ?_
  refine x_iconst (pc := 24) dX0_copyFrom_24 (v := nI 0) (by decide) ?_
  refine x_bipush (pc := 25) dX0_copyFrom_25 (v := nI 10) (by decide) ?_
  refine xw_copy (pc := 27) dX0_copyFrom_27 kA_X0_37 (by assumption) (by assumption) (by omega) (by omega) rfl (by omega) rfl (fun w hnew hne => ?_)
  replace hK := (hne _ (by omega)).trans hK
  replace g1 := (hne _ (by omega)).trans g1
  replace g2 := hnew
  replace g3 := (hne _ (by omega)).trans g3
  replace g4 := (hne _ (by omega)).trans g4
  replace g5 := (hne _ (by omega)).trans g5
  replace hS := (hne _ (by omega)).trans hS
  replace s1 := (hne _ (by omega)).trans s1
  replace s2 := (hne _ (by omega)).trans s2
  replace s3 := (hne _ (by omega)).trans s3
  replace s4 := (hne _ (by omega)).trans s4
  replace s5 := (hne _ (by omega)).trans s5
  replace hfr := fun j (hj : j < k ∨ k + 6 ≤ j) => (hne j (by omega)).trans (hfr j hj)
  clear hne
  refine x_aload_n (pc := 30) dX0_copyFrom_30 rfl ?_
  refine x_getf (pc := 31) dX0_copyFrom_31 kf_X0_18 (by assumption) (by rfl) ?_
  refine x_iconst (pc := 34) dX0_copyFrom_34 (v := nI 0) (by decide) ?_
  refine x_aload_n (pc := 35) dX0_copyFrom_35 rfl ?_
  refine x_getf (pc := 36) dX0_copyFrom_36 kf_X0_18 (by assumption) (by rfl) ?_
  refine x_iconst (pc := 39) dX0_copyFrom_39 (v := nI 0) (by decide) ?_
  refine x_bipush (pc := 40) dX0_copyFrom_40 (v := nI 10) (by decide) ?_
  refine xw_copy (pc := 42) dX0_copyFrom_42 kA_X0_37 (by assumption) (by assumption) (by omega) (by omega) rfl (by omega) rfl (fun w hnew hne => ?_)
  replace hK := (hne _ (by omega)).trans hK
  replace g1 := (hne _ (by omega)).trans g1
  replace g2 := (hne _ (by omega)).trans g2
  replace g3 := hnew
  replace g4 := (hne _ (by omega)).trans g4
  replace g5 := (hne _ (by omega)).trans g5
  replace hS := (hne _ (by omega)).trans hS
  replace s1 := (hne _ (by omega)).trans s1
  replace s2 := (hne _ (by omega)).trans s2
  replace s3 := (hne _ (by omega)).trans s3
  replace s4 := (hne _ (by omega)).trans s4
  replace s5 := (hne _ (by omega)).trans s5
  replace hfr := fun j (hj : j < k ∨ k + 6 ≤ j) => (hne j (by omega)).trans (hfr j hj)
  clear hne
  refine x_aload_n (pc := 45) dX0_copyFrom_45 rfl ?_
  refine x_getf (pc := 46) dX0_copyFrom_46 kf_X0_21 (by assumption) (by rfl) ?_
  refine x_iconst (pc := 49) dX0_copyFrom_49 (v := nI 0) (by decide) ?_
  refine x_aload_n (pc := 50) dX0_copyFrom_50 rfl ?_
  refine x_getf (pc := 51) dX0_copyFrom_51 kf_X0_21 (by assumption) (by rfl) ?_
  refine x_iconst (pc := 54) dX0_copyFrom_54 (v := nI 0) (by decide) ?_
  refine x_bipush (pc := 55) dX0_copyFrom_55 (v := nI 10) (by decide) ?_
  refine xw_copy (pc := 57) dX0_copyFrom_57 kA_X0_37 (by assumption) (by assumption) (by omega) (by omega) rfl (by omega) rfl (fun w hnew hne => ?_)
  replace hK := (hne _ (by omega)).trans hK
  replace g1 := (hne _ (by omega)).trans g1
  replace g2 := (hne _ (by omega)).trans g2
  replace g3 := (hne _ (by omega)).trans g3
  replace g4 := hnew
  replace g5 := (hne _ (by omega)).trans g5
  replace hS := (hne _ (by omega)).trans hS
  replace s1 := (hne _ (by omega)).trans s1
  replace s2 := (hne _ (by omega)).trans s2
  replace s3 := (hne _ (by omega)).trans s3
  replace s4 := (hne _ (by omega)).trans s4
  replace s5 := (hne _ (by omega)).trans s5
  replace hfr := fun j (hj : j < k ∨ k + 6 ≤ j) => (hne j (by omega)).trans (hfr j hj)
  clear hne
  refine x_aload_n (pc := 60) dX0_copyFrom_60 rfl ?_
  refine x_getf (pc := 61) dX0_copyFrom_61 kf_X0_24 (by assumption) (by rfl) ?_
  refine x_iconst (pc := 64) dX0_copyFrom_64 (v := nI 0) (by decide) ?_
  refine x_aload_n (pc := 65) dX0_copyFrom_65 rfl ?_
  refine x_getf (pc := 66) dX0_copyFrom_66 kf_X0_24 (by assumption) (by rfl) ?_
  refine x_iconst (pc := 69) dX0_copyFrom_69 (v := nI 0) (by decide) ?_
  refine x_iconst (pc := 70) dX0_copyFrom_70 (v := nI 5) (by decide) ?_
  refine xw_copy (pc := 71) dX0_copyFrom_71 kA_X0_37 (by assumption) (by assumption) (by omega) (by omega) rfl (by omega) rfl (fun w hnew hne => ?_)
  replace hK := (hne _ (by omega)).trans hK
  replace g1 := (hne _ (by omega)).trans g1
  replace g2 := (hne _ (by omega)).trans g2
  replace g3 := (hne _ (by omega)).trans g3
  replace g4 := (hne _ (by omega)).trans g4
  replace g5 := hnew
  replace hS := (hne _ (by omega)).trans hS
  replace s1 := (hne _ (by omega)).trans s1
  replace s2 := (hne _ (by omega)).trans s2
  replace s3 := (hne _ (by omega)).trans s3
  replace s4 := (hne _ (by omega)).trans s4
  replace s5 := (hne _ (by omega)).trans s5
  replace hfr := fun j (hj : j < k ∨ k + 6 ≤ j) => (hne j (by omega)).trans (hfr j hj)
  clear hne
  refine x_aload_n (pc := 74) dX0_copyFrom_74 rfl ?_
  refine x_aload_n (pc := 75) dX0_copyFrom_75 rfl ?_
  refine x_getf (pc := 76) dX0_copyFrom_76 kf_X0_27 (by assumption) (by rfl) ?_
  refine xw_puti (pc := 79) dX0_copyFrom_79 kf_X0_27 (by assumption) (by rfl) (by rfl) rfl rfl (fun w hnew hne => ?_)
  replace hK := hnew
  replace g1 := (hne _ (by omega)).trans g1
  replace g2 := (hne _ (by omega)).trans g2
  replace g3 := (hne _ (by omega)).trans g3
  replace g4 := (hne _ (by omega)).trans g4
  replace g5 := (hne _ (by omega)).trans g5
  replace hS := (hne _ (by omega)).trans hS
  replace s1 := (hne _ (by omega)).trans s1
  replace s2 := (hne _ (by omega)).trans s2
  replace s3 := (hne _ (by omega)).trans s3
  replace s4 := (hne _ (by omega)).trans s4
  replace s5 := (hne _ (by omega)).trans s5
  replace hfr := fun j (hj : j < k ∨ k + 6 ≤ j) => (hne j (by omega)).trans (hfr j hj)
  clear hne
  refine x_aload_n (pc := 82) dX0_copyFrom_82 rfl ?_
  refine x_aload_n (pc := 83) dX0_copyFrom_83 rfl ?_
  refine x_getf (pc := 84) dX0_copyFrom_84 kf_X0_31 (by assumption) (by rfl) ?_
  refine xw_puti (pc := 87) dX0_copyFrom_87 kf_X0_31 (by assumption) (by rfl) (by rfl) rfl rfl (fun w hnew hne => ?_)
  replace hK := hnew
  replace g1 := (hne _ (by omega)).trans g1
  replace g2 := (hne _ (by omega)).trans g2
  replace g3 := (hne _ (by omega)).trans g3
  replace g4 := (hne _ (by omega)).trans g4
  replace g5 := (hne _ (by omega)).trans g5
  replace hS := (hne _ (by omega)).trans hS
  replace s1 := (hne _ (by omega)).trans s1
  replace s2 := (hne _ (by omega)).trans s2
  replace s3 := (hne _ (by omega)).trans s3
  replace s4 := (hne _ (by omega)).trans s4
  replace s5 := (hne _ (by omega)).trans s5
  replace hfr := fun j (hj : j < k ∨ k + 6 ≤ j) => (hne j (by omega)).trans (hfr j hj)
  clear hne
  refine x_aload_n (pc := 90) dX0_copyFrom_90 rfl ?_
  refine x_aload_n (pc := 91) dX0_copyFrom_91 rfl ?_
  refine x_getf (pc := 92) dX0_copyFrom_92 kf_X0_34 (by assumption) (by rfl) ?_
  refine xw_puti (pc := 95) dX0_copyFrom_95 kf_X0_34 (by assumption) (by rfl) (by rfl) rfl rfl (fun w hnew hne => ?_)
  replace hK := hnew
  replace g1 := (hne _ (by omega)).trans g1
  replace g2 := (hne _ (by omega)).trans g2
  replace g3 := (hne _ (by omega)).trans g3
  replace g4 := (hne _ (by omega)).trans g4
  replace g5 := (hne _ (by omega)).trans g5
  replace hS := (hne _ (by omega)).trans hS
  replace s1 := (hne _ (by omega)).trans s1
  replace s2 := (hne _ (by omega)).trans s2
  replace s3 := (hne _ (by omega)).trans s3
  replace s4 := (hne _ (by omega)).trans s4
  replace s5 := (hne _ (by omega)).trans s5
  replace hfr := fun j (hj : j < k ∨ k + 6 ≤ j) => (hne j (by omega)).trans (hfr j hj)
  clear hne
  refine x_vret (pc := 98) dX0_copyFrom_98 rfl ?_
  refine vo_i ⟨⟨hK, _, _, _, _, _, g1, g2, g3, g4, g5, fun a ha => ?_, fun p hp => ?_⟩, hfr⟩
  · have ha' : a < 10 := by omega
    simp only [if_pos ha']
    exact s6 a ha
  · have hp' : p < 5 := by omega
    simp only [if_pos hp']
    exact s7 p hp
/-- one more STATEMENT -/
def adS (C : Crt) (x y z : Nat) : Crt := (cn C + 1, fup (kd C) (cn C) x, fup (co C) (cn C) y, fup (sp C) (cn C) z, fup (hg C) (cn C) 0, vd C, np C, de C)
def okSt (C : Crt) (x y z : Nat) : Bool := decide (cn C < 10 ∧ x ≤ 4 ∧ y ≤ 20 ∧ z ≤ 20)
theorem okC_adS {C : Crt} (ok : okC C) {x y z : Nat} (h : okSt C x y z = true) : okC (adS C x y z) := by
  obtain ⟨h1, h2, h3, h4⟩ := of_decide_eq_true h
  have hpw : 2 ^ cn C < 2 ^ (cn C + 1) := pow_lt (by omega)
  obtain ⟨o1, o2, o3, o4, o5⟩ := ok
  refine ⟨?_, o2, ?_, fun a ha => ?_, fun p hp => ?_⟩
  · show cn C + 1 ≤ 10
    omega
  · show vd C < 2 ^ (cn C + 1)
    omega
  · have ha : a < cn C + 1 := ha
    show fup (kd C) (cn C) x a ≤ 4 ∧ fup (co C) (cn C) y a ≤ 20 ∧ fup (sp C) (cn C) z a ≤ 20 ∧ fup (hg C) (cn C) 0 a < 2 ^ (cn C + 1)
    by_cases hac : a = cn C
    · subst hac
      simp only [fup_same]
      exact ⟨h2, h3, h4, by omega⟩
    · simp only [fup_ne _ _ hac]
      have := o4 a (by omega)
      exact ⟨this.1, this.2.1, this.2.2.1, by omega⟩
  · show de C p < 2 ^ (cn C + 1)
    have := o5 p hp
    omega
theorem c_addStatement {w : ax_W} {n k : Nat} {C : Crt} (hC : isC w k C) (ok : okC C) {x y z : Nat} (hx : x < 100) (hy : y < 100) (hz : z < 100) : Run m_X0_addStatement 1 0 0 0 (l_ent m_X0_addStatement [.ref k, .int (nI x), .int (nI y), .int (nI z)]) [] w n (Va (fun v w' => v = .int (nI (bN (okSt C x y z))) ∧ isC w' k (if okSt C x y z then adS C x y z else C) ∧ sameW w w' k 6) n) := by
  have hC0 := hC
  obtain ⟨hK, f1, f2, f3, f4, f5, g1, g2, g3, g4, g5, g6, g7⟩ := hC
  have hn := ok.1
  have hfr : ∀ j, (j < k ∨ k + 6 ≤ j) → w j = w j := fun _ _ => rfl
  have ho : ∀ a b c : Nat, a < 100 → b < 100 → c < 100 → decide (nI a < nI b ∨ nI c < nI a) = decide (a < b ∨ c < a) := by
    intro a b c ha hb hc
    congr 1
    rw [n_lt (by omega) (by omega), n_lt (by omega) (by omega)]
  refine x_aload_n (pc := 0) dX0_addStatement_0 rfl ?_
  refine x_getf (pc := 1) dX0_addStatement_1 kf_X0_27 (by assumption) (by rfl) ?_
  refine x_bipush (pc := 4) dX0_addStatement_4 (v := nI 10) (by decide) ?_
  refine x_icmp_ge (pc := 6) dX0_addStatement_6 (tgt := 38) (by decide) (fun h_6 => ?_) (fun h_6 => ?_)
  · skip
    try first | rw [n_b1] at h_6 | rw [n_b00] at h_6 | rw [n_le (by omega) (by omega)] at h_6
    have hh : okSt C x y z = false := by simp [okSt]; omega
    refine x_iconst (pc := 38) dX0_addStatement_38 (v := nI 0) (by decide) ?_
    refine x_zret (pc := 39) dX0_addStatement_39 rfl (by first | decide | exact bN_lt _ | omega) ?_
    exact va_i ⟨by rw [hh]; rfl, by rw [hh]; exact hC0, fun _ _ => rfl⟩
  · skip
    try first | rw [n_b1] at h_6 | rw [n_b00] at h_6 | rw [n_le (by omega) (by omega)] at h_6
    refine x_iload_n (pc := 9) dX0_addStatement_9 rfl ?_
    refine x_iconst (pc := 10) dX0_addStatement_10 (v := nI 0) (by decide) ?_
    refine x_iconst (pc := 11) dX0_addStatement_11 (v := nI 4) (by decide) ?_
    refine x_cs3p (pc := 12) dX0_addStatement_12 ks_X0_43 (by omega) (by rfl) (by rfl) (by rfl) (c_outside _ _ _) ?_
    rw [ho _ _ _ hx (by decide) (by decide)]
    refine x_if_ne (pc := 15) dX0_addStatement_15 (tgt := 38) (by decide) (fun h_15 => ?_) (fun h_15 => ?_)
    · skip
      try first | rw [n_b0] at h_15 | rw [n_eq0 (by omega)] at h_15
      simp at h_15
      have hh : okSt C x y z = false := by simp [okSt]; omega
      refine x_iconst (pc := 38) dX0_addStatement_38 (v := nI 0) (by decide) ?_
      refine x_zret (pc := 39) dX0_addStatement_39 rfl (by first | decide | exact bN_lt _ | omega) ?_
      exact va_i ⟨by rw [hh]; rfl, by rw [hh]; exact hC0, fun _ _ => rfl⟩
    · replace h_15 := Classical.not_not.mp h_15
      try first | rw [n_b0] at h_15 | rw [n_eq0 (by omega)] at h_15
      simp at h_15
      refine x_iload_n (pc := 18) dX0_addStatement_18 rfl ?_
      refine x_iconst (pc := 19) dX0_addStatement_19 (v := nI 0) (by decide) ?_
      refine x_bipush (pc := 20) dX0_addStatement_20 (v := nI 20) (by decide) ?_
      refine x_cs3p (pc := 22) dX0_addStatement_22 ks_X0_43 (by omega) (by rfl) (by rfl) (by rfl) (c_outside _ _ _) ?_
      rw [ho _ _ _ hy (by decide) (by decide)]
      refine x_if_ne (pc := 25) dX0_addStatement_25 (tgt := 38) (by decide) (fun h_25 => ?_) (fun h_25 => ?_)
      · skip
        try first | rw [n_b0] at h_25 | rw [n_eq0 (by omega)] at h_25
        simp at h_25
        have hh : okSt C x y z = false := by simp [okSt]; omega
        refine x_iconst (pc := 38) dX0_addStatement_38 (v := nI 0) (by decide) ?_
        refine x_zret (pc := 39) dX0_addStatement_39 rfl (by first | decide | exact bN_lt _ | omega) ?_
        exact va_i ⟨by rw [hh]; rfl, by rw [hh]; exact hC0, fun _ _ => rfl⟩
      · replace h_25 := Classical.not_not.mp h_25
        try first | rw [n_b0] at h_25 | rw [n_eq0 (by omega)] at h_25
        simp at h_25
        refine x_iload_n (pc := 28) dX0_addStatement_28 rfl ?_
        refine x_iconst (pc := 29) dX0_addStatement_29 (v := nI 0) (by decide) ?_
        refine x_bipush (pc := 30) dX0_addStatement_30 (v := nI 20) (by decide) ?_
        refine x_cs3p (pc := 32) dX0_addStatement_32 ks_X0_43 (by omega) (by rfl) (by rfl) (by rfl) (c_outside _ _ _) ?_
        rw [ho _ _ _ hz (by decide) (by decide)]
        refine x_if_eq (pc := 35) dX0_addStatement_35 (tgt := 40) (by decide) (fun h_35 => ?_) (fun h_35 => ?_)
        · skip
          try first | rw [n_b0] at h_35 | rw [n_eq0 (by omega)] at h_35
          simp at h_35
          have hh : okSt C x y z = true := by simp [okSt]; omega
          refine x_aload_n (pc := 40) dX0_addStatement_40 rfl ?_
          refine x_getf (pc := 41) dX0_addStatement_41 kf_X0_9 (by assumption) (by rfl) ?_
          refine x_aload_n (pc := 44) dX0_addStatement_44 rfl ?_
          refine x_getf (pc := 45) dX0_addStatement_45 kf_X0_27 (by assumption) (by rfl) ?_
          refine x_iload_n (pc := 48) dX0_addStatement_48 rfl ?_
          refine x_cs3 (q1 := 0) (q2 := 0) (pc := 49) dX0_addStatement_49 ks_X0_47 (by omega) (by rfl) (by rfl) (by rfl) (c_put (by assumption) (by omega) (by omega)) (vo_kk fun w hP => ?_)
          obtain ⟨hnew, hne⟩ := hP
          replace hK := (hne _ (by omega)).trans hK
          replace g1 := hnew
          replace g2 := (hne _ (by omega)).trans g2
          replace g3 := (hne _ (by omega)).trans g3
          replace g4 := (hne _ (by omega)).trans g4
          replace g5 := (hne _ (by omega)).trans g5
          replace hfr := fun j (hj : j < k ∨ k + 6 ≤ j) => (hne j (by omega)).trans (hfr j hj)
          clear hne
          refine x_aload_n (pc := 52) dX0_addStatement_52 rfl ?_
          refine x_getf (pc := 53) dX0_addStatement_53 kf_X0_15 (by assumption) (by rfl) ?_
          refine x_aload_n (pc := 56) dX0_addStatement_56 rfl ?_
          refine x_getf (pc := 57) dX0_addStatement_57 kf_X0_27 (by assumption) (by rfl) ?_
          refine x_iload_n (pc := 60) dX0_addStatement_60 rfl ?_
          refine x_cs3 (q1 := 0) (q2 := 0) (pc := 61) dX0_addStatement_61 ks_X0_47 (by omega) (by rfl) (by rfl) (by rfl) (c_put (by assumption) (by omega) (by omega)) (vo_kk fun w hP => ?_)
          obtain ⟨hnew, hne⟩ := hP
          replace hK := (hne _ (by omega)).trans hK
          replace g1 := (hne _ (by omega)).trans g1
          replace g2 := hnew
          replace g3 := (hne _ (by omega)).trans g3
          replace g4 := (hne _ (by omega)).trans g4
          replace g5 := (hne _ (by omega)).trans g5
          replace hfr := fun j (hj : j < k ∨ k + 6 ≤ j) => (hne j (by omega)).trans (hfr j hj)
          clear hne
          refine x_aload_n (pc := 64) dX0_addStatement_64 rfl ?_
          refine x_getf (pc := 65) dX0_addStatement_65 kf_X0_18 (by assumption) (by rfl) ?_
          refine x_aload_n (pc := 68) dX0_addStatement_68 rfl ?_
          refine x_getf (pc := 69) dX0_addStatement_69 kf_X0_27 (by assumption) (by rfl) ?_
          refine x_iload_n (pc := 72) dX0_addStatement_72 rfl ?_
          refine x_cs3 (q1 := 0) (q2 := 0) (pc := 73) dX0_addStatement_73 ks_X0_47 (by omega) (by rfl) (by rfl) (by rfl) (c_put (by assumption) (by omega) (by omega)) (vo_kk fun w hP => ?_)
          obtain ⟨hnew, hne⟩ := hP
          replace hK := (hne _ (by omega)).trans hK
          replace g1 := (hne _ (by omega)).trans g1
          replace g2 := (hne _ (by omega)).trans g2
          replace g3 := hnew
          replace g4 := (hne _ (by omega)).trans g4
          replace g5 := (hne _ (by omega)).trans g5
          replace hfr := fun j (hj : j < k ∨ k + 6 ≤ j) => (hne j (by omega)).trans (hfr j hj)
          clear hne
          refine x_aload_n (pc := 76) dX0_addStatement_76 rfl ?_
          refine x_getf (pc := 77) dX0_addStatement_77 kf_X0_21 (by assumption) (by rfl) ?_
          refine x_aload_n (pc := 80) dX0_addStatement_80 rfl ?_
          refine x_getf (pc := 81) dX0_addStatement_81 kf_X0_27 (by assumption) (by rfl) ?_
          refine x_iconst (pc := 84) dX0_addStatement_84 (v := nI 0) (by decide) ?_
          refine x_cs3 (q1 := 0) (q2 := 0) (pc := 85) dX0_addStatement_85 ks_X0_47 (by omega) (by rfl) (by rfl) (by rfl) (c_put (by assumption) (by omega) (by omega)) (vo_kk fun w hP => ?_)
          obtain ⟨hnew, hne⟩ := hP
          replace hK := (hne _ (by omega)).trans hK
          replace g1 := (hne _ (by omega)).trans g1
          replace g2 := (hne _ (by omega)).trans g2
          replace g3 := (hne _ (by omega)).trans g3
          replace g4 := hnew
          replace g5 := (hne _ (by omega)).trans g5
          replace hfr := fun j (hj : j < k ∨ k + 6 ≤ j) => (hne j (by omega)).trans (hfr j hj)
          clear hne
          refine x_aload_n (pc := 88) dX0_addStatement_88 rfl ?_
          refine x_dup (pc := 89) dX0_addStatement_89 rfl ?_
          refine x_getf (pc := 90) dX0_addStatement_90 kf_X0_27 (by assumption) (by rfl) ?_
          refine x_iconst (pc := 93) dX0_addStatement_93 (v := nI 1) (by decide) ?_
          first | refine xn_iadd (pc := 94) dX0_addStatement_94 ?_ | refine x_iadd (pc := 94) dX0_addStatement_94 ?_
          refine xw_puti (pc := 95) dX0_addStatement_95 kf_X0_27 (by assumption) (by rfl) (by rfl) rfl rfl (fun w hnew hne => ?_)
          replace hK := hnew
          replace g1 := (hne _ (by omega)).trans g1
          replace g2 := (hne _ (by omega)).trans g2
          replace g3 := (hne _ (by omega)).trans g3
          replace g4 := (hne _ (by omega)).trans g4
          replace g5 := (hne _ (by omega)).trans g5
          replace hfr := fun j (hj : j < k ∨ k + 6 ≤ j) => (hne j (by omega)).trans (hfr j hj)
          clear hne
          refine x_iconst (pc := 98) dX0_addStatement_98 (v := nI 1) (by decide) ?_
          refine x_zret (pc := 99) dX0_addStatement_99 rfl (by first | decide | exact bN_lt _ | omega) ?_
          refine va_i ⟨by rw [hh]; rfl, ?_, hfr⟩
          rw [hh, if_pos rfl]
          refine ⟨hK, _, _, _, _, _, g1, g2, g3, g4, g5, fun a ha => ?_, g7⟩
          have ha : a < cn C + 1 := ha
          show upd f1 (cn C) (nI x) a = nI (fup (kd C) (cn C) x a) ∧ upd f2 (cn C) (nI y) a = nI (fup (co C) (cn C) y a) ∧ upd f3 (cn C) (nI z) a = nI (fup (sp C) (cn C) z a) ∧ upd f4 (cn C) (nI 0) a = nI (fup (hg C) (cn C) 0 a)
          by_cases hac : a = cn C
          · subst hac
            simp only [fup_same, upd_same, and_self]
          · simp only [fup_ne _ _ hac, upd_ne _ _ hac]
            exact g6 a (by omega)
        · skip
          try first | rw [n_b0] at h_35 | rw [n_eq0 (by omega)] at h_35
          simp at h_35
          have hh : okSt C x y z = false := by simp [okSt]; omega
          refine x_iconst (pc := 38) dX0_addStatement_38 (v := nI 0) (by decide) ?_
          refine x_zret (pc := 39) dX0_addStatement_39 rfl (by first | decide | exact bN_lt _ | omega) ?_
          exact va_i ⟨by rw [hh]; rfl, by rw [hh]; exact hC0, fun _ _ => rfl⟩
/-- one more VERDICT -/
def adV (C : Crt) (x : Nat) : Crt := (cn C, kd C, co C, sp C, hg C, vd C ||| 2 ^ x, np C, de C)
def okVd (C : Crt) (x : Nat) : Bool := decide (x < cn C ∧ ¬ kd C x = 4)
theorem okC_adV {C : Crt} (ok : okC C) {x : Nat} (h : okVd C x = true) : okC (adV C x) := by
  obtain ⟨h1, h2⟩ := of_decide_eq_true h
  obtain ⟨o1, o2, o3, o4, o5⟩ := ok
  exact ⟨o1, o2, Nat.or_lt_two_pow o3 (pow_lt h1), o4, o5⟩
theorem c_addVerdict {w : ax_W} {n k : Nat} {C : Crt} (hC : isC w k C) (ok : okC C) {x : Nat} (hx : x < 100) : Run m_X0_addVerdict 2 0 0 0 (l_ent m_X0_addVerdict [.ref k, .int (nI x)]) [] w n (Va (fun v w' => v = .int (nI (bN (okVd C x))) ∧ isC w' k (if okVd C x then adV C x else C) ∧ sameW w w' k 6) n) := by
  have hC0 := hC
  obtain ⟨hK, f1, f2, f3, f4, f5, g1, g2, g3, g4, g5, g6, g7⟩ := hC
  have hn := ok.1
  have hfr : ∀ j, (j < k ∨ k + 6 ≤ j) → w j = w j := fun _ _ => rfl
  refine x_aload_n (pc := 0) dX0_addVerdict_0 rfl ?_
  refine x_iload_n (pc := 1) dX0_addVerdict_1 rfl ?_
  refine x_cv1p (ci := 0) (pc := 2) dX0_addVerdict_2 ks_X0_51 (by assumption) (by rfl) (by omega) (by rfl) (by rfl) (by rfl) (c_isStatement hC0 _) ?_
  rw [inB_n (by omega) (by omega)]
  refine x_if_eq (pc := 5) dX0_addVerdict_5 (tgt := 16) (by decide) (fun h_5 => ?_) (fun h_5 => ?_)
  · skip
    try first | rw [n_b0] at h_5 | rw [n_eq0 (by omega)] at h_5
    simp at h_5
    have hh : okVd C x = false := by simp [okVd]; omega
    refine x_iconst (pc := 16) dX0_addVerdict_16 (v := nI 0) (by decide) ?_
    refine x_zret (pc := 17) dX0_addVerdict_17 rfl (by first | decide | exact bN_lt _ | omega) ?_
    exact va_i ⟨by rw [hh]; rfl, by rw [hh]; exact hC0, fun _ _ => rfl⟩
  · skip
    try first | rw [n_b0] at h_5 | rw [n_eq0 (by omega)] at h_5
    simp at h_5
    refine x_aload_n (pc := 8) dX0_addVerdict_8 rfl ?_
    refine x_iload_n (pc := 9) dX0_addVerdict_9 rfl ?_
    refine x_cv1p (ci := 0) (pc := 10) dX0_addVerdict_10 ks_X0_55 (by assumption) (by rfl) (by omega) (by rfl) (by rfl) (by rfl) (c_isNight hC0 ok _) ?_
    rw [ntB_n ok h_5]
    refine x_if_eq (pc := 13) dX0_addVerdict_13 (tgt := 18) (by decide) (fun h_13 => ?_) (fun h_13 => ?_)
    · skip
      try first | rw [n_b0] at h_13 | rw [n_eq0 (by omega)] at h_13
      simp at h_13
      have hh : okVd C x = true := by simp [okVd]; omega
      refine x_aload_n (pc := 18) dX0_addVerdict_18 rfl ?_
      refine x_dup (pc := 19) dX0_addVerdict_19 rfl ?_
      refine x_getf (pc := 20) dX0_addVerdict_20 kf_X0_31 (by assumption) (by rfl) ?_
      refine x_iload_n (pc := 23) dX0_addVerdict_23 rfl ?_
      refine x_cs1p (pc := 24) dX0_addVerdict_24 ks_X0_58 (by omega) (by rfl) (by rfl) (by rfl) (c_bit (by omega)) ?_
      first | refine xn_ior (pc := 27) dX0_addVerdict_27 ?_ | refine x_ior (pc := 27) dX0_addVerdict_27 ?_
      refine xw_puti (pc := 28) dX0_addVerdict_28 kf_X0_31 (by assumption) (by rfl) (by rfl) rfl rfl (fun w hnew hne => ?_)
      replace hK := hnew
      replace g1 := (hne _ (by omega)).trans g1
      replace g2 := (hne _ (by omega)).trans g2
      replace g3 := (hne _ (by omega)).trans g3
      replace g4 := (hne _ (by omega)).trans g4
      replace g5 := (hne _ (by omega)).trans g5
      replace hfr := fun j (hj : j < k ∨ k + 6 ≤ j) => (hne j (by omega)).trans (hfr j hj)
      clear hne
      refine x_iconst (pc := 31) dX0_addVerdict_31 (v := nI 1) (by decide) ?_
      refine x_zret (pc := 32) dX0_addVerdict_32 rfl (by first | decide | exact bN_lt _ | omega) ?_
      refine va_i ⟨by rw [hh]; rfl, ?_, hfr⟩
      rw [hh, if_pos rfl]
      exact ⟨hK, _, _, _, _, _, g1, g2, g3, g4, g5, g6, g7⟩
    · skip
      try first | rw [n_b0] at h_13 | rw [n_eq0 (by omega)] at h_13
      simp at h_13
      have hh : okVd C x = false := by simp [okVd]; omega
      refine x_iconst (pc := 16) dX0_addVerdict_16 (v := nI 0) (by decide) ?_
      refine x_zret (pc := 17) dX0_addVerdict_17 rfl (by first | decide | exact bN_lt _ | omega) ?_
      exact va_i ⟨by rw [hh]; rfl, by rw [hh]; exact hC0, fun _ _ => rfl⟩
/-- A HANGS ON B -/
def adH (C : Crt) (x y : Nat) : Crt := (cn C, kd C, co C, sp C, fup (hg C) x (hg C x ||| 2 ^ y), vd C, np C, de C)
def okHg (C : Crt) (x y : Nat) : Bool := decide (x < cn C ∧ y < cn C ∧ ¬ x = y ∧ ¬ kd C x = 4)
theorem okC_adH {C : Crt} (ok : okC C) {x y : Nat} (h : okHg C x y = true) : okC (adH C x y) := by
  obtain ⟨h1, h2, h3, h4⟩ := of_decide_eq_true h
  obtain ⟨o1, o2, o3, o4, o5⟩ := ok
  refine ⟨o1, o2, o3, fun a ha => ⟨(o4 a ha).1, (o4 a ha).2.1, (o4 a ha).2.2.1, ?_⟩, o5⟩
  show fup (hg C) x (hg C x ||| 2 ^ y) a < 2 ^ cn C
  by_cases hax : a = x
  · subst hax
    rw [fup_same]
    exact Nat.or_lt_two_pow (o4 a ha).2.2.2 (pow_lt h2)
  · rw [fup_ne _ _ hax]
    exact (o4 a ha).2.2.2
theorem c_addHang {w : ax_W} {n k : Nat} {C : Crt} (hC : isC w k C) (ok : okC C) {x y : Nat} (hx : x < 100) (hy : y < 100) : Run m_X0_addHang 2 0 0 0 (l_ent m_X0_addHang [.ref k, .int (nI x), .int (nI y)]) [] w n (Va (fun v w' => v = .int (nI (bN (okHg C x y))) ∧ isC w' k (if okHg C x y then adH C x y else C) ∧ sameW w w' k 6) n) := by
  have hC0 := hC
  obtain ⟨hK, f1, f2, f3, f4, f5, g1, g2, g3, g4, g5, g6, g7⟩ := hC
  have hn := ok.1
  have hfr : ∀ j, (j < k ∨ k + 6 ≤ j) → w j = w j := fun _ _ => rfl
  refine x_aload_n (pc := 0) dX0_addHang_0 rfl ?_
  refine x_iload_n (pc := 1) dX0_addHang_1 rfl ?_
  refine x_cv1p (ci := 0) (pc := 2) dX0_addHang_2 ks_X0_51 (by assumption) (by rfl) (by omega) (by rfl) (by rfl) (by rfl) (c_isStatement hC0 _) ?_
  rw [inB_n (by omega) (by omega)]
  refine x_if_eq (pc := 5) dX0_addHang_5 (tgt := 29) (by decide) (fun h_5 => ?_) (fun h_5 => ?_)
  · skip
    try first | rw [n_b0] at h_5 | rw [n_eq0 (by omega)] at h_5
    simp at h_5
    have hh : okHg C x y = false := by simp [okHg]; omega
    refine x_iconst (pc := 29) dX0_addHang_29 (v := nI 0) (by decide) ?_
    refine x_zret (pc := 30) dX0_addHang_30 rfl (by first | decide | exact bN_lt _ | omega) ?_
    exact va_i ⟨by rw [hh]; rfl, by rw [hh]; exact hC0, fun _ _ => rfl⟩
  · skip
    try first | rw [n_b0] at h_5 | rw [n_eq0 (by omega)] at h_5
    simp at h_5
    refine x_aload_n (pc := 8) dX0_addHang_8 rfl ?_
    refine x_iload_n (pc := 9) dX0_addHang_9 rfl ?_
    refine x_cv1p (ci := 0) (pc := 10) dX0_addHang_10 ks_X0_51 (by assumption) (by rfl) (by omega) (by rfl) (by rfl) (by rfl) (c_isStatement hC0 _) ?_
    rw [inB_n (by omega) (by omega)]
    refine x_if_eq (pc := 13) dX0_addHang_13 (tgt := 29) (by decide) (fun h_13 => ?_) (fun h_13 => ?_)
    · skip
      try first | rw [n_b0] at h_13 | rw [n_eq0 (by omega)] at h_13
      simp at h_13
      have hh : okHg C x y = false := by simp [okHg]; omega
      refine x_iconst (pc := 29) dX0_addHang_29 (v := nI 0) (by decide) ?_
      refine x_zret (pc := 30) dX0_addHang_30 rfl (by first | decide | exact bN_lt _ | omega) ?_
      exact va_i ⟨by rw [hh]; rfl, by rw [hh]; exact hC0, fun _ _ => rfl⟩
    · skip
      try first | rw [n_b0] at h_13 | rw [n_eq0 (by omega)] at h_13
      simp at h_13
      refine x_iload_n (pc := 16) dX0_addHang_16 rfl ?_
      refine x_iload_n (pc := 17) dX0_addHang_17 rfl ?_
      refine x_icmp_eq (pc := 18) dX0_addHang_18 (tgt := 29) (by decide) (fun h_18 => ?_) (fun h_18 => ?_)
      · skip
        try first | rw [n_b1] at h_18 | rw [n_b00] at h_18 | rw [n_eq (by omega) (by omega)] at h_18
        have hh : okHg C x y = false := by simp [okHg]; omega
        refine x_iconst (pc := 29) dX0_addHang_29 (v := nI 0) (by decide) ?_
        refine x_zret (pc := 30) dX0_addHang_30 rfl (by first | decide | exact bN_lt _ | omega) ?_
        exact va_i ⟨by rw [hh]; rfl, by rw [hh]; exact hC0, fun _ _ => rfl⟩
      · skip
        try first | rw [n_b1] at h_18 | rw [n_b00] at h_18 | rw [n_eq (by omega) (by omega)] at h_18
        refine x_aload_n (pc := 21) dX0_addHang_21 rfl ?_
        refine x_iload_n (pc := 22) dX0_addHang_22 rfl ?_
        refine x_cv1p (ci := 0) (pc := 23) dX0_addHang_23 ks_X0_55 (by assumption) (by rfl) (by omega) (by rfl) (by rfl) (by rfl) (c_isNight hC0 ok _) ?_
        rw [ntB_n ok h_5]
        refine x_if_eq (pc := 26) dX0_addHang_26 (tgt := 31) (by decide) (fun h_26 => ?_) (fun h_26 => ?_)
        · skip
          try first | rw [n_b0] at h_26 | rw [n_eq0 (by omega)] at h_26
          simp at h_26
          have hh : okHg C x y = true := by simp [okHg]; omega
          refine x_aload_n (pc := 31) dX0_addHang_31 rfl ?_
          refine x_getf (pc := 32) dX0_addHang_32 kf_X0_21 (by assumption) (by rfl) ?_
          refine x_iload_n (pc := 35) dX0_addHang_35 rfl ?_
          refine x_aload_n (pc := 36) dX0_addHang_36 rfl ?_
          refine x_getf (pc := 37) dX0_addHang_37 kf_X0_21 (by assumption) (by rfl) ?_
          refine x_iload_n (pc := 40) dX0_addHang_40 rfl ?_
          refine x_cs2p (pc := 41) dX0_addHang_41 ks_X0_62 (by omega) (by rfl) (by rfl) (by rfl) (c_at (by assumption) (by omega) (by omega)) ?_
          rw [(g6 x h_5).2.2.2]
          refine x_iload_n (pc := 44) dX0_addHang_44 rfl ?_
          refine x_cs1p (pc := 45) dX0_addHang_45 ks_X0_58 (by omega) (by rfl) (by rfl) (by rfl) (c_bit (by omega)) ?_
          first | refine xn_ior (pc := 48) dX0_addHang_48 ?_ | refine x_ior (pc := 48) dX0_addHang_48 ?_
          refine x_cs3 (q1 := 0) (q2 := 0) (pc := 49) dX0_addHang_49 ks_X0_47 (by omega) (by rfl) (by rfl) (by rfl) (c_put (by assumption) (by omega) (by omega)) (vo_kk fun w hP => ?_)
          obtain ⟨hnew, hne⟩ := hP
          replace hK := (hne _ (by omega)).trans hK
          replace g1 := (hne _ (by omega)).trans g1
          replace g2 := (hne _ (by omega)).trans g2
          replace g3 := (hne _ (by omega)).trans g3
          replace g4 := hnew
          replace g5 := (hne _ (by omega)).trans g5
          replace hfr := fun j (hj : j < k ∨ k + 6 ≤ j) => (hne j (by omega)).trans (hfr j hj)
          clear hne
          refine x_iconst (pc := 52) dX0_addHang_52 (v := nI 1) (by decide) ?_
          refine x_zret (pc := 53) dX0_addHang_53 rfl (by first | decide | exact bN_lt _ | omega) ?_
          refine va_i ⟨by rw [hh]; rfl, ?_, hfr⟩
          rw [hh, if_pos rfl]
          refine ⟨hK, _, _, _, _, _, g1, g2, g3, g4, g5, fun a ha => ⟨(g6 a ha).1, (g6 a ha).2.1, (g6 a ha).2.2.1, ?_⟩, g7⟩
          show upd f4 x (nI (hg C x ||| 2 ^ y)) a = nI (fup (hg C) x (hg C x ||| 2 ^ y) a)
          by_cases hax : a = x
          · subst hax
            rw [fup_same, upd_same]
          · rw [fup_ne _ _ hax, upd_ne _ _ hax]
            exact (g6 a ha).2.2.2
        · skip
          try first | rw [n_b0] at h_26 | rw [n_eq0 (by omega)] at h_26
          simp at h_26
          have hh : okHg C x y = false := by simp [okHg]; omega
          refine x_iconst (pc := 29) dX0_addHang_29 (v := nI 0) (by decide) ?_
          refine x_zret (pc := 30) dX0_addHang_30 rfl (by first | decide | exact bN_lt _ | omega) ?_
          exact va_i ⟨by rw [hh]; rfl, by rw [hh]; exact hC0, fun _ _ => rfl⟩
/-- one more PERSON -/
def adP (C : Crt) (x y : Nat) : Crt := (cn C, kd C, co C, sp C, hg C, vd C, np C + 1, fup (de C) (np C) (2 ^ x ||| 2 ^ y))
def okPn (C : Crt) (x y : Nat) : Bool := decide (np C < 5 ∧ x < cn C ∧ kd C x = 4 ∧ y < cn C ∧ kd C y = 4)
theorem okC_adP {C : Crt} (ok : okC C) {x y : Nat} (h : okPn C x y = true) : okC (adP C x y) := by
  obtain ⟨h1, h2, h3, h4, h5⟩ := of_decide_eq_true h
  obtain ⟨o1, o2, o3, o4, o5⟩ := ok
  refine ⟨o1, ?_, o3, o4, fun p hp => ?_⟩
  · show np C + 1 ≤ 5
    omega
  · have hp : p < np C + 1 := hp
    show fup (de C) (np C) (2 ^ x ||| 2 ^ y) p < 2 ^ cn C
    by_cases hpp : p = np C
    · subst hpp
      rw [fup_same]
      exact Nat.or_lt_two_pow (pow_lt h2) (pow_lt h4)
    · rw [fup_ne _ _ hpp]
      exact o5 p (by omega)
theorem ntB_nat {C : Crt} (ok : okC C) {x : Nat} (hx : x < 100) : ntB C (nI x) = decide (x < cn C ∧ kd C x = 4) := by
  have := ok.1
  unfold ntB
  rw [inB_n (by omega) (by omega), n_cl (by omega)]
  simp
theorem c_addPerson {w : ax_W} {n k : Nat} {C : Crt} (hC : isC w k C) (ok : okC C) {x y : Nat} (hx : x < 100) (hy : y < 100) : Run m_X0_addPerson 2 0 0 0 (l_ent m_X0_addPerson [.ref k, .int (nI x), .int (nI y)]) [] w n (Va (fun v w' => v = .int (nI (bN (okPn C x y))) ∧ isC w' k (if okPn C x y then adP C x y else C) ∧ sameW w w' k 6) n) := by
  have hC0 := hC
  obtain ⟨hK, f1, f2, f3, f4, f5, g1, g2, g3, g4, g5, g6, g7⟩ := hC
  have hn := ok.1
  have hp5 := ok.2.1
  have hfr : ∀ j, (j < k ∨ k + 6 ≤ j) → w j = w j := fun _ _ => rfl
  refine x_aload_n (pc := 0) dX0_addPerson_0 rfl ?_
  refine x_getf (pc := 1) dX0_addPerson_1 kf_X0_34 (by assumption) (by rfl) ?_
  refine x_iconst (pc := 4) dX0_addPerson_4 (v := nI 5) (by decide) ?_
  refine x_icmp_ge (pc := 5) dX0_addPerson_5 (tgt := 24) (by decide) (fun h_5 => ?_) (fun h_5 => ?_)
  · skip
    try first | rw [n_b1] at h_5 | rw [n_b00] at h_5 | rw [n_le (by omega) (by omega)] at h_5
    have hh : okPn C x y = false := by simp [okPn]; omega
    refine x_iconst (pc := 24) dX0_addPerson_24 (v := nI 0) (by decide) ?_
    refine x_zret (pc := 25) dX0_addPerson_25 rfl (by first | decide | exact bN_lt _ | omega) ?_
    exact va_i ⟨by rw [hh]; rfl, by rw [hh]; exact hC0, fun _ _ => rfl⟩
  · skip
    try first | rw [n_b1] at h_5 | rw [n_b00] at h_5 | rw [n_le (by omega) (by omega)] at h_5
    refine x_aload_n (pc := 8) dX0_addPerson_8 rfl ?_
    refine x_iload_n (pc := 9) dX0_addPerson_9 rfl ?_
    refine x_cv1p (ci := 0) (pc := 10) dX0_addPerson_10 ks_X0_55 (by assumption) (by rfl) (by omega) (by rfl) (by rfl) (by rfl) (c_isNight hC0 ok _) ?_
    rw [ntB_nat ok hx]
    refine x_if_eq (pc := 13) dX0_addPerson_13 (tgt := 24) (by decide) (fun h_13 => ?_) (fun h_13 => ?_)
    · skip
      try first | rw [n_b0] at h_13 | rw [n_eq0 (by omega)] at h_13
      simp at h_13
      have hh : okPn C x y = false := by simp [okPn]; omega
      refine x_iconst (pc := 24) dX0_addPerson_24 (v := nI 0) (by decide) ?_
      refine x_zret (pc := 25) dX0_addPerson_25 rfl (by first | decide | exact bN_lt _ | omega) ?_
      exact va_i ⟨by rw [hh]; rfl, by rw [hh]; exact hC0, fun _ _ => rfl⟩
    · skip
      try first | rw [n_b0] at h_13 | rw [n_eq0 (by omega)] at h_13
      simp at h_13
      refine x_aload_n (pc := 16) dX0_addPerson_16 rfl ?_
      refine x_iload_n (pc := 17) dX0_addPerson_17 rfl ?_
      refine x_cv1p (ci := 0) (pc := 18) dX0_addPerson_18 ks_X0_55 (by assumption) (by rfl) (by omega) (by rfl) (by rfl) (by rfl) (c_isNight hC0 ok _) ?_
      rw [ntB_nat ok hy]
      refine x_if_ne (pc := 21) dX0_addPerson_21 (tgt := 26) (by decide) (fun h_21 => ?_) (fun h_21 => ?_)
      · skip
        try first | rw [n_b0] at h_21 | rw [n_eq0 (by omega)] at h_21
        simp at h_21
        have hh : okPn C x y = true := by simp [okPn]; omega
        refine x_aload_n (pc := 26) dX0_addPerson_26 rfl ?_
        refine x_getf (pc := 27) dX0_addPerson_27 kf_X0_24 (by assumption) (by rfl) ?_
        refine x_aload_n (pc := 30) dX0_addPerson_30 rfl ?_
        refine x_getf (pc := 31) dX0_addPerson_31 kf_X0_34 (by assumption) (by rfl) ?_
        refine x_iload_n (pc := 34) dX0_addPerson_34 rfl ?_
        refine x_cs1p (pc := 35) dX0_addPerson_35 ks_X0_58 (by omega) (by rfl) (by rfl) (by rfl) (c_bit (by omega)) ?_
        refine x_iload_n (pc := 38) dX0_addPerson_38 rfl ?_
        refine x_cs1p (pc := 39) dX0_addPerson_39 ks_X0_58 (by omega) (by rfl) (by rfl) (by rfl) (c_bit (by omega)) ?_
        first | refine xn_ior (pc := 42) dX0_addPerson_42 ?_ | refine x_ior (pc := 42) dX0_addPerson_42 ?_
        refine x_cs3 (q1 := 0) (q2 := 0) (pc := 43) dX0_addPerson_43 ks_X0_47 (by omega) (by rfl) (by rfl) (by rfl) (c_put (by assumption) (by omega) (by omega)) (vo_kk fun w hP => ?_)
        obtain ⟨hnew, hne⟩ := hP
        replace hK := (hne _ (by omega)).trans hK
        replace g1 := (hne _ (by omega)).trans g1
        replace g2 := (hne _ (by omega)).trans g2
        replace g3 := (hne _ (by omega)).trans g3
        replace g4 := (hne _ (by omega)).trans g4
        replace g5 := hnew
        replace hfr := fun j (hj : j < k ∨ k + 6 ≤ j) => (hne j (by omega)).trans (hfr j hj)
        clear hne
        refine x_aload_n (pc := 46) dX0_addPerson_46 rfl ?_
        refine x_dup (pc := 47) dX0_addPerson_47 rfl ?_
        refine x_getf (pc := 48) dX0_addPerson_48 kf_X0_34 (by assumption) (by rfl) ?_
        refine x_iconst (pc := 51) dX0_addPerson_51 (v := nI 1) (by decide) ?_
        first | refine xn_iadd (pc := 52) dX0_addPerson_52 ?_ | refine x_iadd (pc := 52) dX0_addPerson_52 ?_
        refine xw_puti (pc := 53) dX0_addPerson_53 kf_X0_34 (by assumption) (by rfl) (by rfl) rfl rfl (fun w hnew hne => ?_)
        replace hK := hnew
        replace g1 := (hne _ (by omega)).trans g1
        replace g2 := (hne _ (by omega)).trans g2
        replace g3 := (hne _ (by omega)).trans g3
        replace g4 := (hne _ (by omega)).trans g4
        replace g5 := (hne _ (by omega)).trans g5
        replace hfr := fun j (hj : j < k ∨ k + 6 ≤ j) => (hne j (by omega)).trans (hfr j hj)
        clear hne
        refine x_iconst (pc := 56) dX0_addPerson_56 (v := nI 1) (by decide) ?_
        refine x_zret (pc := 57) dX0_addPerson_57 rfl (by first | decide | exact bN_lt _ | omega) ?_
        refine va_i ⟨by rw [hh]; rfl, ?_, hfr⟩
        rw [hh, if_pos rfl]
        refine ⟨hK, _, _, _, _, _, g1, g2, g3, g4, g5, g6, fun p hp => ?_⟩
        have hp : p < np C + 1 := hp
        show upd f5 (np C) (nI (2 ^ x ||| 2 ^ y)) p = nI (fup (de C) (np C) (2 ^ x ||| 2 ^ y) p)
        by_cases hpp : p = np C
        · subst hpp
          rw [fup_same, upd_same]
        · rw [fup_ne _ _ hpp, upd_ne _ _ hpp]
          exact g7 p (by omega)
      · replace h_21 := Classical.not_not.mp h_21
        try first | rw [n_b0] at h_21 | rw [n_eq0 (by omega)] at h_21
        simp at h_21
        have hh : okPn C x y = false := by simp [okPn]; omega
        refine x_iconst (pc := 24) dX0_addPerson_24 (v := nI 0) (by decide) ?_
        refine x_zret (pc := 25) dX0_addPerson_25 rfl (by first | decide | exact bN_lt _ | omega) ?_
        exact va_i ⟨by rw [hh]; rfl, by rw [hh]; exact hC0, fun _ _ => rfl⟩
/-- what can come behind 'last' in a row of the STATEMENTS 'ch', with 'sk' STRUCK OUT -/
def opn (C : Crt) (last ch sk : Nat) : Nat := nd (nd (hg C last) ch) sk
theorem opn_lt {C : Crt} (ok : okC C) {last ch sk : Nat} (h : last < cn C) : opn C last ch sk < 2 ^ cn C := nd_lt (nd_lt (ok.2.2.2.1 last h).2.2.2)
theorem opn_1024 {C : Crt} (ok : okC C) {last ch sk : Nat} (h : last < cn C) : opn C last ch sk < 1024 := nd_lt (nd_lt (ok.hg h))
theorem opn_bit {C : Crt} (ok : okC C) {last ch sk : Nat} (h : last < cn C) (a : Nat) : (opn C last ch sk).testBit a = ((hg C last).testBit a && !ch.testBit a && !sk.testBit a) := by
  have := ok.hg h
  unfold opn
  rw [nd_bit (nd_lt (by omega)), nd_bit (by omega)]
theorem c_openBehind {w : ax_W} {n k : Nat} {C : Crt} (hC : isC w k C) (ok : okC C) {last ch sk : Nat} (hl : last < cn C) : Run m_X6_openBehind 1 0 0 0 (l_ent m_X6_openBehind [.ref k, .int (nI last), .int (nI ch), .int (nI sk)]) [] w n (Pu (.int (nI (opn C last ch sk))) w n) := by
  obtain ⟨hK, f1, f2, f3, f4, f5, g1, g2, g3, g4, g5, g6, g7⟩ := hC
  have hn := ok.1
  refine x_aload_n (pc := 0) dX6_openBehind_0 rfl ?_
  refine x_getf (pc := 1) dX6_openBehind_1 kf_X6_123 (by assumption) (by rfl) ?_
  refine x_iload_n (pc := 4) dX6_openBehind_4 rfl ?_
  refine x_cs2p (pc := 5) dX6_openBehind_5 ks_X6_106 (by omega) (by rfl) (by rfl) (by rfl) (c_at (by assumption) (by omega) (by omega)) ?_
  rw [(g6 _ hl).2.2.2]
  refine x_iload_n (pc := 8) dX6_openBehind_8 rfl ?_
  refine x_iconst (pc := 9) dX6_openBehind_9 (v := nI 4294967295) (by decide) ?_
  first | refine xn_ixor (pc := 10) dX6_openBehind_10 ?_ | refine x_ixor (pc := 10) dX6_openBehind_10 ?_
  first | refine xn_bit (pc := 11) dX6_openBehind_11 ?_ | refine xn_nd (pc := 11) dX6_openBehind_11 ?_ | refine xn_iand (pc := 11) dX6_openBehind_11 ?_ | refine x_iand (pc := 11) dX6_openBehind_11 ?_
  refine x_iload_n (pc := 12) dX6_openBehind_12 rfl ?_
  refine x_iconst (pc := 13) dX6_openBehind_13 (v := nI 4294967295) (by decide) ?_
  first | refine xn_ixor (pc := 14) dX6_openBehind_14 ?_ | refine x_ixor (pc := 14) dX6_openBehind_14 ?_
  first | refine xn_bit (pc := 15) dX6_openBehind_15 ?_ | refine xn_nd (pc := 15) dX6_openBehind_15 ?_ | refine xn_iand (pc := 15) dX6_openBehind_15 ?_ | refine x_iand (pc := 15) dX6_openBehind_15 ?_
  refine x_iret (pc := 16) dX6_openBehind_16 rfl rfl ?_
  exact pu_n rfl
