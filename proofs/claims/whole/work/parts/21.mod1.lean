/-! the reference: its state, its text, its reader -/
abbrev om (ty at_ so un ke rl : Int32) : ax_C := ao 7 [.ref 52, .int ty, .ref 53, .ref 54, .ref 55, .ref 56, .ref 57, .ref 58, .ref 59, .ref 60, .int at_, .int so, .ref 61, .int un, .int ke, .ref 62, .ref 63, .ref 64, .ref 65, .ref 66, .ref 67, .ref 68, .ref 69, .ref 70, .ref 71, .int rl]
def crL (C : Crt) (fm fk fc fs fh fv fp fd : Nat → Int32) (z : Nat) : Prop := fm z = nI (cn C) ∧ fv z = nI (vd C) ∧ fp z = nI (np C) ∧ (∀ a, a < cn C → fk (10 * z + a) = nI (kd C a) ∧ fc (10 * z + a) = nI (co C a) ∧ fs (10 * z + a) = nI (sp C a) ∧ fh (10 * z + a) = nI (hg C a)) ∧ ∀ p, p < np C → fd (5 * z + p) = nI (de C p)
/-- the court laid and the draft -/
def mC (w : ax_W) (C D : Crt) : Prop := ∃ fm fk fc fs fh fv fp fd : Nat → Int32, w 53 = ai 2 fm ∧ w 54 = ai 20 fk ∧ w 55 = ai 20 fc ∧ w 56 = ai 20 fs ∧ w 57 = ai 20 fh ∧ w 58 = ai 2 fv ∧ w 59 = ai 2 fp ∧ w 60 = ai 10 fd ∧ crL C fm fk fc fs fh fv fp fd 0 ∧ crL D fm fk fc fs fh fv fp fd 1
theorem mC.go {w w' : ax_W} {C D : Crt} (h : mC w C D) (hq : ∀ j, 53 ≤ j → j < 61 → w' j = w j) : mC w' C D := by
  obtain ⟨fm, fk, fc, fs, fh, fv, fp, fd, h1, h2, h3, h4, h5, h6, h7, h8, h9⟩ := h
  exact ⟨fm, fk, fc, fs, fh, fv, fp, fd, by rw [hq _ (by omega) (by omega)]; exact h1, by rw [hq _ (by omega) (by omega)]; exact h2, by rw [hq _ (by omega) (by omega)]; exact h3, by rw [hq _ (by omega) (by omega)]; exact h4, by rw [hq _ (by omega) (by omega)]; exact h5, by rw [hq _ (by omega) (by omega)]; exact h6, by rw [hq _ (by omega) (by omega)]; exact h7, by rw [hq _ (by omega) (by omega)]; exact h8, h9⟩
def mT (w : ax_W) (T : List Nat) : Prop := ∃ f : Nat → Int32, w 52 = ab 200 f ∧ ∀ i, i < T.length → f i = nI (T.getD i 0)
theorem mT.go {w w' : ax_W} {T : List Nat} (h : mT w T) (hq : ∀ j, 52 ≤ j → j < 53 → w' j = w j) : mT w' T := by
  obtain ⟨f, h1, h2⟩ := h
  exact ⟨f, by rw [hq _ (by omega) (by omega)]; exact h1, h2⟩
def reH (f : Nat → Int32) (k : Nat) (h : Hrg) : Prop := f k = nI h.1.length ∧ f (k + 1) = nI h.2 ∧ ∀ i, i < h.1.length → f (k + 2 + i) = nI (h.1.getD i 0)
/-- the trial, the undone ones, the kept ones -/
def mN (w : ax_W) (h : Hrg) (L K : List Hrg) : Prop := ∃ f : Nat → Int32, w 61 = ai 132 f ∧ reH f 0 h ∧ (∀ u, u < L.length → reH f (12 + 12 * u) (L.getD u noH)) ∧ ∀ u, u < K.length → reH f (108 + 12 * u) (K.getD u noH)
theorem mN.go {w w' : ax_W} {h : Hrg} {L K : List Hrg} (hn : mN w h L K) (hq : ∀ j, 61 ≤ j → j < 62 → w' j = w j) : mN w' h L K := by
  obtain ⟨f, h1, h2⟩ := hn
  exact ⟨f, by rw [hq _ (by omega) (by omega)]; exact h1, h2⟩
/-- the tables -/
def mD (w : ax_W) : Prop := (∀ i, i < 9 → ∃ f : Nat → Int32, w (62 + i) = ai 10240 f) ∧ ∃ f : Nat → Int32, w 71 = ai 10 f
theorem mD.go {w w' : ax_W} (hn : mD w) (hq : ∀ j, 62 ≤ j → j < 72 → w' j = w j) : mD w' := by
  obtain ⟨h1, f, h2⟩ := hn
  refine ⟨fun i hi => ?_, f, by rw [hq _ (by omega) (by omega)]; exact h2⟩
  obtain ⟨g, hg⟩ := h1 i hi
  exact ⟨g, by rw [hq _ (by omega) (by omega)]; exact hg⟩
def isM (w : ax_W) (T : List Nat) (C : Crt) (h : Hrg) (L K : List Hrg) : Prop := ∃ (at_ so : Nat) (rl : Int32) (D : Crt), so < 2 ∧ L.length ≤ 8 ∧ K.length ≤ 2 ∧ w 51 = om (nI T.length) (nI at_) (nI so) (nI L.length) (nI K.length) rl ∧ mT w T ∧ mC w C D ∧ mN w h L K ∧ mD w
abbrev same50 (w w' : ax_W) : Prop := ∀ j, j < 51 → w' j = w j
theorem isM.go {w w' : ax_W} {T : List Nat} {C : Crt} {h : Hrg} {L K : List Hrg} (hm : isM w T C h L K) (hq : ∀ j, 51 ≤ j → w' j = w j) : isM w' T C h L K := by
  obtain ⟨a, s, r, D, h1, h2, h3, h4, h5, h6, h7, h8⟩ := hm
  exact ⟨a, s, r, D, h1, h2, h3, (hq _ (by omega)).trans h4, h5.go fun j _ _ => hq j (by omega), h6.go fun j _ _ => hq j (by omega), h7.go fun j _ _ => hq j (by omega), h8.go fun j _ _ => hq j (by omega)⟩
abbrev PM (r : Int32) (T : List Nat) (C : Crt) (h : Hrg) (L K : List Hrg) (w : ax_W) (n : Nat) : Option Value → ax_W → Nat → Prop := Va (fun v w' => v = .int r ∧ isM w' T C h L K ∧ same50 w w') n
def inI (x y z : Int32) : Bool := decide (¬ x < y ∧ ¬ z < x)
theorem c_in {w : ax_W} {n : Nat} (x y z : Int32) : Run m_X7_in 0 0 0 0 (l_ent m_X7_in [.int x, .int y, .int z]) [] w n (Pu (.int (nI (bN (inI x y z)))) w n) := by
  refine x_iload_n (pc := 0) dX7_in_0 rfl ?_
  refine x_iload_n (pc := 1) dX7_in_1 rfl ?_
  refine x_icmp_lt (pc := 2) dX7_in_2 (tgt := 14) (by decide) (fun h_2 => ?_) (fun h_2 => ?_)
  · skip
    try first | rw [n_b1] at h_2 | rw [n_b00] at h_2 | rw [n_lt (by omega) (by omega)] at h_2
    have e : inI x y z = false := by unfold inI; simp [h_2]
    refine x_iconst (pc := 14) dX7_in_14 (v := nI 0) (by decide) ?_
    refine x_zret (pc := 15) dX7_in_15 rfl (by first | decide | exact bN_lt _ | omega) ?_
    exact pu_n (by rw [e]; rfl)
  · skip
    try first | rw [n_b1] at h_2 | rw [n_b00] at h_2 | rw [n_lt (by omega) (by omega)] at h_2
    refine x_iload_n (pc := 5) dX7_in_5 rfl ?_
    refine x_iload_n (pc := 6) dX7_in_6 rfl ?_
    refine x_icmp_gt (pc := 7) dX7_in_7 (tgt := 14) (by decide) (fun h_7 => ?_) (fun h_7 => ?_)
    · skip
      try first | rw [n_b1] at h_7 | rw [n_b00] at h_7 | rw [n_lt (by omega) (by omega)] at h_7
      have e : inI x y z = false := by unfold inI; simp [h_7]
      refine x_iconst (pc := 14) dX7_in_14 (v := nI 0) (by decide) ?_
      refine x_zret (pc := 15) dX7_in_15 rfl (by first | decide | exact bN_lt _ | omega) ?_
      exact pu_n (by rw [e]; rfl)
    · skip
      try first | rw [n_b1] at h_7 | rw [n_b00] at h_7 | rw [n_lt (by omega) (by omega)] at h_7
      have e : inI x y z = true := by unfold inI; simp only [decide_eq_true_eq]; exact ⟨h_2, h_7⟩
      refine x_iconst (pc := 10) dX7_in_10 (v := nI 1) (by decide) ?_
      refine x_goto (pc := 11) dX7_in_11 (tgt := 15) (by decide) ?_
      refine x_zret (pc := 15) dX7_in_15 rfl (by first | decide | exact bN_lt _ | omega) ?_
      exact pu_n (by rw [e]; rfl)
theorem inI_r (x : Int32) {N : Nat} (hN : N < 2147483647) : inI x (nI 0) (nI N) = inB x (N + 1) := by
  have h := out_n x hN
  have e : inI x (nI 0) (nI N) = !decide (x < nI 0 ∨ nI N < x) := by
    unfold inI
    rw [← decide_not]
    exact decide_eq_decide.mpr not_or.symm
  rw [e, h, Bool.not_not]
theorem inI_y (y : Int32) : inI y (nI 0) (nI 1) = y01 y := by
  have e : inI y (nI 0) (nI 1) = !decide (y < nI 0 ∨ nI 1 < y) := by
    unfold inI
    rw [← decide_not]
    exact decide_eq_decide.mpr not_or.symm
  rw [e, y01_out, Bool.not_not]
theorem b_i2b : ∀ c, c < 128 → (nI c).toInt8.toInt32 = nI c := by decide +kernel
theorem m_sub1 {N : Nat} (hN : N < 2 ^ 30) : (nI N - nI 1).toInt = (N : Int) - 1 := pk_sub_toInt hN (by decide)
theorem inI_m (x : Int32) {N : Nat} (hN : N < 2 ^ 30) : inI x (nI 0) (nI N - nI 1) = inB x N := by
  unfold inB inI
  refine decide_eq_decide.mpr ?_
  have e0 : (nI 0).toInt = 0 := by decide +kernel
  have e2 : ((0 : Int32)).toInt = 0 := by decide +kernel
  have e1 : (nI N).toInt = N := nI_toInt (by omega)
  rw [Int32.lt_iff_toInt_lt, Int32.lt_iff_toInt_lt, Int32.lt_iff_toInt_lt, Int32.lt_iff_toInt_lt, e0, e1, e2, m_sub1 hN]
  omega
theorem m_write {w : ax_W} {n : Nat} {T : List Nat} {C : Crt} {h : Hrg} {L K : List Hrg} (hm : isM w T C h L K) (okt : okT T) (x : Int32) : Run m_X7_write 1 0 0 0 (l_ent m_X7_write [.ref 51, .int x]) [] w n (PM (wrS T x).1 (wrS T x).2 C h L K w n) := by
  have hm0 := hm
  have hl := okt.1
  obtain ⟨a, s, r, D, h1, h2, h3, hK, ⟨f, ht, hf⟩, h6, h7, h8⟩ := hm
  have hfr : ∀ j, j < 51 → w j = w j := fun _ _ => rfl
  refine x_iload_n (pc := 0) dX7_write_0 rfl ?_
  refine x_bipush (pc := 1) dX7_write_1 (v := nI 32) (by decide) ?_
  refine x_bipush (pc := 3) dX7_write_3 (v := nI 126) (by decide) ?_
  refine x_cs3p (pc := 5) dX7_write_5 ks_X7_82 (by omega) (by rfl) (by rfl) (by rfl) (c_in _ _ _) ?_
  refine x_if_ne (pc := 8) dX7_write_8 (tgt := 13) (by decide) (fun h_8 => ?_) (fun h_8 => ?_)
  · skip
    try first | rw [n_b0] at h_8 | rw [n_eq0 (by omega)] at h_8
    simp only [inI, Bool.not_eq_false, decide_eq_true_eq] at h_8
    have h8' : ¬ (x < nI 32 ∨ nI 126 < x) := fun q => q.elim h_8.1 h_8.2
    obtain ⟨c, hc, rfl⟩ : ∃ c : Nat, c < 127 ∧ x = nI c := by
      obtain ⟨c, hc, rfl⟩ := nI_of (x := x) (by intro q; exact h_8.1 (Int32.lt_trans q (by decide +kernel)))
      have h2 := h_8.2
      exact ⟨c, by rw [n_lt (by omega) (by omega)] at h2; omega, rfl⟩
    have hcl : (nI c).toNatClampNeg = c := n_cl (by omega)
    refine x_aload_n (pc := 13) dX7_write_13 rfl ?_
    refine x_getf (pc := 14) dX7_write_14 kf_X7_86 (by first | assumption | exact hC.1 | exact hH.1 | exact hV0.1 | exact hT.1) (by rfl) ?_
    refine x_sipush (pc := 17) dX7_write_17 (v := nI 200) (by decide) ?_
    refine x_icmp_ne (pc := 20) dX7_write_20 (tgt := 26) (by decide) (fun h_20 => ?_) (fun h_20 => ?_)
    · skip
      try first | rw [n_b1] at h_20 | rw [n_b00] at h_20 | rw [n_eq (by omega) (by omega)] at h_20
      have e : wrS T (nI c) = (nI (T.length + 1), T ++ [c]) := by rw [wrS, if_neg h8', if_pos (by omega), hcl]
      refine x_aload_n (pc := 26) dX7_write_26 rfl ?_
      refine x_getf (pc := 27) dX7_write_27 kf_X7_7 (by first | assumption | exact hC.1 | exact hH.1 | exact hV0.1 | exact hT.1) (by rfl) ?_
      refine x_aload_n (pc := 30) dX7_write_30 rfl ?_
      refine x_getf (pc := 31) dX7_write_31 kf_X7_86 (by first | assumption | exact hC.1 | exact hH.1 | exact hV0.1 | exact hT.1) (by rfl) ?_
      refine x_iload_n (pc := 34) dX7_write_34 rfl ?_
      refine x_i2b (pc := 35) dX7_write_35 ?_
      refine Run.top (v' := .int (nI c)) (by rw [b_i2b c (by omega)]) ?_
      refine xw_bast (pc := 36) dX7_write_36 ht (by first | omega | assumption) (by rfl) (by omega) (fun w hnew hne => ?_)
      replace hK := (hne _ (by omega)).trans hK
      replace ht := hnew
      replace h6 := h6.go fun j q1 q2 => hne j (by omega)
      replace h7 := h7.go fun j q1 q2 => hne j (by omega)
      replace h8 := h8.go fun j q1 q2 => hne j (by omega)
      replace hfr := fun j (hj : j < 51) => (hne j (by omega)).trans (hfr j hj)
      clear hne
      refine x_aload_n (pc := 37) dX7_write_37 rfl ?_
      refine x_dup (pc := 38) dX7_write_38 rfl ?_
      refine x_getf (pc := 39) dX7_write_39 kf_X7_86 (by first | assumption | exact hC.1 | exact hH.1 | exact hV0.1 | exact hT.1) (by rfl) ?_
      refine x_iconst (pc := 42) dX7_write_42 (v := nI 1) (by decide) ?_
      first | refine xn_iadd (pc := 43) dX7_write_43 ?_ | refine x_iadd (pc := 43) dX7_write_43 ?_
      refine xw_puti (pc := 44) dX7_write_44 kf_X7_86 (by assumption) (by rfl) (by rfl) rfl rfl (fun w hnew hne => ?_)
      replace hK := hnew
      replace ht := (hne _ (by omega)).trans ht
      replace h6 := h6.go fun j q1 q2 => hne j (by omega)
      replace h7 := h7.go fun j q1 q2 => hne j (by omega)
      replace h8 := h8.go fun j q1 q2 => hne j (by omega)
      replace hfr := fun j (hj : j < 51) => (hne j (by omega)).trans (hfr j hj)
      clear hne
      have ht2 : ∀ i, i < (T ++ [c]).length → upd f T.length (nI c) i = nI ((T ++ [c]).getD i 0) := by
        intro i hi
        rw [List.length_append, List.length_singleton] at hi
        by_cases q : i = T.length
        · subst q; rw [upd_same, getD_last]
        · rw [upd_ne _ _ q, getD_app (by omega)]; exact hf i (by omega)
      refine x_aload_n (pc := 47) dX7_write_47 rfl ?_
      refine x_getf (pc := 48) dX7_write_48 kf_X7_86 (by first | assumption | exact hC.1 | exact hH.1 | exact hV0.1 | exact hT.1) (by rfl) ?_
      refine x_iret (pc := 51) dX7_write_51 rfl rfl ?_
      exact va_i ⟨by rw [e], by rw [e]; exact ⟨a, s, r, D, h1, h2, h3, by rw [List.length_append, List.length_singleton]; exact hK, ⟨_, ht, ht2⟩, h6, h7, h8⟩, hfr⟩
    · replace h_20 := Classical.not_not.mp h_20
      try first | rw [n_b1] at h_20 | rw [n_b00] at h_20 | rw [n_eq (by omega) (by omega)] at h_20
      have e : wrS T (nI c) = (-3, T) := by rw [wrS, if_neg h8', if_neg (by omega)]
      refine x_bipush (pc := 23) dX7_write_23 (v := -3) (by decide) ?_
      refine x_iret (pc := 25) dX7_write_25 rfl rfl ?_
      exact va_i ⟨by rw [e], by rw [e]; exact hm0, fun _ _ => rfl⟩
  · replace h_8 := Classical.not_not.mp h_8
    try first | rw [n_b0] at h_8 | rw [n_eq0 (by omega)] at h_8
    simp only [inI, decide_eq_false_iff_not] at h_8
    have e : wrS T x = (-1, T) := by rw [wrS, if_pos (Classical.byContradiction fun q => h_8 ⟨fun z => q (Or.inl z), fun z => q (Or.inr z)⟩)]
    refine x_iconst (pc := 11) dX7_write_11 (v := -1) (by decide) ?_
    refine x_iret (pc := 12) dX7_write_12 rfl rfl ?_
    exact va_i ⟨by rw [e], by rw [e]; exact hm0, fun _ _ => rfl⟩
