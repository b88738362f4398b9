/-! a survey's outcome doesn't hang on what it held before -/
def zeV : Srv := (0, 0, 0, fun _ => 0, 0, 0, 0, 0, fun _ => 0)
def eqV (s t : Srv) : Prop := v_fo s = v_fo t ∧ v_en s = v_en t ∧ v_cm s = v_cm t ∧ v_td s = v_td t ∧ (0 < v_fo s → v_bc s = v_bc t ∧ v_bl s = v_bl t ∧ v_br s = v_br t ∧ v_fe s = v_fe t) ∧ ∀ a, (v_en s).testBit a = true → v_le s a = v_le t a
theorem eqV_note {C : Crt} {s t : Srv} (h : eqV s t) (row : Nat → Nat) (L : Nat) : eqV (noteS C s row L) (noteS C t row L) := by
  obtain ⟨h1, h2, h3, h4, h5, h6⟩ := h
  have hb : nbB C s row L = nbB C t row L := by
    unfold nbB
    refine decide_eq_decide.mpr ?_
    by_cases h0 : v_fo s = 0
    · rw [← h1]; exact ⟨fun _ => Or.inl h0, fun _ => Or.inl h0⟩
    · obtain ⟨a, b, -⟩ := h5 (by omega)
      rw [← h1, a, b]
  refine ⟨by show v_fo s + 1 = v_fo t + 1; omega, by show v_en s ||| _ = v_en t ||| _; rw [h2], ?_, by show v_td s ||| _ = v_td t ||| _; rw [h4], fun _ => ⟨?_, ?_, ?_, ?_⟩, fun a ha => ?_⟩
  · show (if v_fo s = 0 then _ else v_cm s &&& _) = (if v_fo t = 0 then _ else v_cm t &&& _)
    rw [h1, h3]
  · show (if nbB C s row L then _ else v_bc s) = (if nbB C t row L then _ else v_bc t)
    rw [hb]
    split
    · rfl
    · next q =>
      have h0 : ¬ v_fo s = 0 := fun z => q (hb ▸ decide_eq_true (Or.inl z))
      exact (h5 (by omega)).1
  · show (if nbB C s row L then _ else v_bl s) = (if nbB C t row L then _ else v_bl t)
    rw [hb]
    split
    · rfl
    · next q =>
      have h0 : ¬ v_fo s = 0 := fun z => q (hb ▸ decide_eq_true (Or.inl z))
      exact (h5 (by omega)).2.1
  · show (if nbB C s row L then _ else v_br s) = (if nbB C t row L then _ else v_br t)
    rw [hb]
    split
    · rfl
    · next q =>
      have h0 : ¬ v_fo s = 0 := fun z => q (hb ▸ decide_eq_true (Or.inl z))
      exact (h5 (by omega)).2.2.1
  · show (if v_fo s = 0 then _ else (if _ < v_fe s then _ else v_fe s)) = (if v_fo t = 0 then _ else (if _ < v_fe t then _ else v_fe t))
    rw [← h1]
    split
    · rfl
    · next q => rw [(h5 (by omega)).2.2.2]
  · have ha : (v_en s ||| 2 ^ row (L - 1)).testBit a = true := ha
    rw [b_orp, Bool.or_eq_true, decide_eq_true_iff] at ha
    show leF C s row L a = leF C t row L a
    unfold leF
    have hc : ((v_en s).testBit (row (L - 1)) = false ∨ cosA C row L < v_le s (row (L - 1))) ↔ ((v_en t).testBit (row (L - 1)) = false ∨ cosA C row L < v_le t (row (L - 1))) := by
      rw [← h2]
      cases hz : (v_en s).testBit (row (L - 1)) with
      | false => exact ⟨fun _ => Or.inl rfl, fun _ => Or.inl rfl⟩
      | true => rw [h6 _ hz]
    by_cases hq : (v_en s).testBit (row (L - 1)) = false ∨ cosA C row L < v_le s (row (L - 1))
    · rw [if_pos hq, if_pos (hc.mp hq)]
      by_cases hax : a = row (L - 1)
      · subst hax; rw [fup_same, fup_same]
      · rw [fup_ne _ _ hax, fup_ne _ _ hax]
        exact h6 a (ha.elim id (fun z => absurd z.symm hax))
    · rw [if_neg hq, if_neg (fun z => hq (hc.mpr z))]
      refine ha.elim (h6 a) (fun z => ?_)
      subst z
      refine h6 _ ?_
      cases hz : (v_en s).testBit (row (L - 1)) with
      | false => exact absurd (Or.inl hz) hq
      | true => rfl
theorem eqV_fold {C : Crt} : ∀ (l : List ((Nat → Nat) × Nat)) {s t : Srv}, eqV s t → eqV (foldN C s l) (foldN C t l)
  | [], _, _, h => h
  | q :: l, _, _, h => eqV_fold l (eqV_note h q.1 q.2)
/-- what is known of the WHOLE CHAINS of the VERDICT v -/
def surZ (C : Crt) (sk v : Nat) : Srv := surS C sk v zeV
theorem sur_eq (C : Crt) (sk v : Nat) (s0 : Srv) : eqV (surS C sk v s0) (surZ C sk v) :=
  eqV_fold _ ⟨rfl, rfl, rfl, rfl, fun h => absurd h (Nat.lt_irrefl 0), fun a ha => absurd ha (by show ¬ (0 : Nat).testBit a = true; simp)⟩
theorem surZ_fo (C : Crt) (sk v : Nat) : v_fo (surZ C sk v) = (rowsS C sk v).length := by
  unfold surZ surS
  rw [foldN_fo, List.length_map]
  exact Nat.zero_add _
theorem surZ_fo_lt (C : Crt) (sk v : Nat) : v_fo (surZ C sk v) < 2147483647 := by
  rw [surZ_fo]
  have := rowsS_len C sk v
  omega
/-! chains, nights, needed, days -/
def chS (C : Crt) (h : Hrg) (x : Int32) : Int32 := if vtB C x then nI (v_fo (surZ C h.2 x.toNatClampNeg)) else -1
def niS (C : Crt) (h : Hrg) (x : Int32) : Int32 := if vtB C x then nI (v_en (surZ C h.2 x.toNatClampNeg)) else -1
def neS (C : Crt) (h : Hrg) (x : Int32) : Int32 := if vtB C x then nI (v_cm (surZ C h.2 x.toNatClampNeg)) else -1
def daS (C : Crt) (h : Hrg) (x : Int32) : Int32 := if vtB C x then (if v_fo (surZ C h.2 x.toNatClampNeg) = 0 then -4 else nI (v_fe (surZ C h.2 x.toNatClampNeg))) else -1
theorem vtB_cases {C : Crt} (ok : okC C) (x : Int32) : vtB C x = false ∨ ∃ a, a < cn C ∧ x = nI a ∧ vtB C x = true := by
  cases h : vtB C x with
  | false => exact Or.inl rfl
  | true =>
    have hn := ok.1
    rcases inB_cases x (n := cn C) (by omega) with hb | ⟨a, ha, rfl⟩
    · unfold vtB at h; rw [hb] at h; cases h
    · exact Or.inr ⟨a, ha, rfl, rfl⟩
theorem c_chains {w : ax_W} {n : Nat} {T : List Nat} {C : Crt} {h : Hrg} {L K : List Hrg} (hx : isX w T C h L K) (ok : okX T C h L K) (x : Int32) : Run m_X6_chains 15 0 0 0 (l_ent m_X6_chains [.ref 0, .int x]) [] w n (PX (chS C h x) T C h L K w n) := by
  have hx0 := hx
  obtain ⟨hX, hT, hR, hC, hD, hH, hP1, hP2, hV, hV2⟩ := hx
  obtain ⟨-, okC, okH, -⟩ := ok
  have hn := okC.1
  have hsk := okH.sk okC
  have hfr : ∀ j, 51 ≤ j → w j = w j := fun _ _ => rfl
  obtain ⟨hC1, -⟩ := id hC
  obtain ⟨hH1, -⟩ := id hH
  obtain ⟨s0, hV0, hv0⟩ := hV
  obtain ⟨hV1, -⟩ := id hV0
  rcases vtB_cases okC x with hb | ⟨a, ha, rfl, hb⟩
  · refine x_aload_n (pc := 0) dX6_chains_0 rfl ?_
    refine x_getf (pc := 1) dX6_chains_1 kf_X6_26 (by first | assumption | exact hC.1 | exact hH.1 | exact hV0.1 | exact hT.1) (by rfl) ?_
    refine x_iload_n (pc := 4) dX6_chains_4 rfl ?_
    refine x_cv1p (ci := 0) (pc := 5) dX6_chains_5 ks_X6_116 (by first | assumption | exact hC.1 | exact hH.1 | exact hV0.1 | exact hT.1) (by rfl) (by omega) (by rfl) (by rfl) (by rfl) (c_isVerdict hC okC _) ?_
    refine x_if_ne (pc := 8) dX6_chains_8 (tgt := 13) (by decide) (fun h_8 => ?_) (fun h_8 => ?_)
    · skip
      try first | rw [n_b0] at h_8 | rw [n_eq0 (by omega)] at h_8
      exact absurd hb h_8
    · replace h_8 := Classical.not_not.mp h_8
      try first | rw [n_b0] at h_8 | rw [n_eq0 (by omega)] at h_8
      refine x_iconst (pc := 11) dX6_chains_11 (v := -1) (by decide) ?_
      refine x_iret (pc := 12) dX6_chains_12 rfl rfl ?_
      exact va_i ⟨by rw [chS, if_neg (by rw [hb]; decide)], hx0, fun _ _ => rfl⟩
  · have hcl : (nI a).toNatClampNeg = a := n_cl (by omega)
    have heq := sur_eq C h.2 a s0
    refine x_aload_n (pc := 0) dX6_chains_0 rfl ?_
    refine x_getf (pc := 1) dX6_chains_1 kf_X6_26 (by first | assumption | exact hC.1 | exact hH.1 | exact hV0.1 | exact hT.1) (by rfl) ?_
    refine x_iload_n (pc := 4) dX6_chains_4 rfl ?_
    refine x_cv1p (ci := 0) (pc := 5) dX6_chains_5 ks_X6_116 (by first | assumption | exact hC.1 | exact hH.1 | exact hV0.1 | exact hT.1) (by rfl) (by omega) (by rfl) (by rfl) (by rfl) (c_isVerdict hC okC _) ?_
    refine x_if_ne (pc := 8) dX6_chains_8 (tgt := 13) (by decide) (fun h_8 => ?_) (fun h_8 => ?_)
    · skip
      try first | rw [n_b0] at h_8 | rw [n_eq0 (by omega)] at h_8
      refine x_aload_n (pc := 13) dX6_chains_13 rfl ?_
      refine x_getf (pc := 14) dX6_chains_14 kf_X6_55 (by first | assumption | exact hC.1 | exact hH.1 | exact hV0.1 | exact hT.1) (by rfl) ?_
      refine x_aload_n (pc := 17) dX6_chains_17 rfl ?_
      refine x_getf (pc := 18) dX6_chains_18 kf_X6_26 (by first | assumption | exact hC.1 | exact hH.1 | exact hV0.1 | exact hT.1) (by rfl) ?_
      refine x_iload_n (pc := 21) dX6_chains_21 rfl ?_
      refine x_aload_n (pc := 22) dX6_chains_22 rfl ?_
      refine x_getf (pc := 23) dX6_chains_23 kf_X6_36 (by first | assumption | exact hC.1 | exact hH.1 | exact hV0.1 | exact hT.1) (by rfl) ?_
      refine x_getf (pc := 26) dX6_chains_26 kf_X6_126 (by first | assumption | exact hC.1 | exact hH.1 | exact hV0.1 | exact hT.1) (by rfl) ?_
      refine x_cv3 (q1 := 0) (q2 := 0) (ci := 5) (pc := 29) dX6_chains_29 ks_X6_169 (by first | assumption | exact hC.1 | exact hH.1 | exact hV0.1 | exact hT.1) (by rfl) (by omega) (by rfl) (by rfl) (by rfl) (c_walkAll okC hsk ha (by omega) hV0 hv0 hC) (vo_kk fun w hP => ?_)
      obtain ⟨hV0, hv0, hq⟩ := hP
      replace hX := (hq _ (by omega)).trans hX
      replace hT := hT.go fun j q1 q2 => hq j (by omega)
      replace hR := hR.go fun j q1 q2 => hq j (by omega)
      replace hC := hC.go fun j q1 q2 => hq j (by omega)
      replace hD := hD.go fun j q1 q2 => hq j (by omega)
      replace hH := hH.go fun j q1 q2 => hq j (by omega)
      replace hP1 := hP1.go fun j q1 q2 => hq j (by omega)
      replace hP2 := hP2.go fun j q1 q2 => hq j (by omega)
      replace hV2 := hV2.go fun j q1 q2 => hq j (by omega)
      replace hfr := fun j (hj : 51 ≤ j) => (hq j (by omega)).trans (hfr j hj)
      clear hq
      refine x_aload_n (pc := 32) dX6_chains_32 rfl ?_
      refine x_getf (pc := 33) dX6_chains_33 kf_X6_55 (by first | assumption | exact hC.1 | exact hH.1 | exact hV0.1 | exact hT.1) (by rfl) ?_
      refine x_getf (pc := 36) dX6_chains_36 kf_X6_173 hV0.1 (by rfl) ?_
      refine x_iret (pc := 39) dX6_chains_39 rfl rfl ?_
      exact va_i ⟨by rw [chS, if_pos hb, hcl, ← heq.1], ⟨hX, hT, hR, hC, hD, hH, hP1, hP2, ⟨_, hV0, hv0⟩, hV2⟩, hfr⟩
    · replace h_8 := Classical.not_not.mp h_8
      try first | rw [n_b0] at h_8 | rw [n_eq0 (by omega)] at h_8
      rw [hb] at h_8; cases h_8
theorem c_nights {w : ax_W} {n : Nat} {T : List Nat} {C : Crt} {h : Hrg} {L K : List Hrg} (hx : isX w T C h L K) (ok : okX T C h L K) (x : Int32) : Run m_X6_nights 15 0 0 0 (l_ent m_X6_nights [.ref 0, .int x]) [] w n (PX (niS C h x) T C h L K w n) := by
  have hx0 := hx
  obtain ⟨hX, hT, hR, hC, hD, hH, hP1, hP2, hV, hV2⟩ := hx
  obtain ⟨-, okC, okH, -⟩ := ok
  have hn := okC.1
  have hsk := okH.sk okC
  have hfr : ∀ j, 51 ≤ j → w j = w j := fun _ _ => rfl
  obtain ⟨hC1, -⟩ := id hC
  obtain ⟨hH1, -⟩ := id hH
  obtain ⟨s0, hV0, hv0⟩ := hV
  obtain ⟨hV1, -⟩ := id hV0
  rcases vtB_cases okC x with hb | ⟨a, ha, rfl, hb⟩
  · refine x_aload_n (pc := 0) dX6_nights_0 rfl ?_
    refine x_getf (pc := 1) dX6_nights_1 kf_X6_26 (by first | assumption | exact hC.1 | exact hH.1 | exact hV0.1 | exact hT.1) (by rfl) ?_
    refine x_iload_n (pc := 4) dX6_nights_4 rfl ?_
    refine x_cv1p (ci := 0) (pc := 5) dX6_nights_5 ks_X6_116 (by first | assumption | exact hC.1 | exact hH.1 | exact hV0.1 | exact hT.1) (by rfl) (by omega) (by rfl) (by rfl) (by rfl) (c_isVerdict hC okC _) ?_
    refine x_if_ne (pc := 8) dX6_nights_8 (tgt := 13) (by decide) (fun h_8 => ?_) (fun h_8 => ?_)
    · skip
      try first | rw [n_b0] at h_8 | rw [n_eq0 (by omega)] at h_8
      exact absurd hb h_8
    · replace h_8 := Classical.not_not.mp h_8
      try first | rw [n_b0] at h_8 | rw [n_eq0 (by omega)] at h_8
      refine x_iconst (pc := 11) dX6_nights_11 (v := -1) (by decide) ?_
      refine x_iret (pc := 12) dX6_nights_12 rfl rfl ?_
      exact va_i ⟨by rw [niS, if_neg (by rw [hb]; decide)], hx0, fun _ _ => rfl⟩
  · have hcl : (nI a).toNatClampNeg = a := n_cl (by omega)
    have heq := sur_eq C h.2 a s0
    refine x_aload_n (pc := 0) dX6_nights_0 rfl ?_
    refine x_getf (pc := 1) dX6_nights_1 kf_X6_26 (by first | assumption | exact hC.1 | exact hH.1 | exact hV0.1 | exact hT.1) (by rfl) ?_
    refine x_iload_n (pc := 4) dX6_nights_4 rfl ?_
    refine x_cv1p (ci := 0) (pc := 5) dX6_nights_5 ks_X6_116 (by first | assumption | exact hC.1 | exact hH.1 | exact hV0.1 | exact hT.1) (by rfl) (by omega) (by rfl) (by rfl) (by rfl) (c_isVerdict hC okC _) ?_
    refine x_if_ne (pc := 8) dX6_nights_8 (tgt := 13) (by decide) (fun h_8 => ?_) (fun h_8 => ?_)
    · skip
      try first | rw [n_b0] at h_8 | rw [n_eq0 (by omega)] at h_8
      refine x_aload_n (pc := 13) dX6_nights_13 rfl ?_
      refine x_getf (pc := 14) dX6_nights_14 kf_X6_55 (by first | assumption | exact hC.1 | exact hH.1 | exact hV0.1 | exact hT.1) (by rfl) ?_
      refine x_aload_n (pc := 17) dX6_nights_17 rfl ?_
      refine x_getf (pc := 18) dX6_nights_18 kf_X6_26 (by first | assumption | exact hC.1 | exact hH.1 | exact hV0.1 | exact hT.1) (by rfl) ?_
      refine x_iload_n (pc := 21) dX6_nights_21 rfl ?_
      refine x_aload_n (pc := 22) dX6_nights_22 rfl ?_
      refine x_getf (pc := 23) dX6_nights_23 kf_X6_36 (by first | assumption | exact hC.1 | exact hH.1 | exact hV0.1 | exact hT.1) (by rfl) ?_
      refine x_getf (pc := 26) dX6_nights_26 kf_X6_126 (by first | assumption | exact hC.1 | exact hH.1 | exact hV0.1 | exact hT.1) (by rfl) ?_
      refine x_cv3 (q1 := 0) (q2 := 0) (ci := 5) (pc := 29) dX6_nights_29 ks_X6_169 (by first | assumption | exact hC.1 | exact hH.1 | exact hV0.1 | exact hT.1) (by rfl) (by omega) (by rfl) (by rfl) (by rfl) (c_walkAll okC hsk ha (by omega) hV0 hv0 hC) (vo_kk fun w hP => ?_)
      obtain ⟨hV0, hv0, hq⟩ := hP
      replace hX := (hq _ (by omega)).trans hX
      replace hT := hT.go fun j q1 q2 => hq j (by omega)
      replace hR := hR.go fun j q1 q2 => hq j (by omega)
      replace hC := hC.go fun j q1 q2 => hq j (by omega)
      replace hD := hD.go fun j q1 q2 => hq j (by omega)
      replace hH := hH.go fun j q1 q2 => hq j (by omega)
      replace hP1 := hP1.go fun j q1 q2 => hq j (by omega)
      replace hP2 := hP2.go fun j q1 q2 => hq j (by omega)
      replace hV2 := hV2.go fun j q1 q2 => hq j (by omega)
      replace hfr := fun j (hj : 51 ≤ j) => (hq j (by omega)).trans (hfr j hj)
      clear hq
      refine x_aload_n (pc := 32) dX6_nights_32 rfl ?_
      refine x_getf (pc := 33) dX6_nights_33 kf_X6_55 (by first | assumption | exact hC.1 | exact hH.1 | exact hV0.1 | exact hT.1) (by rfl) ?_
      refine x_getf (pc := 36) dX6_nights_36 kf_X6_185 hV0.1 (by rfl) ?_
      refine x_iret (pc := 39) dX6_nights_39 rfl rfl ?_
      exact va_i ⟨by rw [niS, if_pos hb, hcl, ← heq.2.1], ⟨hX, hT, hR, hC, hD, hH, hP1, hP2, ⟨_, hV0, hv0⟩, hV2⟩, hfr⟩
    · replace h_8 := Classical.not_not.mp h_8
      try first | rw [n_b0] at h_8 | rw [n_eq0 (by omega)] at h_8
      rw [hb] at h_8; cases h_8
theorem c_needed {w : ax_W} {n : Nat} {T : List Nat} {C : Crt} {h : Hrg} {L K : List Hrg} (hx : isX w T C h L K) (ok : okX T C h L K) (x : Int32) : Run m_X6_needed 15 0 0 0 (l_ent m_X6_needed [.ref 0, .int x]) [] w n (PX (neS C h x) T C h L K w n) := by
  have hx0 := hx
  obtain ⟨hX, hT, hR, hC, hD, hH, hP1, hP2, hV, hV2⟩ := hx
  obtain ⟨-, okC, okH, -⟩ := ok
  have hn := okC.1
  have hsk := okH.sk okC
  have hfr : ∀ j, 51 ≤ j → w j = w j := fun _ _ => rfl
  obtain ⟨hC1, -⟩ := id hC
  obtain ⟨hH1, -⟩ := id hH
  obtain ⟨s0, hV0, hv0⟩ := hV
  obtain ⟨hV1, -⟩ := id hV0
  rcases vtB_cases okC x with hb | ⟨a, ha, rfl, hb⟩
  · refine x_aload_n (pc := 0) dX6_needed_0 rfl ?_
    refine x_getf (pc := 1) dX6_needed_1 kf_X6_26 (by first | assumption | exact hC.1 | exact hH.1 | exact hV0.1 | exact hT.1) (by rfl) ?_
    refine x_iload_n (pc := 4) dX6_needed_4 rfl ?_
    refine x_cv1p (ci := 0) (pc := 5) dX6_needed_5 ks_X6_116 (by first | assumption | exact hC.1 | exact hH.1 | exact hV0.1 | exact hT.1) (by rfl) (by omega) (by rfl) (by rfl) (by rfl) (c_isVerdict hC okC _) ?_
    refine x_if_ne (pc := 8) dX6_needed_8 (tgt := 13) (by decide) (fun h_8 => ?_) (fun h_8 => ?_)
    · skip
      try first | rw [n_b0] at h_8 | rw [n_eq0 (by omega)] at h_8
      exact absurd hb h_8
    · replace h_8 := Classical.not_not.mp h_8
      try first | rw [n_b0] at h_8 | rw [n_eq0 (by omega)] at h_8
      refine x_iconst (pc := 11) dX6_needed_11 (v := -1) (by decide) ?_
      refine x_iret (pc := 12) dX6_needed_12 rfl rfl ?_
      exact va_i ⟨by rw [neS, if_neg (by rw [hb]; decide)], hx0, fun _ _ => rfl⟩
  · have hcl : (nI a).toNatClampNeg = a := n_cl (by omega)
    have heq := sur_eq C h.2 a s0
    refine x_aload_n (pc := 0) dX6_needed_0 rfl ?_
    refine x_getf (pc := 1) dX6_needed_1 kf_X6_26 (by first | assumption | exact hC.1 | exact hH.1 | exact hV0.1 | exact hT.1) (by rfl) ?_
    refine x_iload_n (pc := 4) dX6_needed_4 rfl ?_
    refine x_cv1p (ci := 0) (pc := 5) dX6_needed_5 ks_X6_116 (by first | assumption | exact hC.1 | exact hH.1 | exact hV0.1 | exact hT.1) (by rfl) (by omega) (by rfl) (by rfl) (by rfl) (c_isVerdict hC okC _) ?_
    refine x_if_ne (pc := 8) dX6_needed_8 (tgt := 13) (by decide) (fun h_8 => ?_) (fun h_8 => ?_)
    · skip
      try first | rw [n_b0] at h_8 | rw [n_eq0 (by omega)] at h_8
      refine x_aload_n (pc := 13) dX6_needed_13 rfl ?_
      refine x_getf (pc := 14) dX6_needed_14 kf_X6_55 (by first | assumption | exact hC.1 | exact hH.1 | exact hV0.1 | exact hT.1) (by rfl) ?_
      refine x_aload_n (pc := 17) dX6_needed_17 rfl ?_
      refine x_getf (pc := 18) dX6_needed_18 kf_X6_26 (by first | assumption | exact hC.1 | exact hH.1 | exact hV0.1 | exact hT.1) (by rfl) ?_
      refine x_iload_n (pc := 21) dX6_needed_21 rfl ?_
      refine x_aload_n (pc := 22) dX6_needed_22 rfl ?_
      refine x_getf (pc := 23) dX6_needed_23 kf_X6_36 (by first | assumption | exact hC.1 | exact hH.1 | exact hV0.1 | exact hT.1) (by rfl) ?_
      refine x_getf (pc := 26) dX6_needed_26 kf_X6_126 (by first | assumption | exact hC.1 | exact hH.1 | exact hV0.1 | exact hT.1) (by rfl) ?_
      refine x_cv3 (q1 := 0) (q2 := 0) (ci := 5) (pc := 29) dX6_needed_29 ks_X6_169 (by first | assumption | exact hC.1 | exact hH.1 | exact hV0.1 | exact hT.1) (by rfl) (by omega) (by rfl) (by rfl) (by rfl) (c_walkAll okC hsk ha (by omega) hV0 hv0 hC) (vo_kk fun w hP => ?_)
      obtain ⟨hV0, hv0, hq⟩ := hP
      replace hX := (hq _ (by omega)).trans hX
      replace hT := hT.go fun j q1 q2 => hq j (by omega)
      replace hR := hR.go fun j q1 q2 => hq j (by omega)
      replace hC := hC.go fun j q1 q2 => hq j (by omega)
      replace hD := hD.go fun j q1 q2 => hq j (by omega)
      replace hH := hH.go fun j q1 q2 => hq j (by omega)
      replace hP1 := hP1.go fun j q1 q2 => hq j (by omega)
      replace hP2 := hP2.go fun j q1 q2 => hq j (by omega)
      replace hV2 := hV2.go fun j q1 q2 => hq j (by omega)
      replace hfr := fun j (hj : 51 ≤ j) => (hq j (by omega)).trans (hfr j hj)
      clear hq
      refine x_aload_n (pc := 32) dX6_needed_32 rfl ?_
      refine x_getf (pc := 33) dX6_needed_33 kf_X6_55 (by first | assumption | exact hC.1 | exact hH.1 | exact hV0.1 | exact hT.1) (by rfl) ?_
      refine x_getf (pc := 36) dX6_needed_36 kf_X6_188 hV0.1 (by rfl) ?_
      refine x_iret (pc := 39) dX6_needed_39 rfl rfl ?_
      exact va_i ⟨by rw [neS, if_pos hb, hcl, ← heq.2.2.1], ⟨hX, hT, hR, hC, hD, hH, hP1, hP2, ⟨_, hV0, hv0⟩, hV2⟩, hfr⟩
    · replace h_8 := Classical.not_not.mp h_8
      try first | rw [n_b0] at h_8 | rw [n_eq0 (by omega)] at h_8
      rw [hb] at h_8; cases h_8
theorem c_days {w : ax_W} {n : Nat} {T : List Nat} {C : Crt} {h : Hrg} {L K : List Hrg} (hx : isX w T C h L K) (ok : okX T C h L K) (x : Int32) : Run m_X6_days 15 0 0 0 (l_ent m_X6_days [.ref 0, .int x]) [] w n (PX (daS C h x) T C h L K w n) := by
  have hx0 := hx
  obtain ⟨hX, hT, hR, hC, hD, hH, hP1, hP2, hV, hV2⟩ := hx
  obtain ⟨-, okC, okH, -⟩ := ok
  have hn := okC.1
  have hsk := okH.sk okC
  have hfr : ∀ j, 51 ≤ j → w j = w j := fun _ _ => rfl
  obtain ⟨hC1, -⟩ := id hC
  obtain ⟨hH1, -⟩ := id hH
  obtain ⟨s0, hV0, hv0⟩ := hV
  obtain ⟨hV1, -⟩ := id hV0
  rcases vtB_cases okC x with hb | ⟨a, ha, rfl, hb⟩
  · refine x_aload_n (pc := 0) dX6_days_0 rfl ?_
    refine x_getf (pc := 1) dX6_days_1 kf_X6_26 (by first | assumption | exact hC.1 | exact hH.1 | exact hV0.1 | exact hT.1) (by rfl) ?_
    refine x_iload_n (pc := 4) dX6_days_4 rfl ?_
    refine x_cv1p (ci := 0) (pc := 5) dX6_days_5 ks_X6_116 (by first | assumption | exact hC.1 | exact hH.1 | exact hV0.1 | exact hT.1) (by rfl) (by omega) (by rfl) (by rfl) (by rfl) (c_isVerdict hC okC _) ?_
    refine x_if_ne (pc := 8) dX6_days_8 (tgt := 13) (by decide) (fun h_8 => ?_) (fun h_8 => ?_)
    · skip
      try first | rw [n_b0] at h_8 | rw [n_eq0 (by omega)] at h_8
      exact absurd hb h_8
    · replace h_8 := Classical.not_not.mp h_8
      try first | rw [n_b0] at h_8 | rw [n_eq0 (by omega)] at h_8
      refine x_iconst (pc := 11) dX6_days_11 (v := -1) (by decide) ?_
      refine x_iret (pc := 12) dX6_days_12 rfl rfl ?_
      exact va_i ⟨by rw [daS, if_neg (by rw [hb]; decide)], hx0, fun _ _ => rfl⟩
  · have hcl : (nI a).toNatClampNeg = a := n_cl (by omega)
    have heq := sur_eq C h.2 a s0
    have hlt := surZ_fo_lt C h.2 a
    rw [← heq.1] at hlt
    refine x_aload_n (pc := 0) dX6_days_0 rfl ?_
    refine x_getf (pc := 1) dX6_days_1 kf_X6_26 (by first | assumption | exact hC.1 | exact hH.1 | exact hV0.1 | exact hT.1) (by rfl) ?_
    refine x_iload_n (pc := 4) dX6_days_4 rfl ?_
    refine x_cv1p (ci := 0) (pc := 5) dX6_days_5 ks_X6_116 (by first | assumption | exact hC.1 | exact hH.1 | exact hV0.1 | exact hT.1) (by rfl) (by omega) (by rfl) (by rfl) (by rfl) (c_isVerdict hC okC _) ?_
    refine x_if_ne (pc := 8) dX6_days_8 (tgt := 13) (by decide) (fun h_8 => ?_) (fun h_8 => ?_)
    · skip
      try first | rw [n_b0] at h_8 | rw [n_eq0 (by omega)] at h_8
      refine x_aload_n (pc := 13) dX6_days_13 rfl ?_
      refine x_getf (pc := 14) dX6_days_14 kf_X6_55 (by first | assumption | exact hC.1 | exact hH.1 | exact hV0.1 | exact hT.1) (by rfl) ?_
      refine x_aload_n (pc := 17) dX6_days_17 rfl ?_
      refine x_getf (pc := 18) dX6_days_18 kf_X6_26 (by first | assumption | exact hC.1 | exact hH.1 | exact hV0.1 | exact hT.1) (by rfl) ?_
      refine x_iload_n (pc := 21) dX6_days_21 rfl ?_
      refine x_aload_n (pc := 22) dX6_days_22 rfl ?_
      refine x_getf (pc := 23) dX6_days_23 kf_X6_36 (by first | assumption | exact hC.1 | exact hH.1 | exact hV0.1 | exact hT.1) (by rfl) ?_
      refine x_getf (pc := 26) dX6_days_26 kf_X6_126 (by first | assumption | exact hC.1 | exact hH.1 | exact hV0.1 | exact hT.1) (by rfl) ?_
      refine x_cv3 (q1 := 0) (q2 := 0) (ci := 5) (pc := 29) dX6_days_29 ks_X6_169 (by first | assumption | exact hC.1 | exact hH.1 | exact hV0.1 | exact hT.1) (by rfl) (by omega) (by rfl) (by rfl) (by rfl) (c_walkAll okC hsk ha (by omega) hV0 hv0 hC) (vo_kk fun w hP => ?_)
      obtain ⟨hV0, hv0, hq⟩ := hP
      replace hX := (hq _ (by omega)).trans hX
      replace hT := hT.go fun j q1 q2 => hq j (by omega)
      replace hR := hR.go fun j q1 q2 => hq j (by omega)
      replace hC := hC.go fun j q1 q2 => hq j (by omega)
      replace hD := hD.go fun j q1 q2 => hq j (by omega)
      replace hH := hH.go fun j q1 q2 => hq j (by omega)
      replace hP1 := hP1.go fun j q1 q2 => hq j (by omega)
      replace hP2 := hP2.go fun j q1 q2 => hq j (by omega)
      replace hV2 := hV2.go fun j q1 q2 => hq j (by omega)
      replace hfr := fun j (hj : 51 ≤ j) => (hq j (by omega)).trans (hfr j hj)
      clear hq
      refine x_aload_n (pc := 32) dX6_days_32 rfl ?_
      refine x_getf (pc := 33) dX6_days_33 kf_X6_55 (by first | assumption | exact hC.1 | exact hH.1 | exact hV0.1 | exact hT.1) (by rfl) ?_
      refine x_getf (pc := 36) dX6_days_36 kf_X6_173 hV0.1 (by rfl) ?_
      refine x_if_ne (pc := 39) dX6_days_39 (tgt := 47) (by decide) (fun h_39 => ?_) (fun h_39 => ?_)
      · skip
        try first | rw [n_b0] at h_39 | rw [n_eq0 (by omega)] at h_39
        have e : daS C h (nI a) = nI (v_fe (surS C h.2 a s0)) := by rw [daS, if_pos hb, hcl, ← heq.1, if_neg h_39, (heq.2.2.2.2.1 (by omega)).2.2.2]
        refine x_aload_n (pc := 47) dX6_days_47 rfl ?_
        refine x_getf (pc := 48) dX6_days_48 kf_X6_55 (by first | assumption | exact hC.1 | exact hH.1 | exact hV0.1 | exact hT.1) (by rfl) ?_
        refine x_getf (pc := 51) dX6_days_51 kf_X6_203 hV0.1 (by rfl) ?_
        refine x_iret (pc := 54) dX6_days_54 rfl rfl ?_
        exact va_i ⟨by rw [e], ⟨hX, hT, hR, hC, hD, hH, hP1, hP2, ⟨_, hV0, hv0⟩, hV2⟩, hfr⟩
      · replace h_39 := Classical.not_not.mp h_39
        try first | rw [n_b0] at h_39 | rw [n_eq0 (by omega)] at h_39
        have e : daS C h (nI a) = -4 := by rw [daS, if_pos hb, hcl, ← heq.1, if_pos h_39]
        refine x_bipush (pc := 42) dX6_days_42 (v := -4) (by decide) ?_
        refine x_goto (pc := 44) dX6_days_44 (tgt := 54) (by decide) ?_
        refine x_iret (pc := 54) dX6_days_54 rfl rfl ?_
        exact va_i ⟨by rw [e], ⟨hX, hT, hR, hC, hD, hH, hP1, hP2, ⟨_, hV0, hv0⟩, hV2⟩, hfr⟩
    · replace h_8 := Classical.not_not.mp h_8
      try first | rw [n_b0] at h_8 | rw [n_eq0 (by omega)] at h_8
      rw [hb] at h_8; cases h_8
/-! shortest, laid -/
def shS (C : Crt) (h : Hrg) (x y : Int32) : Int32 := if vtB C x = true ∧ ¬ y < -2 then (if v_fo (surZ C h.2 x.toNatClampNeg) = 0 then -4 else if y = -2 then nI (v_bc (surZ C h.2 x.toNatClampNeg)) else if y = -1 then nI (v_bl (surZ C h.2 x.toNatClampNeg)) else if y < nI (v_bl (surZ C h.2 x.toNatClampNeg)) then nI (v_br (surZ C h.2 x.toNatClampNeg) y.toNatClampNeg) else -4) else -1
theorem y_nat {y : Int32} (h1 : ¬ y < -2) (h2 : ¬ y = -2) (h3 : ¬ y = -1) : ∃ j : Nat, j < 2147483648 ∧ y = nI j := by
  refine nI_of ?_
  intro q
  have e2 : ((-2 : Int32)).toInt = -2 := by decide +kernel
  have e1 : ((-1 : Int32)).toInt = -1 := by decide +kernel
  have e0 : ((0 : Int32)).toInt = 0 := by decide +kernel
  rw [Int32.lt_iff_toInt_lt, e0] at q
  rw [Int32.lt_iff_toInt_lt, e2] at h1
  have n2 : ¬ y.toInt = -2 := fun z => h2 (Int32.toInt_inj.mp (z.trans e2.symm))
  have n1 : ¬ y.toInt = -1 := fun z => h3 (Int32.toInt_inj.mp (z.trans e1.symm))
  omega
theorem c_shortest {w : ax_W} {n : Nat} {T : List Nat} {C : Crt} {h : Hrg} {L K : List Hrg} (hx : isX w T C h L K) (ok : okX T C h L K) (x y : Int32) : Run m_X6_shortest 15 0 0 0 (l_ent m_X6_shortest [.ref 0, .int x, .int y]) [] w n (PX (shS C h x y) T C h L K w n) := by
  have hx0 := hx
  obtain ⟨hX, hT, hR, hC, hD, hH, hP1, hP2, hV, hV2⟩ := hx
  obtain ⟨-, okC, okH, -⟩ := ok
  have hn := okC.1
  have hsk := okH.sk okC
  have hfr : ∀ j, 51 ≤ j → w j = w j := fun _ _ => rfl
  obtain ⟨hC1, -⟩ := id hC
  obtain ⟨hH1, -⟩ := id hH
  obtain ⟨s0, hV0, hv0⟩ := hV
  obtain ⟨hV1, -⟩ := id hV0
  rcases vtB_cases okC x with hb | ⟨a, ha, rfl, hb⟩
  · refine x_aload_n (pc := 0) dX6_shortest_0 rfl ?_
    refine x_getf (pc := 1) dX6_shortest_1 kf_X6_26 (by first | assumption | exact hC.1 | exact hH.1 | exact hV0.1 | exact hT.1) (by rfl) ?_
    refine x_iload_n (pc := 4) dX6_shortest_4 rfl ?_
    refine x_cv1p (ci := 0) (pc := 5) dX6_shortest_5 ks_X6_116 (by first | assumption | exact hC.1 | exact hH.1 | exact hV0.1 | exact hT.1) (by rfl) (by omega) (by rfl) (by rfl) (by rfl) (c_isVerdict hC okC _) ?_
    refine x_if_eq (pc := 8) dX6_shortest_8 (tgt := 17) (by decide) (fun h_8 => ?_) (fun h_8 => ?_)
    · skip
      try first | rw [n_b0] at h_8 | rw [n_eq0 (by omega)] at h_8
      refine x_iconst (pc := 17) dX6_shortest_17 (v := -1) (by decide) ?_
      refine x_iret (pc := 18) dX6_shortest_18 rfl rfl ?_
      exact va_i ⟨by rw [shS, if_neg (fun q => by rw [hb] at q; cases q.1)], hx0, fun _ _ => rfl⟩
    · skip
      try first | rw [n_b0] at h_8 | rw [n_eq0 (by omega)] at h_8
      exact absurd hb h_8
  · have hcl : (nI a).toNatClampNeg = a := n_cl (by omega)
    have heq := sur_eq C h.2 a s0
    have hlt := surZ_fo_lt C h.2 a
    rw [← heq.1] at hlt
    refine x_aload_n (pc := 0) dX6_shortest_0 rfl ?_
    refine x_getf (pc := 1) dX6_shortest_1 kf_X6_26 (by first | assumption | exact hC.1 | exact hH.1 | exact hV0.1 | exact hT.1) (by rfl) ?_
    refine x_iload_n (pc := 4) dX6_shortest_4 rfl ?_
    refine x_cv1p (ci := 0) (pc := 5) dX6_shortest_5 ks_X6_116 (by first | assumption | exact hC.1 | exact hH.1 | exact hV0.1 | exact hT.1) (by rfl) (by omega) (by rfl) (by rfl) (by rfl) (c_isVerdict hC okC _) ?_
    refine x_if_eq (pc := 8) dX6_shortest_8 (tgt := 17) (by decide) (fun h_8 => ?_) (fun h_8 => ?_)
    · skip
      try first | rw [n_b0] at h_8 | rw [n_eq0 (by omega)] at h_8
      rw [hb] at h_8; cases h_8
    · skip
      try first | rw [n_b0] at h_8 | rw [n_eq0 (by omega)] at h_8
      refine x_iload_n (pc := 11) dX6_shortest_11 rfl ?_
      refine x_bipush (pc := 12) dX6_shortest_12 (v := -2) (by decide) ?_
      refine x_icmp_ge (pc := 14) dX6_shortest_14 (tgt := 19) (by decide) (fun h_14 => ?_) (fun h_14 => ?_)
      · skip
        try first | rw [n_b1] at h_14 | rw [n_b00] at h_14 | rw [n_le (by omega) (by omega)] at h_14
        have hy : ¬ y < -2 := Int32.not_lt.mpr h_14
        refine x_aload_n (pc := 19) dX6_shortest_19 rfl ?_
        refine x_getf (pc := 20) dX6_shortest_20 kf_X6_55 (by first | assumption | exact hC.1 | exact hH.1 | exact hV0.1 | exact hT.1) (by rfl) ?_
        refine x_aload_n (pc := 23) dX6_shortest_23 rfl ?_
        refine x_getf (pc := 24) dX6_shortest_24 kf_X6_26 (by first | assumption | exact hC.1 | exact hH.1 | exact hV0.1 | exact hT.1) (by rfl) ?_
        refine x_iload_n (pc := 27) dX6_shortest_27 rfl ?_
        refine x_aload_n (pc := 28) dX6_shortest_28 rfl ?_
        refine x_getf (pc := 29) dX6_shortest_29 kf_X6_36 (by first | assumption | exact hC.1 | exact hH.1 | exact hV0.1 | exact hT.1) (by rfl) ?_
        refine x_getf (pc := 32) dX6_shortest_32 kf_X6_126 (by first | assumption | exact hC.1 | exact hH.1 | exact hV0.1 | exact hT.1) (by rfl) ?_
        refine x_cv3 (q1 := 0) (q2 := 0) (ci := 5) (pc := 35) dX6_shortest_35 ks_X6_169 (by first | assumption | exact hC.1 | exact hH.1 | exact hV0.1 | exact hT.1) (by rfl) (by omega) (by rfl) (by rfl) (by rfl) (c_walkAll okC hsk ha (by omega) hV0 hv0 hC) (vo_kk fun w hP => ?_)
        obtain ⟨hV0, hv0, hq⟩ := hP
        replace hX := (hq _ (by omega)).trans hX
        replace hT := hT.go fun j q1 q2 => hq j (by omega)
        replace hR := hR.go fun j q1 q2 => hq j (by omega)
        replace hC := hC.go fun j q1 q2 => hq j (by omega)
        replace hD := hD.go fun j q1 q2 => hq j (by omega)
        replace hH := hH.go fun j q1 q2 => hq j (by omega)
        replace hP1 := hP1.go fun j q1 q2 => hq j (by omega)
        replace hP2 := hP2.go fun j q1 q2 => hq j (by omega)
        replace hV2 := hV2.go fun j q1 q2 => hq j (by omega)
        replace hfr := fun j (hj : 51 ≤ j) => (hq j (by omega)).trans (hfr j hj)
        clear hq
        refine x_aload_n (pc := 38) dX6_shortest_38 rfl ?_
        refine x_getf (pc := 39) dX6_shortest_39 kf_X6_55 (by first | assumption | exact hC.1 | exact hH.1 | exact hV0.1 | exact hT.1) (by rfl) ?_
        refine x_getf (pc := 42) dX6_shortest_42 kf_X6_173 hV0.1 (by rfl) ?_
        refine x_if_ne (pc := 45) dX6_shortest_45 (tgt := 51) (by decide) (fun h_45 => ?_) (fun h_45 => ?_)
        · skip
          try first | rw [n_b0] at h_45 | rw [n_eq0 (by omega)] at h_45
          obtain ⟨q1, q2, q3, q4⟩ := heq.2.2.2.2.1 (by omega)
          have e : shS C h (nI a) y = if y = -2 then nI (v_bc (surS C h.2 a s0)) else if y = -1 then nI (v_bl (surS C h.2 a s0)) else if y < nI (v_bl (surS C h.2 a s0)) then nI (v_br (surS C h.2 a s0) y.toNatClampNeg) else -4 := by rw [shS, if_pos ⟨hb, hy⟩, hcl, ← heq.1, if_neg h_45, ← q1, ← q2, ← q3]
          obtain ⟨hbl, -⟩ := id hv0
          refine x_iload_n (pc := 51) dX6_shortest_51 rfl ?_
          refine x_bipush (pc := 52) dX6_shortest_52 (v := -2) (by decide) ?_
          refine x_icmp_ne (pc := 54) dX6_shortest_54 (tgt := 65) (by decide) (fun h_54 => ?_) (fun h_54 => ?_)
          · skip
            try first | rw [n_b1] at h_54 | rw [n_b00] at h_54 | rw [n_eq (by omega) (by omega)] at h_54
            rw [if_neg h_54] at e
            refine x_iload_n (pc := 65) dX6_shortest_65 rfl ?_
            refine x_iconst (pc := 66) dX6_shortest_66 (v := -1) (by decide) ?_
            refine x_icmp_ne (pc := 67) dX6_shortest_67 (tgt := 78) (by decide) (fun h_67 => ?_) (fun h_67 => ?_)
            · skip
              try first | rw [n_b1] at h_67 | rw [n_b00] at h_67 | rw [n_eq (by omega) (by omega)] at h_67
              rw [if_neg h_67] at e
              obtain ⟨j, hj, rfl⟩ := y_nat hy h_54 h_67
              refine x_iload_n (pc := 78) dX6_shortest_78 rfl ?_
              refine x_aload_n (pc := 79) dX6_shortest_79 rfl ?_
              refine x_getf (pc := 80) dX6_shortest_80 kf_X6_55 (by first | assumption | exact hC.1 | exact hH.1 | exact hV0.1 | exact hT.1) (by rfl) ?_
              refine x_getf (pc := 83) dX6_shortest_83 kf_X6_179 hV0.1 (by rfl) ?_
              refine x_icmp_ge (pc := 86) dX6_shortest_86 (tgt := 103) (by decide) (fun h_86 => ?_) (fun h_86 => ?_)
              · skip
                try first | rw [n_b1] at h_86 | rw [n_b00] at h_86 | rw [n_le (by omega) (by omega)] at h_86
                rw [if_neg (by rw [n_lt (by omega) (by omega)]; omega)] at e
                refine x_bipush (pc := 103) dX6_shortest_103 (v := -4) (by decide) ?_
                refine x_iret (pc := 105) dX6_shortest_105 rfl rfl ?_
                exact va_i ⟨by rw [e], ⟨hX, hT, hR, hC, hD, hH, hP1, hP2, ⟨_, hV0, hv0⟩, hV2⟩, hfr⟩
              · skip
                try first | rw [n_b1] at h_86 | rw [n_b00] at h_86 | rw [n_le (by omega) (by omega)] at h_86
                rw [if_pos (by rw [n_lt (by omega) (by omega)]; omega), n_cl (by omega)] at e
                obtain ⟨-, fr, fb, fl, i1, i2, i3, i4, i5⟩ := id hV0
                refine x_aload_n (pc := 89) dX6_shortest_89 rfl ?_
                refine x_getf (pc := 90) dX6_shortest_90 kf_X6_55 (by first | assumption | exact hC.1 | exact hH.1 | exact hV0.1 | exact hT.1) (by rfl) ?_
                refine x_getf (pc := 93) dX6_shortest_93 kf_X6_182 hV0.1 (by rfl) ?_
                refine x_iload_n (pc := 96) dX6_shortest_96 rfl ?_
                refine x_cs2p (pc := 97) dX6_shortest_97 ks_X6_106 (by omega) (by rfl) (by rfl) (by rfl) (c_at i2 (by omega) (by omega)) ?_
                rw [i4 j (by omega)]
                refine x_goto (pc := 100) dX6_shortest_100 (tgt := 105) (by decide) ?_
                refine x_iret (pc := 105) dX6_shortest_105 rfl rfl ?_
                exact va_i ⟨by rw [e], ⟨hX, hT, hR, hC, hD, hH, hP1, hP2, ⟨_, hV0, hv0⟩, hV2⟩, hfr⟩
            · replace h_67 := Classical.not_not.mp h_67
              try first | rw [n_b1] at h_67 | rw [n_b00] at h_67 | rw [n_eq (by omega) (by omega)] at h_67
              rw [if_pos h_67] at e
              refine x_aload_n (pc := 70) dX6_shortest_70 rfl ?_
              refine x_getf (pc := 71) dX6_shortest_71 kf_X6_55 (by first | assumption | exact hC.1 | exact hH.1 | exact hV0.1 | exact hT.1) (by rfl) ?_
              refine x_getf (pc := 74) dX6_shortest_74 kf_X6_179 hV0.1 (by rfl) ?_
              refine x_iret (pc := 77) dX6_shortest_77 rfl rfl ?_
              exact va_i ⟨by rw [e], ⟨hX, hT, hR, hC, hD, hH, hP1, hP2, ⟨_, hV0, hv0⟩, hV2⟩, hfr⟩
          · replace h_54 := Classical.not_not.mp h_54
            try first | rw [n_b1] at h_54 | rw [n_b00] at h_54 | rw [n_eq (by omega) (by omega)] at h_54
            rw [if_pos h_54] at e
            refine x_aload_n (pc := 57) dX6_shortest_57 rfl ?_
            refine x_getf (pc := 58) dX6_shortest_58 kf_X6_55 (by first | assumption | exact hC.1 | exact hH.1 | exact hV0.1 | exact hT.1) (by rfl) ?_
            refine x_getf (pc := 61) dX6_shortest_61 kf_X6_176 hV0.1 (by rfl) ?_
            refine x_iret (pc := 64) dX6_shortest_64 rfl rfl ?_
            exact va_i ⟨by rw [e], ⟨hX, hT, hR, hC, hD, hH, hP1, hP2, ⟨_, hV0, hv0⟩, hV2⟩, hfr⟩
        · replace h_45 := Classical.not_not.mp h_45
          try first | rw [n_b0] at h_45 | rw [n_eq0 (by omega)] at h_45
          have e : shS C h (nI a) y = -4 := by rw [shS, if_pos ⟨hb, hy⟩, hcl, ← heq.1, if_pos h_45]
          refine x_bipush (pc := 48) dX6_shortest_48 (v := -4) (by decide) ?_
          refine x_iret (pc := 50) dX6_shortest_50 rfl rfl ?_
          exact va_i ⟨by rw [e], ⟨hX, hT, hR, hC, hD, hH, hP1, hP2, ⟨_, hV0, hv0⟩, hV2⟩, hfr⟩
      · skip
        try first | rw [n_b1] at h_14 | rw [n_b00] at h_14 | rw [n_le (by omega) (by omega)] at h_14
        have hy : y < -2 := Int32.not_le.mp h_14
        refine x_iconst (pc := 17) dX6_shortest_17 (v := -1) (by decide) ?_
        refine x_iret (pc := 18) dX6_shortest_18 rfl rfl ?_
        exact va_i ⟨by rw [shS, if_neg (fun q => q.2 hy)], hx0, fun _ _ => rfl⟩
def ldS (C : Crt) (h : Hrg) (x y : Int32) : Int32 := if vtB C x = true ∧ ¬ y < 0 then (if v_fo (surZ C h.2 x.toNatClampNeg) = 0 ∨ ¬ y < nI (v_bl (surZ C h.2 x.toNatClampNeg)) then -4 else nI (dayA C (v_br (surZ C h.2 x.toNatClampNeg)) (y.toNatClampNeg + 1))) else -1
theorem extF_mem {f : Nat → List (List Nat)} {op : Nat} {p : List Nat} : ∀ k b, p ∈ extF f op k b → ∃ c q, b ≤ c ∧ c < b + k ∧ op.testBit c = true ∧ q ∈ f c ∧ p = c :: q
  | 0, b, h => by simp [extF] at h
  | k + 1, b, h => by
    simp only [extF] at h
    rcases List.mem_append.mp h with h | h
    · split at h
      · next hb =>
        obtain ⟨q, hq, rfl⟩ := List.mem_map.mp h
        exact ⟨b, q, Nat.le_refl _, by omega, hb, hq, rfl⟩
      · cases h
    · obtain ⟨c, q, h1, h2, h3⟩ := extF_mem k (b + 1) h
      exact ⟨c, q, by omega, by omega, h3⟩
theorem pthF_mem {C : Crt} (ok : okC C) {sk : Nat} : ∀ m ch last, last < cn C → ∀ p ∈ pthF C sk m ch last, (∀ x ∈ p, x < cn C) ∧ p.length ≤ m
  | 0, ch, last, hl, p, hp => by
    simp only [pthF] at hp
    split at hp
    · rw [List.mem_singleton.mp hp]; exact ⟨fun x hx => (by cases hx), Nat.le_refl _⟩
    · cases hp
  | m + 1, ch, last, hl, p, hp => by
    simp only [pthF] at hp
    split at hp
    · rw [List.mem_singleton.mp hp]; exact ⟨fun x hx => (by cases hx), Nat.zero_le _⟩
    · obtain ⟨c, q, h1, h2, h3, h4, rfl⟩ := extF_mem _ _ hp
      have hc : c < cn C := bit_in (opn_lt ok hl) h3
      obtain ⟨a1, a2⟩ := pthF_mem ok m _ c hc q h4
      exact ⟨fun x hx => (List.mem_cons.mp hx).elim (fun z => by rw [z]; exact hc) (a1 x), by simp; omega⟩
theorem rowsS_mem {C : Crt} (ok : okC C) {sk v : Nat} (hv : v < cn C) {r : List Nat} (hr : r ∈ rowsS C sk v) : (∀ x ∈ r, x < cn C) ∧ 0 < r.length ∧ r.length ≤ 10 := by
  unfold rowsS at hr
  split at hr
  · cases hr
  · obtain ⟨p, hp, rfl⟩ := List.mem_map.mp hr
    obtain ⟨a1, a2⟩ := pthF_mem ok 9 _ v hv p hp
    exact ⟨fun x hx => (List.mem_cons.mp hx).elim (fun z => by rw [z]; exact hv) (a1 x), by simp, by simp; omega⟩
/-- the best row is a row -/
def okB (C : Crt) (s : Srv) : Prop := 0 < v_fo s → ∀ i, i < v_bl s → v_br s i < cn C
theorem okB_note {C : Crt} {s : Srv} (hs : okB C s) {row : Nat → Nat} {L : Nat} (hr : ∀ i, i < L → row i < cn C) : okB C (noteS C s row L) := by
  intro _ i hi
  have hi : i < (if nbB C s row L then L else v_bl s) := hi
  show (if nbB C s row L then row else v_br s) i < cn C
  by_cases hb : nbB C s row L = true
  · rw [if_pos hb] at hi ⊢
    exact hr i hi
  · rw [if_neg hb] at hi ⊢
    have h0 : ¬ v_fo s = 0 := fun z => hb (decide_eq_true (Or.inl z))
    exact hs (by omega) i hi
theorem okB_fold {C : Crt} : ∀ (l : List ((Nat → Nat) × Nat)) {s : Srv}, okB C s → (∀ q ∈ l, ∀ i, i < q.2 → q.1 i < cn C) → okB C (foldN C s l)
  | [], _, h, _ => h
  | q :: l, _, h, h2 => okB_fold l (okB_note h (h2 q List.mem_cons_self)) fun q' hq' => h2 q' (List.mem_cons_of_mem _ hq')
theorem okB_sur {C : Crt} (ok : okC C) {sk v : Nat} (hv : v < cn C) (s0 : Srv) : okB C (surS C sk v s0) := by
  refine okB_fold _ (fun h => absurd h (Nat.lt_irrefl 0)) fun q hq i hi => ?_
  obtain ⟨r, hr, rfl⟩ := List.mem_map.mp hq
  exact (rowsS_mem ok hv hr).1 _ (getD_mem hi)
theorem c_laid {w : ax_W} {n : Nat} {T : List Nat} {C : Crt} {h : Hrg} {L K : List Hrg} (hx : isX w T C h L K) (ok : okX T C h L K) (x y : Int32) : Run m_X6_laid 15 0 0 0 (l_ent m_X6_laid [.ref 0, .int x, .int y]) [] w n (PX (ldS C h x y) T C h L K w n) := by
  have hx0 := hx
  obtain ⟨hX, hT, hR, hC, hD, hH, hP1, hP2, hV, hV2⟩ := hx
  obtain ⟨-, okC, okH, -⟩ := ok
  have hn := okC.1
  have hsk := okH.sk okC
  have hfr : ∀ j, 51 ≤ j → w j = w j := fun _ _ => rfl
  obtain ⟨hC1, -⟩ := id hC
  obtain ⟨hH1, -⟩ := id hH
  obtain ⟨s0, hV0, hv0⟩ := hV
  obtain ⟨hV1, -⟩ := id hV0
  rcases vtB_cases okC x with hb | ⟨a, ha, rfl, hb⟩
  · refine x_aload_n (pc := 0) dX6_laid_0 rfl ?_
    refine x_getf (pc := 1) dX6_laid_1 kf_X6_26 (by first | assumption | exact hC.1 | exact hH.1 | exact hV0.1 | exact hT.1) (by rfl) ?_
    refine x_iload_n (pc := 4) dX6_laid_4 rfl ?_
    refine x_cv1p (ci := 0) (pc := 5) dX6_laid_5 ks_X6_116 (by first | assumption | exact hC.1 | exact hH.1 | exact hV0.1 | exact hT.1) (by rfl) (by omega) (by rfl) (by rfl) (by rfl) (c_isVerdict hC okC _) ?_
    refine x_if_eq (pc := 8) dX6_laid_8 (tgt := 15) (by decide) (fun h_8 => ?_) (fun h_8 => ?_)
    · skip
      try first | rw [n_b0] at h_8 | rw [n_eq0 (by omega)] at h_8
      refine x_iconst (pc := 15) dX6_laid_15 (v := -1) (by decide) ?_
      refine x_iret (pc := 16) dX6_laid_16 rfl rfl ?_
      exact va_i ⟨by rw [ldS, if_neg (fun q => by rw [hb] at q; cases q.1)], hx0, fun _ _ => rfl⟩
    · skip
      try first | rw [n_b0] at h_8 | rw [n_eq0 (by omega)] at h_8
      exact absurd hb h_8
  · have hcl : (nI a).toNatClampNeg = a := n_cl (by omega)
    have heq := sur_eq C h.2 a s0
    have hlt := surZ_fo_lt C h.2 a
    rw [← heq.1] at hlt
    have hob := okB_sur okC (sk := h.2) ha s0
    refine x_aload_n (pc := 0) dX6_laid_0 rfl ?_
    refine x_getf (pc := 1) dX6_laid_1 kf_X6_26 (by first | assumption | exact hC.1 | exact hH.1 | exact hV0.1 | exact hT.1) (by rfl) ?_
    refine x_iload_n (pc := 4) dX6_laid_4 rfl ?_
    refine x_cv1p (ci := 0) (pc := 5) dX6_laid_5 ks_X6_116 (by first | assumption | exact hC.1 | exact hH.1 | exact hV0.1 | exact hT.1) (by rfl) (by omega) (by rfl) (by rfl) (by rfl) (c_isVerdict hC okC _) ?_
    refine x_if_eq (pc := 8) dX6_laid_8 (tgt := 15) (by decide) (fun h_8 => ?_) (fun h_8 => ?_)
    · skip
      try first | rw [n_b0] at h_8 | rw [n_eq0 (by omega)] at h_8
      rw [hb] at h_8; cases h_8
    · skip
      try first | rw [n_b0] at h_8 | rw [n_eq0 (by omega)] at h_8
      refine x_iload_n (pc := 11) dX6_laid_11 rfl ?_
      refine x_if_ge (pc := 12) dX6_laid_12 (tgt := 17) (by decide) (fun h_12 => ?_) (fun h_12 => ?_)
      · skip
        try first | rw [n_b0] at h_12 | rw [n_0le (by omega)] at h_12
        have hy : ¬ y < 0 := Int32.not_lt.mpr h_12
        obtain ⟨j, hj, rfl⟩ := nI_of hy
        have hcj : (nI j).toNatClampNeg = j := n_cl (by omega)
        refine x_aload_n (pc := 17) dX6_laid_17 rfl ?_
        refine x_getf (pc := 18) dX6_laid_18 kf_X6_55 (by first | assumption | exact hC.1 | exact hH.1 | exact hV0.1 | exact hT.1) (by rfl) ?_
        refine x_aload_n (pc := 21) dX6_laid_21 rfl ?_
        refine x_getf (pc := 22) dX6_laid_22 kf_X6_26 (by first | assumption | exact hC.1 | exact hH.1 | exact hV0.1 | exact hT.1) (by rfl) ?_
        refine x_iload_n (pc := 25) dX6_laid_25 rfl ?_
        refine x_aload_n (pc := 26) dX6_laid_26 rfl ?_
        refine x_getf (pc := 27) dX6_laid_27 kf_X6_36 (by first | assumption | exact hC.1 | exact hH.1 | exact hV0.1 | exact hT.1) (by rfl) ?_
        refine x_getf (pc := 30) dX6_laid_30 kf_X6_126 (by first | assumption | exact hC.1 | exact hH.1 | exact hV0.1 | exact hT.1) (by rfl) ?_
        refine x_cv3 (q1 := 0) (q2 := 0) (ci := 5) (pc := 33) dX6_laid_33 ks_X6_169 (by first | assumption | exact hC.1 | exact hH.1 | exact hV0.1 | exact hT.1) (by rfl) (by omega) (by rfl) (by rfl) (by rfl) (c_walkAll okC hsk ha (by omega) hV0 hv0 hC) (vo_kk fun w hP => ?_)
        obtain ⟨hV0, hv0, hq⟩ := hP
        replace hX := (hq _ (by omega)).trans hX
        replace hT := hT.go fun j q1 q2 => hq j (by omega)
        replace hR := hR.go fun j q1 q2 => hq j (by omega)
        replace hC := hC.go fun j q1 q2 => hq j (by omega)
        replace hD := hD.go fun j q1 q2 => hq j (by omega)
        replace hH := hH.go fun j q1 q2 => hq j (by omega)
        replace hP1 := hP1.go fun j q1 q2 => hq j (by omega)
        replace hP2 := hP2.go fun j q1 q2 => hq j (by omega)
        replace hV2 := hV2.go fun j q1 q2 => hq j (by omega)
        replace hfr := fun j (hj : 51 ≤ j) => (hq j (by omega)).trans (hfr j hj)
        clear hq
        refine x_aload_n (pc := 36) dX6_laid_36 rfl ?_
        refine x_getf (pc := 37) dX6_laid_37 kf_X6_55 (by first | assumption | exact hC.1 | exact hH.1 | exact hV0.1 | exact hT.1) (by rfl) ?_
        refine x_getf (pc := 40) dX6_laid_40 kf_X6_173 hV0.1 (by rfl) ?_
        refine x_if_eq (pc := 43) dX6_laid_43 (tgt := 57) (by decide) (fun h_43 => ?_) (fun h_43 => ?_)
        · skip
          try first | rw [n_b0] at h_43 | rw [n_eq0 (by omega)] at h_43
          have e : ldS C h (nI a) (nI j) = -4 := by rw [ldS, if_pos ⟨hb, hy⟩, hcl, ← heq.1, if_pos (Or.inl h_43)]
          refine x_bipush (pc := 57) dX6_laid_57 (v := -4) (by decide) ?_
          refine x_iret (pc := 59) dX6_laid_59 rfl rfl ?_
          exact va_i ⟨by rw [e], ⟨hX, hT, hR, hC, hD, hH, hP1, hP2, ⟨_, hV0, hv0⟩, hV2⟩, hfr⟩
        · skip
          try first | rw [n_b0] at h_43 | rw [n_eq0 (by omega)] at h_43
          obtain ⟨q1, q2, q3, q4⟩ := heq.2.2.2.2.1 (by omega)
          have hbl := hv0.1
          refine x_iload_n (pc := 46) dX6_laid_46 rfl ?_
          refine x_aload_n (pc := 47) dX6_laid_47 rfl ?_
          refine x_getf (pc := 48) dX6_laid_48 kf_X6_55 (by first | assumption | exact hC.1 | exact hH.1 | exact hV0.1 | exact hT.1) (by rfl) ?_
          refine x_getf (pc := 51) dX6_laid_51 kf_X6_179 hV0.1 (by rfl) ?_
          refine x_icmp_lt (pc := 54) dX6_laid_54 (tgt := 60) (by decide) (fun h_54 => ?_) (fun h_54 => ?_)
          · skip
            try first | rw [n_b1] at h_54 | rw [n_b00] at h_54 | rw [n_lt (by omega) (by omega)] at h_54
            have e : ldS C h (nI a) (nI j) = nI (dayA C (v_br (surS C h.2 a s0)) (j + 1)) := by rw [ldS, if_pos ⟨hb, hy⟩, hcl, ← q2, ← heq.1, if_neg (fun z => z.elim h_43 (fun z2 => z2 ((n_lt (by omega) (by omega)).mpr h_54))), ← q3, hcj]
            obtain ⟨-, fr, fb, fl, i1, i2, i3, i4, i5⟩ := id hV0
            refine x_aload_n (pc := 60) dX6_laid_60 rfl ?_
            refine x_getf (pc := 61) dX6_laid_61 kf_X6_26 (by first | assumption | exact hC.1 | exact hH.1 | exact hV0.1 | exact hT.1) (by rfl) ?_
            refine x_aload_n (pc := 64) dX6_laid_64 rfl ?_
            refine x_getf (pc := 65) dX6_laid_65 kf_X6_55 (by first | assumption | exact hC.1 | exact hH.1 | exact hV0.1 | exact hT.1) (by rfl) ?_
            refine x_getf (pc := 68) dX6_laid_68 kf_X6_182 hV0.1 (by rfl) ?_
            refine x_iload_n (pc := 71) dX6_laid_71 rfl ?_
            refine x_iconst (pc := 72) dX6_laid_72 (v := nI 1) (by decide) ?_
            first | refine xn_iadd (pc := 73) dX6_laid_73 ?_ | refine x_iadd (pc := 73) dX6_laid_73 ?_
            refine x_cv2p (ci := 0) (pc := 74) dX6_laid_74 ks_X6_220 (by first | assumption | exact hC.1 | exact hH.1 | exact hV0.1 | exact hT.1) (by rfl) (by omega) (by rfl) (by rfl) (by rfl) (c_daysOf hC okC i2 (by omega) (fun i hi => ⟨i4 i (by omega), hob (by omega) i (by omega)⟩)) ?_
            refine x_iret (pc := 77) dX6_laid_77 rfl rfl ?_
            exact va_i ⟨by rw [e], ⟨hX, hT, hR, hC, hD, hH, hP1, hP2, ⟨_, hV0, hv0⟩, hV2⟩, hfr⟩
          · skip
            try first | rw [n_b1] at h_54 | rw [n_b00] at h_54 | rw [n_lt (by omega) (by omega)] at h_54
            have e : ldS C h (nI a) (nI j) = -4 := by rw [ldS, if_pos ⟨hb, hy⟩, hcl, ← q2, if_pos (Or.inr (by rw [n_lt (by omega) (by omega)]; omega))]
            refine x_bipush (pc := 57) dX6_laid_57 (v := -4) (by decide) ?_
            refine x_iret (pc := 59) dX6_laid_59 rfl rfl ?_
            exact va_i ⟨by rw [e], ⟨hX, hT, hR, hC, hD, hH, hP1, hP2, ⟨_, hV0, hv0⟩, hV2⟩, hfr⟩
      · skip
        try first | rw [n_b0] at h_12 | rw [n_0le (by omega)] at h_12
        have hy : y < 0 := Int32.not_le.mp h_12
        refine x_iconst (pc := 15) dX6_laid_15 (v := -1) (by decide) ?_
        refine x_iret (pc := 16) dX6_laid_16 rfl rfl ?_
        exact va_i ⟨by rw [ldS, if_neg (fun q => q.2 hy)], hx0, fun _ _ => rfl⟩
