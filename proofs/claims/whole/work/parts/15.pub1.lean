/-! the object itself: its cells lie from 0 to 50 -/
def anyC (w : ax_W) (k : Nat) : Prop := ∃ C, isC w k C
def anyV (w : ax_W) (k : Nat) : Prop := ∃ v, isV w k v ∧ okV v
theorem anyC.go {w w' : ax_W} {k : Nat} (h : anyC w k) (hq : ∀ j, k ≤ j → j < k + 6 → w' j = w j) : anyC w' k := by
  obtain ⟨C, h⟩ := h
  exact ⟨C, h.go hq⟩
theorem anyV.go {w w' : ax_W} {k : Nat} (h : anyV w k) (hq : ∀ j, k ≤ j → j < k + 4 → w' j = w j) : anyV w' k := by
  obtain ⟨v, h, h2⟩ := h
  exact ⟨v, h.go hq, h2⟩
theorem anyR.go {w w' : ax_W} {k : Nat} (h : anyR w k) (hq : ∀ j, k ≤ j → j < k + 2 → w' j = w j) : anyR w' k := by
  obtain ⟨a, f, h0, h1⟩ := h
  exact ⟨a, f, by rw [hq _ (by omega) (by omega)]; exact h0, by rw [hq _ (by omega) (by omega)]; exact h1⟩
def isX (w : ax_W) (T : List Nat) (C : Crt) (h : Hrg) (L K : List Hrg) : Prop :=
  w 0 = ao 6 [.ref 1, .ref 3, .ref 5, .ref 11, .ref 17, .ref 19, .ref 37, .ref 43, .ref 47] ∧ isT w 1 T ∧ anyR w 3 ∧ isC w 5 C ∧ anyC w 11 ∧ isH w 17 h ∧ isS w 19 8 L ∧ isS w 37 2 K ∧ anyV w 43 ∧ anyV w 47
theorem isX.go {w w' : ax_W} {T : List Nat} {C : Crt} {h : Hrg} {L K : List Hrg} (hx : isX w T C h L K) (hq : ∀ j, j < 51 → w' j = w j) : isX w' T C h L K := by
  obtain ⟨h0, h1, h2, h3, h4, h5, h6, h7, h8, h9⟩ := hx
  exact ⟨(hq _ (by omega)).trans h0, h1.go fun j _ _ => hq j (by omega), h2.go fun j _ _ => hq j (by omega), h3.go fun j _ _ => hq j (by omega), h4.go fun j _ _ => hq j (by omega), h5.go fun j _ _ => hq j (by omega), h6.go fun j _ _ => hq j (by omega), h7.go fun j _ _ => hq j (by omega), h8.go fun j _ _ => hq j (by omega), h9.go fun j _ _ => hq j (by omega)⟩
/-- a state as it can be -/
def okX (T : List Nat) (C : Crt) (h : Hrg) (L K : List Hrg) : Prop := okT T ∧ okC C ∧ okH C h ∧ (∀ x ∈ L, okH C x) ∧ ∀ x ∈ K, okH C x
abbrev same51 (w w' : ax_W) : Prop := ∀ j, 51 ≤ j → w' j = w j
/-- an answer, and the state behind it -/
abbrev PX (r : Int32) (T : List Nat) (C : Crt) (h : Hrg) (L K : List Hrg) (w : ax_W) (n : Nat) : Option Value → ax_W → Nat → Prop := Va (fun v w' => v = .int r ∧ isX w' T C h L K ∧ same51 w w') n
theorem sw_cases (x : Int32) (N : Nat) (hN : N < 1000) : (∃ i, i < N ∧ x = nI i) ∨ (x.toInt < 0 ∨ (N : Int) - 1 < x.toInt) := by
  by_cases h : x.toInt < 0 ∨ (N : Int) - 1 < x.toInt
  · exact Or.inr h
  · refine Or.inl ⟨x.toInt.toNat, by omega, Int32.toInt_inj.mp ?_⟩
    rw [nI_toInt (by omega)]
    omega
theorem sw_ne {x : Int32} {N i : Nat} (h : x.toInt < 0 ∨ (N : Int) - 1 < x.toInt) (hi : i < N) (hN : N < 1000) : ¬ x = nI i := by
  intro q
  rw [q, nI_toInt (by omega)] at h
  omega
/-! write, wipe, fault, lay -/
def wrS (T : List Nat) (x : Int32) : Int32 × List Nat := if x < nI 32 ∨ nI 126 < x then (-1, T) else if T.length < 200 then (nI (T.length + 1), T ++ [x.toNatClampNeg]) else (-3, T)
theorem c_write {w : ax_W} {n : Nat} {T : List Nat} {C : Crt} {h : Hrg} {L K : List Hrg} (hx : isX w T C h L K) (ok : okX T C h L K) (x : Int32) : Run m_X6_write 2 0 0 0 (l_ent m_X6_write [.ref 0, .int x]) [] w n (PX (wrS T x).1 (wrS T x).2 C h L K w n) := by
  have hx0 := hx
  obtain ⟨hX, hT, hR, hC, hD, hH, hP1, hP2, hV, hV2⟩ := hx
  have hl := ok.1.1
  have hfr : ∀ j, 51 ≤ j → w j = w j := fun _ _ => rfl
  obtain ⟨hT1, -⟩ := id hT
  refine x_iload_n (pc := 0) dX6_write_0 rfl ?_
  refine x_bipush (pc := 1) dX6_write_1 (v := nI 32) (by decide) ?_
  refine x_bipush (pc := 3) dX6_write_3 (v := nI 126) (by decide) ?_
  refine x_cs3p (pc := 5) dX6_write_5 ks_X6_75 (by omega) (by rfl) (by rfl) (by rfl) (c_outside _ _ _) ?_
  refine x_if_eq (pc := 8) dX6_write_8 (tgt := 13) (by decide) (fun h_8 => ?_) (fun h_8 => ?_)
  · skip
    try first | rw [n_b0] at h_8 | rw [n_eq0 (by omega)] at h_8
    simp only [decide_eq_false_iff_not] at h_8
    obtain ⟨c, hc, rfl⟩ : ∃ c : Nat, c < 200 ∧ x = nI c := by
      have h1 : ¬ x < nI 32 := fun q => h_8 (Or.inl q)
      have h2 : ¬ nI 126 < x := fun q => h_8 (Or.inr q)
      obtain ⟨c, hc, rfl⟩ := nI_of (x := x) (by intro q; exact h1 (Int32.lt_trans q (by decide +kernel)))
      exact ⟨c, by rw [n_lt (by omega) (by omega)] at h2; omega, rfl⟩
    have hcl : (nI c).toNatClampNeg = c := n_cl (by omega)
    refine x_aload_n (pc := 13) dX6_write_13 rfl ?_
    refine x_getf (pc := 14) dX6_write_14 kf_X6_10 (by assumption) (by rfl) ?_
    refine x_iload_n (pc := 17) dX6_write_17 rfl ?_
    refine x_cv1 (q1 := 0) (q2 := 0) (ci := 3) (pc := 18) dX6_write_18 ks_X6_79 (by assumption) (by rfl) (by omega) (by rfl) (by rfl) (by rfl) (c_scriptAdd hT ok.1 hc) (va_kk fun v w hP => ?_)
    obtain ⟨rfl, hT2, hq⟩ := hP
    replace hX := (hq _ (by omega)).trans hX
    replace hR := hR.go fun j q1 q2 => hq j (by omega)
    replace hC := hC.go fun j q1 q2 => hq j (by omega)
    replace hD := hD.go fun j q1 q2 => hq j (by omega)
    replace hH := hH.go fun j q1 q2 => hq j (by omega)
    replace hP1 := hP1.go fun j q1 q2 => hq j (by omega)
    replace hP2 := hP2.go fun j q1 q2 => hq j (by omega)
    replace hV := hV.go fun j q1 q2 => hq j (by omega)
    replace hV2 := hV2.go fun j q1 q2 => hq j (by omega)
    replace hfr := fun j (hj : 51 ≤ j) => (hq j (by omega)).trans (hfr j hj)
    clear hq
    refine x_if_eq (pc := 21) dX6_write_21 (tgt := 34) (by decide) (fun h_21 => ?_) (fun h_21 => ?_)
    · skip
      try first | rw [n_b0] at h_21 | rw [n_eq0 (by omega)] at h_21
      simp at h_21
      have e : wrS T (nI c) = (-3, T) := by rw [wrS, if_neg h_8, if_neg (by omega)]
      have er : (-3 : Int32) = (wrS T (nI c)).1 := by rw [e]
      rw [if_neg (by omega)] at hT2
      refine x_bipush (pc := 34) dX6_write_34 (v := -3) (by decide) ?_
      refine x_iret (pc := 36) dX6_write_36 rfl rfl ?_
      exact va_i ⟨by rw [er], by rw [e]; exact ⟨hX, hT2, hR, hC, hD, hH, hP1, hP2, hV, hV2⟩, hfr⟩
    · skip
      try first | rw [n_b0] at h_21 | rw [n_eq0 (by omega)] at h_21
      simp at h_21
      have e : wrS T (nI c) = (nI (T.length + 1), T ++ [c]) := by rw [wrS, if_neg h_8, if_pos h_21, hcl]
      have er : nI (T ++ [c]).length = (wrS T (nI c)).1 := by rw [e]; simp
      rw [if_pos h_21] at hT2
      obtain ⟨hT3, -⟩ := id hT2
      refine x_aload_n (pc := 24) dX6_write_24 rfl ?_
      refine x_getf (pc := 25) dX6_write_25 kf_X6_10 (by assumption) (by rfl) ?_
      refine x_getf (pc := 28) dX6_write_28 kf_X6_83 (by assumption) (by rfl) ?_
      refine x_goto (pc := 31) dX6_write_31 (tgt := 36) (by decide) ?_
      refine x_iret (pc := 36) dX6_write_36 rfl rfl ?_
      exact va_i ⟨by rw [er], by rw [e]; exact ⟨hX, hT2, hR, hC, hD, hH, hP1, hP2, hV, hV2⟩, hfr⟩
  · skip
    try first | rw [n_b0] at h_8 | rw [n_eq0 (by omega)] at h_8
    simp only [Bool.not_eq_false, decide_eq_true_eq] at h_8
    have e : wrS T x = (-1, T) := by rw [wrS, if_pos h_8]
    refine x_iconst (pc := 11) dX6_write_11 (v := -1) (by decide) ?_
    refine x_iret (pc := 12) dX6_write_12 rfl rfl ?_
    exact va_i ⟨by rw [e], by rw [e]; exact hx0, fun _ _ => rfl⟩
theorem okX_write {T : List Nat} {C : Crt} {h : Hrg} {L K : List Hrg} (ok : okX T C h L K) (x : Int32) : okX (wrS T x).2 C h L K := by
  obtain ⟨⟨h1, h2⟩, h3⟩ := ok
  refine ⟨?_, h3⟩
  unfold wrS
  split
  · exact ⟨h1, h2⟩
  · next hn =>
    split
    · next hl =>
      have hx : 32 ≤ x.toNatClampNeg ∧ x.toNatClampNeg ≤ 126 := by
        have q1 : ¬ x < nI 32 := fun q => hn (Or.inl q)
        have q2 : ¬ nI 126 < x := fun q => hn (Or.inr q)
        obtain ⟨c, hc, rfl⟩ := nI_of (x := x) (by intro q; exact q1 (Int32.lt_trans q (by decide +kernel)))
        rw [n_lt (by omega) (by omega)] at q1 q2
        rw [n_cl (by omega)]
        omega
      refine ⟨by simp; omega, fun i hi => ?_⟩
      have hi' : i < T.length + 1 := by simpa using hi
      by_cases hit : i = T.length
      · subst hit
        rw [getD_last]
        exact hx
      · rw [getD_app (by omega)]
        exact h2 i (by omega)
    · exact ⟨h1, h2⟩
theorem c_wipe {w : ax_W} {n : Nat} {T : List Nat} {C : Crt} {h : Hrg} {L K : List Hrg} (hx : isX w T C h L K) : Run m_X6_wipe 1 0 0 0 (l_ent m_X6_wipe [.ref 0]) [] w n (PX (nI T.length) [] C h L K w n) := by
  obtain ⟨hX, hT, hR, hC, hD, hH, hP1, hP2, hV, hV2⟩ := hx
  have hfr : ∀ j, 51 ≤ j → w j = w j := fun _ _ => rfl
  obtain ⟨hT1, -⟩ := id hT
  refine x_aload_n (pc := 0) dX6_wipe_0 rfl ?_
  refine x_getf (pc := 1) dX6_wipe_1 kf_X6_10 (by assumption) (by rfl) ?_
  refine x_getf (pc := 4) dX6_wipe_4 kf_X6_83 (by assumption) (by rfl) ?_
  refine x_istore_n (pc := 7) dX6_wipe_7 rfl ?_
  refine x_aload_n (pc := 8) dX6_wipe_8 rfl ?_
  refine x_getf (pc := 9) dX6_wipe_9 kf_X6_10 (by assumption) (by rfl) ?_
  refine x_cv0 (q1 := 0) (q2 := 0) (ci := 3) (pc := 12) dX6_wipe_12 ks_X6_72 (by assumption) (by rfl) (by omega) (by rfl) (by rfl) (by rfl) (c_scriptClear hT) (vo_kk fun w hP => ?_)
  obtain ⟨hT2, hq⟩ := hP
  replace hX := (hq _ (by omega)).trans hX
  replace hR := hR.go fun j q1 q2 => hq j (by omega)
  replace hC := hC.go fun j q1 q2 => hq j (by omega)
  replace hD := hD.go fun j q1 q2 => hq j (by omega)
  replace hH := hH.go fun j q1 q2 => hq j (by omega)
  replace hP1 := hP1.go fun j q1 q2 => hq j (by omega)
  replace hP2 := hP2.go fun j q1 q2 => hq j (by omega)
  replace hV := hV.go fun j q1 q2 => hq j (by omega)
  replace hV2 := hV2.go fun j q1 q2 => hq j (by omega)
  replace hfr := fun j (hj : 51 ≤ j) => (hq j (by omega)).trans (hfr j hj)
  clear hq
  refine x_iload_n (pc := 15) dX6_wipe_15 rfl ?_
  refine x_iret (pc := 16) dX6_wipe_16 rfl rfl ?_
  exact va_i ⟨rfl, ⟨hX, hT2, hR, hC, hD, hH, hP1, hP2, hV, hV2⟩, hfr⟩
theorem okX_wipe {T : List Nat} {C : Crt} {h : Hrg} {L K : List Hrg} (ok : okX T C h L K) : okX [] C h L K := ⟨⟨Nat.zero_le _, fun i hi => absurd hi (Nat.not_lt_zero i)⟩, ok.2⟩
theorem c_fault {w : ax_W} {n : Nat} {T : List Nat} {C : Crt} {h : Hrg} {L K : List Hrg} (hx : isX w T C h L K) (ok : okX T C h L K) : Run m_X6_fault 5 0 0 0 (l_ent m_X6_fault [.ref 0]) [] w n (PX (rsI (raS T).1) T C h L K w n) := by
  obtain ⟨hX, hT, hR, hC, hD, hH, hP1, hP2, hV, hV2⟩ := hx
  have hfr : ∀ j, 51 ≤ j → w j = w j := fun _ _ => rfl
  obtain ⟨C0, hD0⟩ := hD
  obtain ⟨aR, fR, hR1, -⟩ := id hR
  refine x_aload_n (pc := 0) dX6_fault_0 rfl ?_
  refine x_getf (pc := 1) dX6_fault_1 kf_X6_19 (by assumption) (by rfl) ?_
  refine x_aload_n (pc := 4) dX6_fault_4 rfl ?_
  refine x_getf (pc := 5) dX6_fault_5 kf_X6_10 (by assumption) (by rfl) ?_
  refine x_aload_n (pc := 8) dX6_fault_8 rfl ?_
  refine x_getf (pc := 9) dX6_fault_9 kf_X6_30 (by assumption) (by rfl) ?_
  refine x_cv2 (q1 := 0) (q2 := 0) (ci := 2) (pc := 12) dX6_fault_12 ks_X6_68 (by assumption) (by rfl) (by omega) (by rfl) (by rfl) (by rfl) (c_readAll hR hT ok.1 hD0 (by omega) (by omega) (by omega)) (va_kk fun v w hP => ?_)
  obtain ⟨rfl, hD1, hRn, hq'⟩ := hP
  have hq : ∀ j, (j < 3 ∨ 5 ≤ j) ∧ (j < 11 ∨ 17 ≤ j) → w j = _ := fun j hj => hq' j hj.1 hj.2
  replace hX := (hq _ (by omega)).trans hX
  replace hT := hT.go fun j q1 q2 => hq j (by omega)
  replace hC := hC.go fun j q1 q2 => hq j (by omega)
  replace hH := hH.go fun j q1 q2 => hq j (by omega)
  replace hP1 := hP1.go fun j q1 q2 => hq j (by omega)
  replace hP2 := hP2.go fun j q1 q2 => hq j (by omega)
  replace hV := hV.go fun j q1 q2 => hq j (by omega)
  replace hV2 := hV2.go fun j q1 q2 => hq j (by omega)
  replace hfr := fun j (hj : 51 ≤ j) => (hq j (by omega)).trans (hfr j hj)
  clear hq
  refine x_iret (pc := 15) dX6_fault_15 rfl rfl ?_
  exact va_i ⟨rfl, ⟨hX, hT, hRn, hC, ⟨_, hD1⟩, hH, hP1, hP2, hV, hV2⟩, hfr⟩
/-- may it be LAID -/
def laB (T : List Nat) : Bool := decide ((raS T).1 = none ∧ ¬ vd (raS T).2 = 0)
theorem c_lay {w : ax_W} {n : Nat} {T : List Nat} {C : Crt} {h : Hrg} {L K : List Hrg} (hx : isX w T C h L K) (ok : okX T C h L K) : Run m_X6_lay 5 0 0 0 (l_ent m_X6_lay [.ref 0]) [] w n (if laB T then PX (nI (cn (raS T).2)) T (raS T).2 noH [] [] w n else PX (-2) T C h L K w n) := by
  obtain ⟨hX, hT, hR, hC, hD, hH, hP1, hP2, hV, hV2⟩ := hx
  have hfr : ∀ j, 51 ≤ j → w j = w j := fun _ _ => rfl
  obtain ⟨C0, hD0⟩ := hD
  obtain ⟨aR, fR, hR1, -⟩ := id hR
  have okR : okC (raS T).2 := okC_raF T 200 noC 0 okC_no
  have hvd := okR.vd
  have hrn : ¬ rsI (raS T).1 = -4 ↔ ∃ a, (raS T).1 = some a := by
    constructor
    · intro q
      cases hr : (raS T).1 with
      | none => rw [hr] at q; exact absurd rfl q
      | some a => exact ⟨a, rfl⟩
    · rintro ⟨a, ha⟩ q
      have hlt := raF_lt T 200 noC 0 a ha
      have hTl := ok.1.1
      rw [ha] at q
      have q2 : nI a = -4 := q
      have := congrArg (fun x : Int32 => x.toInt) q2
      rw [show (nI a).toInt = (a : Int) from nI_toInt (by omega)] at this
      have h4 : ((-4 : Int32)).toInt = -4 := by decide +kernel
      rw [h4] at this
      omega
  refine x_aload_n (pc := 0) dX6_lay_0 rfl ?_
  refine x_getf (pc := 1) dX6_lay_1 kf_X6_19 (by assumption) (by rfl) ?_
  refine x_aload_n (pc := 4) dX6_lay_4 rfl ?_
  refine x_getf (pc := 5) dX6_lay_5 kf_X6_10 (by assumption) (by rfl) ?_
  refine x_aload_n (pc := 8) dX6_lay_8 rfl ?_
  refine x_getf (pc := 9) dX6_lay_9 kf_X6_30 (by assumption) (by rfl) ?_
  refine x_cv2 (q1 := 0) (q2 := 0) (ci := 2) (pc := 12) dX6_lay_12 ks_X6_68 (by assumption) (by rfl) (by omega) (by rfl) (by rfl) (by rfl) (c_readAll hR hT ok.1 hD0 (by omega) (by omega) (by omega)) (va_kk fun v w hP => ?_)
  obtain ⟨rfl, hD1, hRn, hq'⟩ := hP
  have hq : ∀ j, (j < 3 ∨ 5 ≤ j) ∧ (j < 11 ∨ 17 ≤ j) → w j = _ := fun j hj => hq' j hj.1 hj.2
  replace hX := (hq _ (by omega)).trans hX
  replace hT := hT.go fun j q1 q2 => hq j (by omega)
  replace hC := hC.go fun j q1 q2 => hq j (by omega)
  replace hH := hH.go fun j q1 q2 => hq j (by omega)
  replace hP1 := hP1.go fun j q1 q2 => hq j (by omega)
  replace hP2 := hP2.go fun j q1 q2 => hq j (by omega)
  replace hV := hV.go fun j q1 q2 => hq j (by omega)
  replace hV2 := hV2.go fun j q1 q2 => hq j (by omega)
  replace hfr := fun j (hj : 51 ≤ j) => (hq j (by omega)).trans (hfr j hj)
  clear hq
  refine x_bipush (pc := 15) dX6_lay_15 (v := -4) (by decide) ?_
  refine x_icmp_ne (pc := 17) dX6_lay_17 (tgt := 30) (by decide) (fun h_17 => ?_) (fun h_17 => ?_)
  · skip
    try first | rw [n_b1] at h_17 | rw [n_b00] at h_17 | rw [n_eq (by omega) (by omega)] at h_17
    rw [hrn] at h_17
    obtain ⟨aa, haa⟩ := h_17
    have e : laB T = false := by simp [laB, haa]
    refine x_bipush (pc := 30) dX6_lay_30 (v := -2) (by decide) ?_
    refine x_iret (pc := 32) dX6_lay_32 rfl rfl ?_
    rw [e, if_neg (by decide)]
    exact va_i ⟨rfl, ⟨hX, hT, hRn, hC, ⟨_, hD1⟩, hH, hP1, hP2, hV, hV2⟩, hfr⟩
  · replace h_17 := Classical.not_not.mp h_17
    try first | rw [n_b1] at h_17 | rw [n_b00] at h_17 | rw [n_eq (by omega) (by omega)] at h_17
    have hnone : (raS T).1 = none := by
      cases hr : (raS T).1 with
      | none => rfl
      | some a => exact absurd h_17 (hrn.mpr ⟨a, hr⟩)
    obtain ⟨hD2, -⟩ := id hD1
    refine x_aload_n (pc := 20) dX6_lay_20 rfl ?_
    refine x_getf (pc := 21) dX6_lay_21 kf_X6_30 (by assumption) (by rfl) ?_
    refine x_getf (pc := 24) dX6_lay_24 kf_X6_87 (by assumption) (by rfl) ?_
    refine x_if_ne (pc := 27) dX6_lay_27 (tgt := 33) (by decide) (fun h_27 => ?_) (fun h_27 => ?_)
    · skip
      try first | rw [n_b0] at h_27 | rw [n_eq0 (by omega)] at h_27
      have e : laB T = true := by simp [laB, hnone, h_27]
      obtain ⟨hC2, -⟩ := id hC
      obtain ⟨hH2, -⟩ := id hH
      obtain ⟨t1, -, hS1, -⟩ := id hP1
      obtain ⟨t2, -, hS2, -⟩ := id hP2
      refine x_aload_n (pc := 33) dX6_lay_33 rfl ?_
      refine x_getf (pc := 34) dX6_lay_34 kf_X6_26 (by assumption) (by rfl) ?_
      refine x_aload_n (pc := 37) dX6_lay_37 rfl ?_
      refine x_getf (pc := 38) dX6_lay_38 kf_X6_30 (by assumption) (by rfl) ?_
      refine x_cv1 (q1 := 0) (q2 := 0) (ci := 0) (pc := 41) dX6_lay_41 ks_X6_90 (by assumption) (by rfl) (by omega) (by rfl) (by rfl) (by rfl) (c_copyC hC hD1 okR (by omega)) (vo_kk fun w hP => ?_)
      obtain ⟨hC, hq⟩ := hP
      replace hX := (hq _ (by omega)).trans hX
      replace hT := hT.go fun j q1 q2 => hq j (by omega)
      replace hRn := hRn.go fun j q1 q2 => hq j (by omega)
      replace hD1 := hD1.go fun j q1 q2 => hq j (by omega)
      replace hH := hH.go fun j q1 q2 => hq j (by omega)
      replace hP1 := hP1.go fun j q1 q2 => hq j (by omega)
      replace hP2 := hP2.go fun j q1 q2 => hq j (by omega)
      replace hV := hV.go fun j q1 q2 => hq j (by omega)
      replace hV2 := hV2.go fun j q1 q2 => hq j (by omega)
      replace hfr := fun j (hj : 51 ≤ j) => (hq j (by omega)).trans (hfr j hj)
      clear hq
      refine x_aload_n (pc := 44) dX6_lay_44 rfl ?_
      refine x_getf (pc := 45) dX6_lay_45 kf_X6_36 (by assumption) (by rfl) ?_
      refine x_cv0 (q1 := 0) (q2 := 0) (ci := 1) (pc := 48) dX6_lay_48 ks_X6_94 hH.1 (by rfl) (by omega) (by rfl) (by rfl) (by rfl) (c_hearClear hH) (vo_kk fun w hP => ?_)
      obtain ⟨hH, hq⟩ := hP
      replace hX := (hq _ (by omega)).trans hX
      replace hT := hT.go fun j q1 q2 => hq j (by omega)
      replace hRn := hRn.go fun j q1 q2 => hq j (by omega)
      replace hC := hC.go fun j q1 q2 => hq j (by omega)
      replace hD1 := hD1.go fun j q1 q2 => hq j (by omega)
      replace hP1 := hP1.go fun j q1 q2 => hq j (by omega)
      replace hP2 := hP2.go fun j q1 q2 => hq j (by omega)
      replace hV := hV.go fun j q1 q2 => hq j (by omega)
      replace hV2 := hV2.go fun j q1 q2 => hq j (by omega)
      replace hfr := fun j (hj : 51 ≤ j) => (hq j (by omega)).trans (hfr j hj)
      clear hq
      refine x_aload_n (pc := 51) dX6_lay_51 rfl ?_
      refine x_getf (pc := 52) dX6_lay_52 kf_X6_45 (by assumption) (by rfl) ?_
      refine x_cv0 (q1 := 0) (q2 := 0) (ci := 4) (pc := 55) dX6_lay_55 ks_X6_95 hP1.choose_spec.2.1 (by rfl) (by omega) (by rfl) (by rfl) (by rfl) (c_shelfClear hP1) (vo_kk fun w hP => ?_)
      obtain ⟨hP1, hq⟩ := hP
      replace hX := (hq _ (by omega)).trans hX
      replace hT := hT.go fun j q1 q2 => hq j (by omega)
      replace hRn := hRn.go fun j q1 q2 => hq j (by omega)
      replace hC := hC.go fun j q1 q2 => hq j (by omega)
      replace hD1 := hD1.go fun j q1 q2 => hq j (by omega)
      replace hH := hH.go fun j q1 q2 => hq j (by omega)
      replace hP2 := hP2.go fun j q1 q2 => hq j (by omega)
      replace hV := hV.go fun j q1 q2 => hq j (by omega)
      replace hV2 := hV2.go fun j q1 q2 => hq j (by omega)
      replace hfr := fun j (hj : 51 ≤ j) => (hq j (by omega)).trans (hfr j hj)
      clear hq
      refine x_aload_n (pc := 58) dX6_lay_58 rfl ?_
      refine x_getf (pc := 59) dX6_lay_59 kf_X6_49 (by assumption) (by rfl) ?_
      refine x_cv0 (q1 := 0) (q2 := 0) (ci := 4) (pc := 62) dX6_lay_62 ks_X6_95 hP2.choose_spec.2.1 (by rfl) (by omega) (by rfl) (by rfl) (by rfl) (c_shelfClear hP2) (vo_kk fun w hP => ?_)
      obtain ⟨hP2, hq⟩ := hP
      skip
      replace hX := (hq _ (by omega)).trans hX
      replace hT := hT.go fun j q1 q2 => hq j (by omega)
      replace hRn := hRn.go fun j q1 q2 => hq j (by omega)
      replace hC := hC.go fun j q1 q2 => hq j (by omega)
      replace hD1 := hD1.go fun j q1 q2 => hq j (by omega)
      replace hH := hH.go fun j q1 q2 => hq j (by omega)
      replace hP1 := hP1.go fun j q1 q2 => hq j (by omega)
      replace hV := hV.go fun j q1 q2 => hq j (by omega)
      replace hV2 := hV2.go fun j q1 q2 => hq j (by omega)
      replace hfr := fun j (hj : 51 ≤ j) => (hq j (by omega)).trans (hfr j hj)
      clear hq
      refine x_aload_n (pc := 65) dX6_lay_65 rfl ?_
      refine x_getf (pc := 66) dX6_lay_66 kf_X6_26 (by assumption) (by rfl) ?_
      refine x_getf (pc := 69) dX6_lay_69 kf_X6_96 hC.1 (by rfl) ?_
      refine x_iret (pc := 72) dX6_lay_72 rfl rfl ?_
      rw [e, if_pos rfl]
      exact va_i ⟨rfl, ⟨hX, hT, hRn, hC, ⟨_, hD1⟩, hH, hP1, hP2, hV, hV2⟩, hfr⟩
    · replace h_27 := Classical.not_not.mp h_27
      try first | rw [n_b0] at h_27 | rw [n_eq0 (by omega)] at h_27
      have e : laB T = false := by simp [laB, h_27]
      refine x_bipush (pc := 30) dX6_lay_30 (v := -2) (by decide) ?_
      refine x_iret (pc := 32) dX6_lay_32 rfl rfl ?_
      rw [e, if_neg (by decide)]
      exact va_i ⟨rfl, ⟨hX, hT, hRn, hC, ⟨_, hD1⟩, hH, hP1, hP2, hV, hV2⟩, hfr⟩
theorem okX_lay {T : List Nat} {C : Crt} {h : Hrg} {L K : List Hrg} (ok : okX T C h L K) : okX T (raS T).2 noH [] [] := ⟨ok.1, okC_raF T 200 noC 0 okC_no, okH_no _, fun x hx => (by cases hx), fun x hx => (by cases hx)⟩
/-! statement, argue, drop, strike, undo, argued, next, trial, keep, back, count -/
def stS (C : Crt) (h : Hrg) (x y : Int32) : Int32 :=
  if inB x (cn C) then (if y = nI 0 then nI (kd C x.toNatClampNeg) else if y = nI 1 then nI (co C x.toNatClampNeg) else if y = nI 2 then nI (sp C x.toNatClampNeg) else if y = nI 3 then nI (bN ((vd C).testBit x.toNatClampNeg)) else if y = nI 4 then nI (hg C x.toNatClampNeg) else if y = nI 5 then nI (bN (h.2.testBit x.toNatClampNeg)) else -1) else -1
theorem c_statement {w : ax_W} {n : Nat} {T : List Nat} {C : Crt} {h : Hrg} {L K : List Hrg} (hx : isX w T C h L K) (ok : okX T C h L K) (x y : Int32) : Run m_X6_statement 2 0 0 0 (l_ent m_X6_statement [.ref 0, .int x, .int y]) [] w n (PX (stS C h x y) T C h L K w n) := by
  have hx0 := hx
  obtain ⟨hX, hT, hR, hC, hD, hH, hP1, hP2, hV, hV2⟩ := hx
  obtain ⟨-, okC, okH, -⟩ := ok
  have hn := okC.1
  have hsk := okH.sk okC
  have hC0 := hC
  obtain ⟨hC1, f1, f2, f3, f4, f5, g1, g2, g3, g4, g5, g6, g7⟩ := hC
  obtain ⟨hH1, -⟩ := hH
  rcases inB_cases x (n := cn C) (by omega) with hb | ⟨a, ha, rfl⟩
  · refine x_aload_n (pc := 0) dX6_statement_0 rfl ?_
    refine x_getf (pc := 1) dX6_statement_1 kf_X6_26 (by assumption) (by rfl) ?_
    refine x_iload_n (pc := 4) dX6_statement_4 rfl ?_
    refine x_cv1p (ci := 0) (pc := 5) dX6_statement_5 ks_X6_99 (by assumption) (by rfl) (by omega) (by rfl) (by rfl) (by rfl) (c_isStatement hC0 _) ?_
    refine x_if_ne (pc := 8) dX6_statement_8 (tgt := 13) (by decide) (fun h_8 => ?_) (fun h_8 => ?_)
    · skip
      try first | rw [n_b0] at h_8 | rw [n_eq0 (by omega)] at h_8
      exact absurd hb h_8
    · replace h_8 := Classical.not_not.mp h_8
      try first | rw [n_b0] at h_8 | rw [n_eq0 (by omega)] at h_8
      refine x_iconst (pc := 11) dX6_statement_11 (v := -1) (by decide) ?_
      refine x_iret (pc := 12) dX6_statement_12 rfl rfl ?_
      exact va_i ⟨by rw [stS, if_neg (by rw [hb]; decide)], hx0, fun _ _ => rfl⟩
  · have hb : inB (nI a) (cn C) = true := by rw [inB_n (by omega) (by omega)]; simpa using ha
    have hcl : (nI a).toNatClampNeg = a := n_cl (by omega)
    have hga := g6 a ha
    refine x_aload_n (pc := 0) dX6_statement_0 rfl ?_
    refine x_getf (pc := 1) dX6_statement_1 kf_X6_26 (by assumption) (by rfl) ?_
    refine x_iload_n (pc := 4) dX6_statement_4 rfl ?_
    refine x_cv1p (ci := 0) (pc := 5) dX6_statement_5 ks_X6_99 (by assumption) (by rfl) (by omega) (by rfl) (by rfl) (by rfl) (c_isStatement hC0 _) ?_
    refine x_if_ne (pc := 8) dX6_statement_8 (tgt := 13) (by decide) (fun h_8 => ?_) (fun h_8 => ?_)
    · skip
      try first | rw [n_b0] at h_8 | rw [n_eq0 (by omega)] at h_8
      refine x_iload_n (pc := 13) dX6_statement_13 rfl ?_
      rcases sw_cases y 6 (by decide) with ⟨i, hi, rfl⟩ | hout
      · rcases (by omega : i = 0 ∨ i = 1 ∨ i = 2 ∨ i = 3 ∨ i = 4 ∨ i = 5) with rfl | rfl | rfl | rfl | rfl | rfl
        · refine x_tableIn (pc := 14) dX6_statement_14 (tgt := 52) (off := 38) (by decide +kernel) (by decide +kernel) (by decide +kernel) (by decide) ?_
          refine x_aload_n (pc := 52) dX6_statement_52 rfl ?_
          refine x_getf (pc := 53) dX6_statement_53 kf_X6_26 (by assumption) (by rfl) ?_
          refine x_getf (pc := 56) dX6_statement_56 kf_X6_102 (by assumption) (by rfl) ?_
          refine x_iload_n (pc := 59) dX6_statement_59 rfl ?_
          refine x_cs2p (pc := 60) dX6_statement_60 ks_X6_106 (by omega) (by rfl) (by rfl) (by rfl) (c_at (by assumption) (by omega) (by omega)) ?_
          refine x_iret (pc := 63) dX6_statement_63 rfl rfl ?_
          exact va_i ⟨by rw [hga.1, stS, if_pos hb, if_pos rfl, hcl], hx0, fun _ _ => rfl⟩
        · refine x_tableIn (pc := 14) dX6_statement_14 (tgt := 64) (off := 50) (by decide +kernel) (by decide +kernel) (by decide +kernel) (by decide) ?_
          refine x_aload_n (pc := 64) dX6_statement_64 rfl ?_
          refine x_getf (pc := 65) dX6_statement_65 kf_X6_26 (by assumption) (by rfl) ?_
          refine x_getf (pc := 68) dX6_statement_68 kf_X6_110 (by assumption) (by rfl) ?_
          refine x_iload_n (pc := 71) dX6_statement_71 rfl ?_
          refine x_cs2p (pc := 72) dX6_statement_72 ks_X6_106 (by omega) (by rfl) (by rfl) (by rfl) (c_at (by assumption) (by omega) (by omega)) ?_
          refine x_iret (pc := 75) dX6_statement_75 rfl rfl ?_
          exact va_i ⟨by rw [hga.2.1, stS, if_pos hb, if_neg (by decide +kernel), if_pos rfl, hcl], hx0, fun _ _ => rfl⟩
        · refine x_tableIn (pc := 14) dX6_statement_14 (tgt := 76) (off := 62) (by decide +kernel) (by decide +kernel) (by decide +kernel) (by decide) ?_
          refine x_aload_n (pc := 76) dX6_statement_76 rfl ?_
          refine x_getf (pc := 77) dX6_statement_77 kf_X6_26 (by assumption) (by rfl) ?_
          refine x_getf (pc := 80) dX6_statement_80 kf_X6_113 (by assumption) (by rfl) ?_
          refine x_iload_n (pc := 83) dX6_statement_83 rfl ?_
          refine x_cs2p (pc := 84) dX6_statement_84 ks_X6_106 (by omega) (by rfl) (by rfl) (by rfl) (c_at (by assumption) (by omega) (by omega)) ?_
          refine x_iret (pc := 87) dX6_statement_87 rfl rfl ?_
          exact va_i ⟨by rw [hga.2.2.1, stS, if_pos hb, if_neg (by decide +kernel), if_neg (by decide +kernel), if_pos rfl, hcl], hx0, fun _ _ => rfl⟩
        · refine x_tableIn (pc := 14) dX6_statement_14 (tgt := 88) (off := 74) (by decide +kernel) (by decide +kernel) (by decide +kernel) (by decide) ?_
          refine x_aload_n (pc := 88) dX6_statement_88 rfl ?_
          refine x_getf (pc := 89) dX6_statement_89 kf_X6_26 (by assumption) (by rfl) ?_
          refine x_iload_n (pc := 92) dX6_statement_92 rfl ?_
          refine x_cv1p (ci := 0) (pc := 93) dX6_statement_93 ks_X6_116 (by assumption) (by rfl) (by omega) (by rfl) (by rfl) (by rfl) (c_isVerdict hC0 okC _) ?_
          refine x_cs1p (pc := 96) dX6_statement_96 ks_X6_119 (by omega) (by rfl) (by rfl) (by rfl) (c_asNumber _) ?_
          refine x_iret (pc := 99) dX6_statement_99 rfl rfl ?_
          exact va_i ⟨by rw [vtB_n okC ha, stS, if_pos hb, if_neg (by decide +kernel), if_neg (by decide +kernel), if_neg (by decide +kernel), if_pos rfl, hcl], hx0, fun _ _ => rfl⟩
        · refine x_tableIn (pc := 14) dX6_statement_14 (tgt := 100) (off := 86) (by decide +kernel) (by decide +kernel) (by decide +kernel) (by decide) ?_
          refine x_aload_n (pc := 100) dX6_statement_100 rfl ?_
          refine x_getf (pc := 101) dX6_statement_101 kf_X6_26 (by assumption) (by rfl) ?_
          refine x_getf (pc := 104) dX6_statement_104 kf_X6_123 (by assumption) (by rfl) ?_
          refine x_iload_n (pc := 107) dX6_statement_107 rfl ?_
          refine x_cs2p (pc := 108) dX6_statement_108 ks_X6_106 (by omega) (by rfl) (by rfl) (by rfl) (c_at (by assumption) (by omega) (by omega)) ?_
          refine x_iret (pc := 111) dX6_statement_111 rfl rfl ?_
          exact va_i ⟨by rw [hga.2.2.2, stS, if_pos hb, if_neg (by decide +kernel), if_neg (by decide +kernel), if_neg (by decide +kernel), if_neg (by decide +kernel), if_pos rfl, hcl], hx0, fun _ _ => rfl⟩
        · refine x_tableIn (pc := 14) dX6_statement_14 (tgt := 112) (off := 98) (by decide +kernel) (by decide +kernel) (by decide +kernel) (by decide) ?_
          refine x_aload_n (pc := 112) dX6_statement_112 rfl ?_
          refine x_getf (pc := 113) dX6_statement_113 kf_X6_36 (by assumption) (by rfl) ?_
          refine x_getf (pc := 116) dX6_statement_116 kf_X6_126 (by assumption) (by rfl) ?_
          refine x_iload_n (pc := 119) dX6_statement_119 rfl ?_
          refine x_cs2p (pc := 120) dX6_statement_120 ks_X6_129 (by omega) (by rfl) (by rfl) (by rfl) (c_has (by omega) (by omega)) ?_
          refine x_cs1p (pc := 123) dX6_statement_123 ks_X6_119 (by omega) (by rfl) (by rfl) (by rfl) (c_asNumber _) ?_
          refine x_iret (pc := 126) dX6_statement_126 rfl rfl ?_
          exact va_i ⟨by rw [stS, if_pos hb, if_neg (by decide +kernel), if_neg (by decide +kernel), if_neg (by decide +kernel), if_neg (by decide +kernel), if_neg (by decide +kernel), if_pos rfl, hcl], hx0, fun _ _ => rfl⟩
      · refine x_tableOut (pc := 14) dX6_statement_14 (tgt := 127) hout (by decide) ?_
        refine x_iconst (pc := 127) dX6_statement_127 (v := -1) (by decide) ?_
        refine x_iret (pc := 128) dX6_statement_128 rfl rfl ?_
        exact va_i ⟨by rw [stS, if_pos hb, if_neg (sw_ne hout (by decide) (by decide)), if_neg (sw_ne hout (by decide) (by decide)), if_neg (sw_ne hout (by decide) (by decide)), if_neg (sw_ne hout (by decide) (by decide)), if_neg (sw_ne hout (by decide) (by decide)), if_neg (sw_ne hout (by decide) (by decide))], hx0, fun _ _ => rfl⟩
    · replace h_8 := Classical.not_not.mp h_8
      try first | rw [n_b0] at h_8 | rw [n_eq0 (by omega)] at h_8
      rw [hb] at h_8; cases h_8
/-- can it come next -/
def arB (C : Crt) (h : Hrg) (x : Int32) : Bool := (nxS C h).testBit x.toNatClampNeg
theorem okH_arg {C : Crt} (ok : okC C) {h : Hrg} (hh : okH C h) {a : Nat} (hb : (nxS C h).testBit a = true) : okH C (h.1 ++ [a], h.2) ∧ h.1.length < 10 := by
  have han : a < cn C := bit_in (nxS_lt ok hh) hb
  have hna : a ∉ h.1 := by
    intro hm
    unfold nxS at hb
    by_cases h0 : h.1.length = 0
    · rw [List.length_eq_zero_iff.mp h0] at hm
      cases hm
    · rw [if_neg h0, opn_bit ok (hh.at (by omega)), (mbL_bit _ _).mpr hm] at hb
      simp at hb
  have hk : okH C (h.1 ++ [a], h.2) := by
    refine ⟨?_, fun x hx => ?_, hh.2.2⟩
    · show (h.1 ++ [a]).Nodup
      rw [List.nodup_append]
      refine ⟨hh.1, by simp, fun x hx y hy => ?_⟩
      rw [List.mem_singleton.mp hy]
      intro q
      exact hna (q ▸ hx)
    · rcases List.mem_append.mp hx with q | q
      · exact hh.2.1 x q
      · rw [List.mem_singleton.mp q]; exact han
  have h2 := hk.len ok
  exact ⟨hk, by simp at h2; omega⟩
theorem c_argue {w : ax_W} {n : Nat} {T : List Nat} {C : Crt} {h : Hrg} {L K : List Hrg} (hx : isX w T C h L K) (ok : okX T C h L K) (x : Int32) : Run m_X6_argue 4 0 0 0 (l_ent m_X6_argue [.ref 0, .int x]) [] w n (if inB x (cn C) then (if arB C h x then PX (nI (h.1.length + 1)) T C (h.1 ++ [x.toNatClampNeg], h.2) (shA 8 L h) K w n else PX (-2) T C h L K w n) else PX (-1) T C h L K w n) := by
  have hx0 := hx
  obtain ⟨hX, hT, hR, hC, hD, hH, hP1, hP2, hV, hV2⟩ := hx
  obtain ⟨-, okC, okH, -⟩ := ok
  have hn := okC.1
  have hnx := nxS_1024 okC okH
  obtain ⟨hC1, -⟩ := id hC
  obtain ⟨hH1, -⟩ := id hH
  have hfr : ∀ j, 51 ≤ j → w j = w j := fun _ _ => rfl
  rcases inB_cases x (n := cn C) (by omega) with hb | ⟨a, ha, rfl⟩
  · refine x_aload_n (pc := 0) dX6_argue_0 rfl ?_
    refine x_getf (pc := 1) dX6_argue_1 kf_X6_26 (by assumption) (by rfl) ?_
    refine x_iload_n (pc := 4) dX6_argue_4 rfl ?_
    refine x_cv1p (ci := 0) (pc := 5) dX6_argue_5 ks_X6_99 (by assumption) (by rfl) (by omega) (by rfl) (by rfl) (by rfl) (c_isStatement hC _) ?_
    refine x_if_ne (pc := 8) dX6_argue_8 (tgt := 13) (by decide) (fun h_8 => ?_) (fun h_8 => ?_)
    · skip
      try first | rw [n_b0] at h_8 | rw [n_eq0 (by omega)] at h_8
      exact absurd hb h_8
    · replace h_8 := Classical.not_not.mp h_8
      try first | rw [n_b0] at h_8 | rw [n_eq0 (by omega)] at h_8
      refine x_iconst (pc := 11) dX6_argue_11 (v := -1) (by decide) ?_
      refine x_iret (pc := 12) dX6_argue_12 rfl rfl ?_
      rw [hb, if_neg (by decide)]
      exact va_i ⟨rfl, hx0, fun _ _ => rfl⟩
  · have hb : inB (nI a) (cn C) = true := by rw [inB_n (by omega) (by omega)]; simpa using ha
    have hcl : (nI a).toNatClampNeg = a := n_cl (by omega)
    rw [hb, if_pos rfl, show arB C h (nI a) = (nxS C h).testBit a by unfold arB; rw [hcl], hcl]
    refine x_aload_n (pc := 0) dX6_argue_0 rfl ?_
    refine x_getf (pc := 1) dX6_argue_1 kf_X6_26 (by assumption) (by rfl) ?_
    refine x_iload_n (pc := 4) dX6_argue_4 rfl ?_
    refine x_cv1p (ci := 0) (pc := 5) dX6_argue_5 ks_X6_99 (by assumption) (by rfl) (by omega) (by rfl) (by rfl) (by rfl) (c_isStatement hC _) ?_
    refine x_if_ne (pc := 8) dX6_argue_8 (tgt := 13) (by decide) (fun h_8 => ?_) (fun h_8 => ?_)
    · skip
      try first | rw [n_b0] at h_8 | rw [n_eq0 (by omega)] at h_8
      refine x_aload_n (pc := 13) dX6_argue_13 rfl ?_
      refine x_getf (pc := 14) dX6_argue_14 kf_X6_36 (by assumption) (by rfl) ?_
      refine x_aload_n (pc := 17) dX6_argue_17 rfl ?_
      refine x_getf (pc := 18) dX6_argue_18 kf_X6_26 (by assumption) (by rfl) ?_
      refine x_cv1p (ci := 1) (pc := 21) dX6_argue_21 ks_X6_133 (by assumption) (by rfl) (by omega) (by rfl) (by rfl) (by rfl) (c_open okC hH okH hC) ?_
      refine x_iload_n (pc := 24) dX6_argue_24 rfl ?_
      refine x_cs2p (pc := 25) dX6_argue_25 ks_X6_129 (by omega) (by rfl) (by rfl) (by rfl) (c_has (by omega) (by omega)) ?_
      refine x_if_ne (pc := 28) dX6_argue_28 (tgt := 34) (by decide) (fun h_28 => ?_) (fun h_28 => ?_)
      · skip
        try first | rw [n_b0] at h_28 | rw [n_eq0 (by omega)] at h_28
        simp only [Bool.not_eq_false] at h_28
        rw [h_28, if_pos rfl]
        obtain ⟨okn, hl10⟩ := okH_arg okC okH h_28
        have hsh := hP1.choose_spec.2.1
        refine x_aload_n (pc := 34) dX6_argue_34 rfl ?_
        refine x_getf (pc := 35) dX6_argue_35 kf_X6_45 (by assumption) (by rfl) ?_
        refine x_aload_n (pc := 38) dX6_argue_38 rfl ?_
        refine x_getf (pc := 39) dX6_argue_39 kf_X6_36 (by assumption) (by rfl) ?_
        refine x_cv1 (q1 := 0) (q2 := 0) (ci := 4) (pc := 42) dX6_argue_42 ks_X6_137 (by assumption) (by rfl) (by omega) (by rfl) (by rfl) (by rfl) (c_shelfAdd hP1 (Or.inr rfl) hH (by omega) (by omega)) (vo_kk fun w hP => ?_)
        obtain ⟨hP1, hq⟩ := hP
        replace hX := (hq _ (by omega)).trans hX
        replace hT := hT.go fun j q1 q2 => hq j (by omega)
        replace hR := hR.go fun j q1 q2 => hq j (by omega)
        replace hC := hC.go fun j q1 q2 => hq j (by omega)
        replace hD := hD.go fun j q1 q2 => hq j (by omega)
        replace hH := hH.go fun j q1 q2 => hq j (by omega)
        replace hP2 := hP2.go fun j q1 q2 => hq j (by omega)
        replace hV := hV.go fun j q1 q2 => hq j (by omega)
        replace hV2 := hV2.go fun j q1 q2 => hq j (by omega)
        replace hfr := fun j (hj : 51 ≤ j) => (hq j (by omega)).trans (hfr j hj)
        clear hq
        refine x_aload_n (pc := 45) dX6_argue_45 rfl ?_
        refine x_getf (pc := 46) dX6_argue_46 kf_X6_36 (by assumption) (by rfl) ?_
        refine x_iload_n (pc := 49) dX6_argue_49 rfl ?_
        refine x_cv1 (q1 := 0) (q2 := 0) (ci := 1) (pc := 50) dX6_argue_50 ks_X6_140 hH.1 (by rfl) (by omega) (by rfl) (by rfl) (by rfl) (c_hearAdd hH hl10) (vo_kk fun w hP => ?_)
        obtain ⟨hH, hq⟩ := hP
        replace hX := (hq _ (by omega)).trans hX
        replace hT := hT.go fun j q1 q2 => hq j (by omega)
        replace hR := hR.go fun j q1 q2 => hq j (by omega)
        replace hC := hC.go fun j q1 q2 => hq j (by omega)
        replace hD := hD.go fun j q1 q2 => hq j (by omega)
        replace hP1 := hP1.go fun j q1 q2 => hq j (by omega)
        replace hP2 := hP2.go fun j q1 q2 => hq j (by omega)
        replace hV := hV.go fun j q1 q2 => hq j (by omega)
        replace hV2 := hV2.go fun j q1 q2 => hq j (by omega)
        replace hfr := fun j (hj : 51 ≤ j) => (hq j (by omega)).trans (hfr j hj)
        clear hq
        refine x_aload_n (pc := 53) dX6_argue_53 rfl ?_
        refine x_getf (pc := 54) dX6_argue_54 kf_X6_36 (by assumption) (by rfl) ?_
        refine x_getf (pc := 57) dX6_argue_57 kf_X6_142 hH.1 (by rfl) ?_
        refine x_iret (pc := 60) dX6_argue_60 rfl rfl ?_
        exact va_i ⟨by simp, ⟨hX, hT, hR, hC, hD, hH, hP1, hP2, hV, hV2⟩, hfr⟩
      · replace h_28 := Classical.not_not.mp h_28
        try first | rw [n_b0] at h_28 | rw [n_eq0 (by omega)] at h_28
        rw [h_28, if_neg (by decide)]
        refine x_bipush (pc := 31) dX6_argue_31 (v := -2) (by decide) ?_
        refine x_iret (pc := 33) dX6_argue_33 rfl rfl ?_
        exact va_i ⟨rfl, hx0, fun _ _ => rfl⟩
    · replace h_8 := Classical.not_not.mp h_8
      try first | rw [n_b0] at h_8 | rw [n_eq0 (by omega)] at h_8
      rw [hb] at h_8; cases h_8
theorem shA_mem {m : Nat} {L : List Hrg} {h x : Hrg} (hx : x ∈ shA m L h) : x ∈ L ∨ x = h := by
  unfold shA at hx
  rcases List.mem_append.mp hx with q | q
  · split at q
    · exact Or.inl (List.mem_of_mem_tail q)
    · exact Or.inl q
  · exact Or.inr (List.mem_singleton.mp q)
theorem okX_sh {T : List Nat} {C : Crt} {h h' : Hrg} {L K : List Hrg} (ok : okX T C h L K) (hh : okH C h') : okX T C h' (shA 8 L h) K :=
  ⟨ok.1, ok.2.1, hh, fun x hx => (shA_mem hx).elim (ok.2.2.2.1 x) (fun q => q ▸ ok.2.2.1), ok.2.2.2.2⟩
theorem c_drop {w : ax_W} {n : Nat} {T : List Nat} {C : Crt} {h : Hrg} {L K : List Hrg} (hx : isX w T C h L K) (ok : okX T C h L K) : Run m_X6_drop 4 0 0 0 (l_ent m_X6_drop [.ref 0]) [] w n (PX (nI h.1.length) T C ([], h.2) (shA 8 L h) K w n) := by
  obtain ⟨hX, hT, hR, hC, hD, hH, hP1, hP2, hV, hV2⟩ := hx
  obtain ⟨-, okC, okH, -⟩ := ok
  have hl := okH.len okC
  obtain ⟨hH1, -⟩ := id hH
  have hfr : ∀ j, 51 ≤ j → w j = w j := fun _ _ => rfl
  have hsh := hP1.choose_spec.2.1
  refine x_aload_n (pc := 0) dX6_drop_0 rfl ?_
  refine x_getf (pc := 1) dX6_drop_1 kf_X6_36 (by assumption) (by rfl) ?_
  refine x_getf (pc := 4) dX6_drop_4 kf_X6_142 (by assumption) (by rfl) ?_
  refine x_istore_n (pc := 7) dX6_drop_7 rfl ?_
  refine x_aload_n (pc := 8) dX6_drop_8 rfl ?_
  refine x_getf (pc := 9) dX6_drop_9 kf_X6_45 (by assumption) (by rfl) ?_
  refine x_aload_n (pc := 12) dX6_drop_12 rfl ?_
  refine x_getf (pc := 13) dX6_drop_13 kf_X6_36 (by assumption) (by rfl) ?_
  refine x_cv1 (q1 := 0) (q2 := 0) (ci := 4) (pc := 16) dX6_drop_16 ks_X6_137 (by assumption) (by rfl) (by omega) (by rfl) (by rfl) (by rfl) (c_shelfAdd hP1 (Or.inr rfl) hH (by omega) (by omega)) (vo_kk fun w hP => ?_)
  obtain ⟨hP1, hq⟩ := hP
  replace hX := (hq _ (by omega)).trans hX
  replace hT := hT.go fun j q1 q2 => hq j (by omega)
  replace hR := hR.go fun j q1 q2 => hq j (by omega)
  replace hC := hC.go fun j q1 q2 => hq j (by omega)
  replace hD := hD.go fun j q1 q2 => hq j (by omega)
  replace hH := hH.go fun j q1 q2 => hq j (by omega)
  replace hP2 := hP2.go fun j q1 q2 => hq j (by omega)
  replace hV := hV.go fun j q1 q2 => hq j (by omega)
  replace hV2 := hV2.go fun j q1 q2 => hq j (by omega)
  replace hfr := fun j (hj : 51 ≤ j) => (hq j (by omega)).trans (hfr j hj)
  clear hq
  refine x_aload_n (pc := 19) dX6_drop_19 rfl ?_
  refine x_getf (pc := 20) dX6_drop_20 kf_X6_36 (by assumption) (by rfl) ?_
  refine x_iconst (pc := 23) dX6_drop_23 (v := nI 0) (by decide) ?_
  obtain ⟨hH1, fh, gh, -⟩ := hH
  refine xw_puti (pc := 24) dX6_drop_24 kf_X6_142 hH1 (by rfl) (by rfl) rfl rfl (fun w hnew hq => ?_)
  have hH : isH w 17 ([], h.2) := ⟨hnew, fh, (hq _ (by omega)).trans gh, fun i hi => absurd hi (Nat.not_lt_zero i)⟩
  replace hX := (hq _ (by omega)).trans hX
  replace hT := hT.go fun j q1 q2 => hq j (by omega)
  replace hR := hR.go fun j q1 q2 => hq j (by omega)
  replace hC := hC.go fun j q1 q2 => hq j (by omega)
  replace hD := hD.go fun j q1 q2 => hq j (by omega)
  replace hP1 := hP1.go fun j q1 q2 => hq j (by omega)
  replace hP2 := hP2.go fun j q1 q2 => hq j (by omega)
  replace hV := hV.go fun j q1 q2 => hq j (by omega)
  replace hV2 := hV2.go fun j q1 q2 => hq j (by omega)
  replace hfr := fun j (hj : 51 ≤ j) => (hq j (by omega)).trans (hfr j hj)
  clear hq
  refine x_iload_n (pc := 27) dX6_drop_27 rfl ?_
  refine x_iret (pc := 28) dX6_drop_28 rfl rfl ?_
  exact va_i ⟨rfl, ⟨hX, hT, hR, hC, hD, hH, hP1, hP2, hV, hV2⟩, hfr⟩
theorem okX_drop {T : List Nat} {C : Crt} {h : Hrg} {L K : List Hrg} (ok : okX T C h L K) : okX T C ([], h.2) (shA 8 L h) K := okX_sh ok ⟨List.nodup_nil, fun x hx => (by cases hx), ok.2.2.1.2.2⟩
theorem c_strike {w : ax_W} {n : Nat} {T : List Nat} {C : Crt} {h : Hrg} {L K : List Hrg} (hx : isX w T C h L K) (ok : okX T C h L K) (x : Int32) : Run m_X6_strike 4 0 0 0 (l_ent m_X6_strike [.ref 0, .int x]) [] w n (if inB x (cn C) then (if (mbL h.1).testBit x.toNatClampNeg then PX (-2) T C h L K w n else PX (nI (bN ((h.2 ^^^ 2 ^ x.toNatClampNeg).testBit x.toNatClampNeg))) T C (h.1, h.2 ^^^ 2 ^ x.toNatClampNeg) (shA 8 L h) K w n) else PX (-1) T C h L K w n) := by
  have hx0 := hx
  obtain ⟨hX, hT, hR, hC, hD, hH, hP1, hP2, hV, hV2⟩ := hx
  obtain ⟨-, okC, okH, -⟩ := ok
  have hn := okC.1
  have hsk := okH.sk okC
  have hl := okH.len okC
  have hmb : mbL h.1 < 1024 := Nat.lt_of_lt_of_le (mbL_lt okH) okC.lt
  obtain ⟨hC1, -⟩ := id hC
  obtain ⟨hH1, -⟩ := id hH
  have hfr : ∀ j, 51 ≤ j → w j = w j := fun _ _ => rfl
  rcases inB_cases x (n := cn C) (by omega) with hb | ⟨a, ha, rfl⟩
  · refine x_aload_n (pc := 0) dX6_strike_0 rfl ?_
    refine x_getf (pc := 1) dX6_strike_1 kf_X6_26 (by assumption) (by rfl) ?_
    refine x_iload_n (pc := 4) dX6_strike_4 rfl ?_
    refine x_cv1p (ci := 0) (pc := 5) dX6_strike_5 ks_X6_99 (by assumption) (by rfl) (by omega) (by rfl) (by rfl) (by rfl) (c_isStatement hC _) ?_
    refine x_if_ne (pc := 8) dX6_strike_8 (tgt := 13) (by decide) (fun h_8 => ?_) (fun h_8 => ?_)
    · skip
      try first | rw [n_b0] at h_8 | rw [n_eq0 (by omega)] at h_8
      exact absurd hb h_8
    · replace h_8 := Classical.not_not.mp h_8
      try first | rw [n_b0] at h_8 | rw [n_eq0 (by omega)] at h_8
      refine x_iconst (pc := 11) dX6_strike_11 (v := -1) (by decide) ?_
      refine x_iret (pc := 12) dX6_strike_12 rfl rfl ?_
      rw [hb, if_neg (by decide)]
      exact va_i ⟨rfl, hx0, fun _ _ => rfl⟩
  · have hb : inB (nI a) (cn C) = true := by rw [inB_n (by omega) (by omega)]; simpa using ha
    have hcl : (nI a).toNatClampNeg = a := n_cl (by omega)
    have hxr : h.2 ^^^ 2 ^ a < 1024 := xor_1024 hsk (pow_10 (by omega))
    rw [hb, if_pos rfl, hcl]
    refine x_aload_n (pc := 0) dX6_strike_0 rfl ?_
    refine x_getf (pc := 1) dX6_strike_1 kf_X6_26 (by assumption) (by rfl) ?_
    refine x_iload_n (pc := 4) dX6_strike_4 rfl ?_
    refine x_cv1p (ci := 0) (pc := 5) dX6_strike_5 ks_X6_99 (by assumption) (by rfl) (by omega) (by rfl) (by rfl) (by rfl) (c_isStatement hC _) ?_
    refine x_if_ne (pc := 8) dX6_strike_8 (tgt := 13) (by decide) (fun h_8 => ?_) (fun h_8 => ?_)
    · skip
      try first | rw [n_b0] at h_8 | rw [n_eq0 (by omega)] at h_8
      refine x_aload_n (pc := 13) dX6_strike_13 rfl ?_
      refine x_getf (pc := 14) dX6_strike_14 kf_X6_36 (by assumption) (by rfl) ?_
      refine x_cv0p (ci := 1) (pc := 17) dX6_strike_17 ks_X6_143 (by assumption) (by rfl) (by omega) (by rfl) (by rfl) (by rfl) (c_members okC hH okH) ?_
      refine x_iload_n (pc := 20) dX6_strike_20 rfl ?_
      refine x_cs2p (pc := 21) dX6_strike_21 ks_X6_129 (by omega) (by rfl) (by rfl) (by rfl) (c_has (by omega) (by omega)) ?_
      refine x_if_eq (pc := 24) dX6_strike_24 (tgt := 30) (by decide) (fun h_24 => ?_) (fun h_24 => ?_)
      · skip
        try first | rw [n_b0] at h_24 | rw [n_eq0 (by omega)] at h_24
        rw [h_24, if_neg (by decide)]
        have hsh := hP1.choose_spec.2.1
        refine x_aload_n (pc := 30) dX6_strike_30 rfl ?_
        refine x_getf (pc := 31) dX6_strike_31 kf_X6_45 (by assumption) (by rfl) ?_
        refine x_aload_n (pc := 34) dX6_strike_34 rfl ?_
        refine x_getf (pc := 35) dX6_strike_35 kf_X6_36 (by assumption) (by rfl) ?_
        refine x_cv1 (q1 := 0) (q2 := 0) (ci := 4) (pc := 38) dX6_strike_38 ks_X6_137 (by assumption) (by rfl) (by omega) (by rfl) (by rfl) (by rfl) (c_shelfAdd hP1 (Or.inr rfl) hH (by omega) (by omega)) (vo_kk fun w hP => ?_)
        obtain ⟨hP1, hq⟩ := hP
        replace hX := (hq _ (by omega)).trans hX
        replace hT := hT.go fun j q1 q2 => hq j (by omega)
        replace hR := hR.go fun j q1 q2 => hq j (by omega)
        replace hC := hC.go fun j q1 q2 => hq j (by omega)
        replace hD := hD.go fun j q1 q2 => hq j (by omega)
        replace hH := hH.go fun j q1 q2 => hq j (by omega)
        replace hP2 := hP2.go fun j q1 q2 => hq j (by omega)
        replace hV := hV.go fun j q1 q2 => hq j (by omega)
        replace hV2 := hV2.go fun j q1 q2 => hq j (by omega)
        replace hfr := fun j (hj : 51 ≤ j) => (hq j (by omega)).trans (hfr j hj)
        clear hq
        refine x_aload_n (pc := 41) dX6_strike_41 rfl ?_
        refine x_getf (pc := 42) dX6_strike_42 kf_X6_36 (by assumption) (by rfl) ?_
        refine x_dup (pc := 45) dX6_strike_45 rfl ?_
        refine x_getf (pc := 46) dX6_strike_46 kf_X6_126 hH.1 (by rfl) ?_
        refine x_iload_n (pc := 49) dX6_strike_49 rfl ?_
        refine x_cs1p (pc := 50) dX6_strike_50 ks_X6_147 (by omega) (by rfl) (by rfl) (by rfl) (c_bit (by omega)) ?_
        first | refine xn_ixor (pc := 53) dX6_strike_53 ?_ | refine x_ixor (pc := 53) dX6_strike_53 ?_
        obtain ⟨hH1, fh, gh, gh2⟩ := hH
        refine xw_puti (pc := 54) dX6_strike_54 kf_X6_126 hH1 (by rfl) (by rfl) rfl rfl (fun w hnew hq => ?_)
        have hH : isH w 17 (h.1, h.2 ^^^ 2 ^ a) := ⟨hnew, fh, (hq _ (by omega)).trans gh, gh2⟩
        replace hX := (hq _ (by omega)).trans hX
        replace hT := hT.go fun j q1 q2 => hq j (by omega)
        replace hR := hR.go fun j q1 q2 => hq j (by omega)
        replace hC := hC.go fun j q1 q2 => hq j (by omega)
        replace hD := hD.go fun j q1 q2 => hq j (by omega)
        replace hP1 := hP1.go fun j q1 q2 => hq j (by omega)
        replace hP2 := hP2.go fun j q1 q2 => hq j (by omega)
        replace hV := hV.go fun j q1 q2 => hq j (by omega)
        replace hV2 := hV2.go fun j q1 q2 => hq j (by omega)
        replace hfr := fun j (hj : 51 ≤ j) => (hq j (by omega)).trans (hfr j hj)
        clear hq
        refine x_aload_n (pc := 57) dX6_strike_57 rfl ?_
        refine x_getf (pc := 58) dX6_strike_58 kf_X6_36 (by assumption) (by rfl) ?_
        refine x_getf (pc := 61) dX6_strike_61 kf_X6_126 hH.1 (by rfl) ?_
        refine x_iload_n (pc := 64) dX6_strike_64 rfl ?_
        refine x_cs2p (pc := 65) dX6_strike_65 ks_X6_129 (by omega) (by rfl) (by rfl) (by rfl) (c_has (by omega) (by omega)) ?_
        refine x_cs1p (pc := 68) dX6_strike_68 ks_X6_119 (by omega) (by rfl) (by rfl) (by rfl) (c_asNumber _) ?_
        refine x_iret (pc := 71) dX6_strike_71 rfl rfl ?_
        exact va_i ⟨rfl, ⟨hX, hT, hR, hC, hD, hH, hP1, hP2, hV, hV2⟩, hfr⟩
      · skip
        try first | rw [n_b0] at h_24 | rw [n_eq0 (by omega)] at h_24
        simp only [Bool.not_eq_false] at h_24
        rw [h_24, if_pos rfl]
        refine x_bipush (pc := 27) dX6_strike_27 (v := -2) (by decide) ?_
        refine x_iret (pc := 29) dX6_strike_29 rfl rfl ?_
        exact va_i ⟨rfl, hx0, fun _ _ => rfl⟩
    · replace h_8 := Classical.not_not.mp h_8
      try first | rw [n_b0] at h_8 | rw [n_eq0 (by omega)] at h_8
      rw [hb] at h_8; cases h_8
theorem okX_strike {T : List Nat} {C : Crt} {h : Hrg} {L K : List Hrg} (ok : okX T C h L K) {a : Nat} (ha : a < cn C) : okX T C (h.1, h.2 ^^^ 2 ^ a) (shA 8 L h) K := okX_sh ok ⟨ok.2.2.1.1, ok.2.2.1.2.1, Nat.xor_lt_two_pow ok.2.2.1.2.2 (pow_lt ha)⟩
