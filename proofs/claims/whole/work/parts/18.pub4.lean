/-! forgotten, who, fits, look -/
theorem vtB_nat {C : Crt} (ok : okC C) {a : Nat} (ha : a < 100) : vtB C (nI a) = (vd C).testBit a := by
  have hn := ok.1
  unfold vtB
  rw [inB_n (by omega) (by omega), n_cl (by omega)]
  cases hb : (vd C).testBit a with
  | false => simp
  | true => have := bit_in ok.2.2.1 hb; simp [this]
def tdA (C : Crt) (sk : Nat) : Nat → Nat
  | 0 => 0
  | k + 1 => if (vd C).testBit k then tdA C sk k ||| v_td (surZ C sk k) else tdA C sk k
def fgS' (C : Crt) (h : Hrg) : Nat := nd (nd (2 ^ cn C - 1) h.2) (tdA C h.2 10)
theorem c_forgotten {w : ax_W} {n : Nat} {T : List Nat} {C : Crt} {h : Hrg} {L K : List Hrg} (hx : isX w T C h L K) (ok : okX T C h L K) : Run m_X6_forgotten 15 0 0 0 (l_ent m_X6_forgotten [.ref 0]) [] w n (PX (nI (fgS' C h)) T C h L K w n) := by
  obtain ⟨-, okC, okH, -⟩ := ok
  have hn := okC.1
  have hsk := okH.sk okC
  have loop : ∀ m b (w1 : ax_W), b + m = 10 → isX w1 T C h L K → same51 w w1 → Run m_X6_forgotten 15 0 0 4 [some (.ref 0), some (.int (nI (tdA C h.2 b))), some (.int (nI b))] [] w1 n (PX (nI (fgS' C h)) T C h L K w n) := by
    intro m
    induction m with
    | zero =>
      intro b w1 hb hx hfr
      have hx0 := hx
      obtain ⟨hX, hT, hR, hC, hD, hH, hP1, hP2, hV, hV2⟩ := hx
      have hbb : b = 10 := by omega
      subst hbb
      obtain ⟨hC1, -⟩ := id hC
      obtain ⟨hH1, -⟩ := id hH
      refine x_iload_n (pc := 4) dX6_forgotten_4 rfl ?_
      refine x_bipush (pc := 5) dX6_forgotten_5 (v := nI 10) (by decide) ?_
      refine x_icmp_ge_t (pc := 7) dX6_forgotten_7 (tgt := 56) (by decide) (nI_le (by omega) (by omega)) ?_
      refine x_aload_n (pc := 56) dX6_forgotten_56 rfl ?_
      refine x_getf (pc := 57) dX6_forgotten_57 kf_X6_26 (by first | assumption | exact hC.1 | exact hH.1 | exact hV0.1 | exact hT.1) (by rfl) ?_
      refine x_cv0p (ci := 0) (pc := 60) dX6_forgotten_60 ks_X6_194 (by first | assumption | exact hC.1 | exact hH.1 | exact hV0.1 | exact hT.1) (by rfl) (by omega) (by rfl) (by rfl) (by rfl) (c_all hC okC) ?_
      refine x_aload_n (pc := 63) dX6_forgotten_63 rfl ?_
      refine x_getf (pc := 64) dX6_forgotten_64 kf_X6_36 (by first | assumption | exact hC.1 | exact hH.1 | exact hV0.1 | exact hT.1) (by rfl) ?_
      refine x_getf (pc := 67) dX6_forgotten_67 kf_X6_126 (by first | assumption | exact hC.1 | exact hH.1 | exact hV0.1 | exact hT.1) (by rfl) ?_
      refine x_iconst (pc := 70) dX6_forgotten_70 (v := nI 4294967295) (by decide) ?_
      first | refine xn_ixor (pc := 71) dX6_forgotten_71 ?_ | refine x_ixor (pc := 71) dX6_forgotten_71 ?_
      first | refine xn_bit (pc := 72) dX6_forgotten_72 ?_ | refine xn_nd (pc := 72) dX6_forgotten_72 ?_ | refine xn_iand (pc := 72) dX6_forgotten_72 ?_ | refine x_iand (pc := 72) dX6_forgotten_72 ?_
      refine x_iload_n (pc := 73) dX6_forgotten_73 rfl ?_
      refine x_iconst (pc := 74) dX6_forgotten_74 (v := nI 4294967295) (by decide) ?_
      first | refine xn_ixor (pc := 75) dX6_forgotten_75 ?_ | refine x_ixor (pc := 75) dX6_forgotten_75 ?_
      first | refine xn_bit (pc := 76) dX6_forgotten_76 ?_ | refine xn_nd (pc := 76) dX6_forgotten_76 ?_ | refine xn_iand (pc := 76) dX6_forgotten_76 ?_ | refine x_iand (pc := 76) dX6_forgotten_76 ?_
      refine x_iret (pc := 77) dX6_forgotten_77 rfl rfl ?_
      exact va_i ⟨rfl, hx0, hfr⟩
    | succ m ih =>
      intro b w hb hx hfr
      have hx0 := hx
      obtain ⟨hX, hT, hR, hC, hD, hH, hP1, hP2, hV, hV2⟩ := hx
      obtain ⟨hC1, -⟩ := id hC
      obtain ⟨hH1, -⟩ := id hH
      obtain ⟨s0, hV0, hv0⟩ := hV
      obtain ⟨hV1, -⟩ := id hV0
      have heq := sur_eq C h.2 b s0
      refine x_iload_n (pc := 4) dX6_forgotten_4 rfl ?_
      refine x_bipush (pc := 5) dX6_forgotten_5 (v := nI 10) (by decide) ?_
      refine x_icmp_ge_f (pc := 7) dX6_forgotten_7 (tgt := 56) (by decide) (nI_ge (by omega) (by omega)) ?_
      refine x_aload_n (pc := 10) dX6_forgotten_10 rfl ?_
      refine x_getf (pc := 11) dX6_forgotten_11 kf_X6_26 (by first | assumption | exact hC.1 | exact hH.1 | exact hV0.1 | exact hT.1) (by rfl) ?_
      refine x_iload_n (pc := 14) dX6_forgotten_14 rfl ?_
      refine x_cv1p (ci := 0) (pc := 15) dX6_forgotten_15 ks_X6_116 (by first | assumption | exact hC.1 | exact hH.1 | exact hV0.1 | exact hT.1) (by rfl) (by omega) (by rfl) (by rfl) (by rfl) (c_isVerdict hC okC _) ?_
      rw [vtB_nat okC (by omega)]
      refine x_if_eq (pc := 18) dX6_forgotten_18 (tgt := 50) (by decide) (fun h_18 => ?_) (fun h_18 => ?_)
      · skip
        try first | rw [n_b0] at h_18 | rw [n_eq0 (by omega)] at h_18
        have e : tdA C h.2 (b + 1) = tdA C h.2 b := by simp only [tdA]; rw [if_neg (by rw [h_18]; decide)]
        refine xn_iinc (pc := 50) dX6_forgotten_50 rfl rfl ?_
        refine x_goto (pc := 53) dX6_forgotten_53 (tgt := 4) (by decide) ?_
        exact (by rw [← e]; exact ih (b + 1) w (by omega) hx0 hfr)
      · skip
        try first | rw [n_b0] at h_18 | rw [n_eq0 (by omega)] at h_18
        simp only [Bool.not_eq_false] at h_18
        have hbn := bit_in okC.2.2.1 h_18
        have e : tdA C h.2 (b + 1) = tdA C h.2 b ||| v_td (surS C h.2 b s0) := by simp only [tdA]; rw [if_pos h_18, ← heq.2.2.2.1]
        refine x_aload_n (pc := 21) dX6_forgotten_21 rfl ?_
        refine x_getf (pc := 22) dX6_forgotten_22 kf_X6_55 (by first | assumption | exact hC.1 | exact hH.1 | exact hV0.1 | exact hT.1) (by rfl) ?_
        refine x_aload_n (pc := 25) dX6_forgotten_25 rfl ?_
        refine x_getf (pc := 26) dX6_forgotten_26 kf_X6_26 (by first | assumption | exact hC.1 | exact hH.1 | exact hV0.1 | exact hT.1) (by rfl) ?_
        refine x_iload_n (pc := 29) dX6_forgotten_29 rfl ?_
        refine x_aload_n (pc := 30) dX6_forgotten_30 rfl ?_
        refine x_getf (pc := 31) dX6_forgotten_31 kf_X6_36 (by first | assumption | exact hC.1 | exact hH.1 | exact hV0.1 | exact hT.1) (by rfl) ?_
        refine x_getf (pc := 34) dX6_forgotten_34 kf_X6_126 (by first | assumption | exact hC.1 | exact hH.1 | exact hV0.1 | exact hT.1) (by rfl) ?_
        refine x_cv3 (q1 := 0) (q2 := 0) (ci := 5) (pc := 37) dX6_forgotten_37 ks_X6_169 (by first | assumption | exact hC.1 | exact hH.1 | exact hV0.1 | exact hT.1) (by rfl) (by omega) (by rfl) (by rfl) (by rfl) (c_walkAll okC hsk hbn (by omega) hV0 hv0 hC) (vo_kk fun w hP => ?_)
        obtain ⟨hV0, hv0, hq⟩ := hP
        replace hX := (hq _ (by omega)).trans hX
        replace hT := hT.go fun j q1 q2 => hq j (by omega)
        replace hR := hR.go fun j q1 q2 => hq j (by omega)
        replace hC := hC.go fun j q1 q2 => hq j (by omega)
        replace hD := hD.go fun j q1 q2 => hq j (by omega)
        replace hH := hH.go fun j q1 q2 => hq j (by omega)
        replace hP1 := hP1.go fun j q1 q2 => hq j (by omega)
        replace hP2 := hP2.go fun j q1 q2 => hq j (by omega)
        replace hV2 := hV2.go fun j q1 q2 => hq j (by omega)
        replace hfr := fun j (hj : 51 ≤ j) => (hq j (by omega)).trans (hfr j hj)
        clear hq
        refine x_iload_n (pc := 40) dX6_forgotten_40 rfl ?_
        refine x_aload_n (pc := 41) dX6_forgotten_41 rfl ?_
        refine x_getf (pc := 42) dX6_forgotten_42 kf_X6_55 (by first | assumption | exact hC.1 | exact hH.1 | exact hV0.1 | exact hT.1) (by rfl) ?_
        refine x_getf (pc := 45) dX6_forgotten_45 kf_X6_191 hV0.1 (by rfl) ?_
        first | refine xn_ior (pc := 48) dX6_forgotten_48 ?_ | refine x_ior (pc := 48) dX6_forgotten_48 ?_
        refine x_istore_n (pc := 49) dX6_forgotten_49 rfl ?_
        refine xn_iinc (pc := 50) dX6_forgotten_50 rfl rfl ?_
        refine x_goto (pc := 53) dX6_forgotten_53 (tgt := 4) (by decide) ?_
        exact (by rw [← e]; exact ih (b + 1) w (by omega) ⟨hX, hT, hR, hC, hD, hH, hP1, hP2, ⟨_, hV0, hv0⟩, hV2⟩ hfr)
  refine x_iconst (pc := 0) dX6_forgotten_0 (v := nI 0) (by decide) ?_
  refine x_istore_n (pc := 1) dX6_forgotten_1 rfl ?_
  refine x_iconst (pc := 2) dX6_forgotten_2 (v := nI 0) (by decide) ?_
  refine x_istore_n (pc := 3) dX6_forgotten_3 rfl ?_
  exact loop 10 0 w (by omega) hx (fun _ _ => rfl)
def whI (C : Crt) (x : Int32) : Int32 := if ntB C x then nI (whoS C x.toNatClampNeg) else -1
theorem c_who {w : ax_W} {n : Nat} {T : List Nat} {C : Crt} {h : Hrg} {L K : List Hrg} (hx : isX w T C h L K) (ok : okX T C h L K) (x : Int32) : Run m_X6_who 2 0 0 0 (l_ent m_X6_who [.ref 0, .int x]) [] w n (PX (whI C x) T C h L K w n) := by
  have hx0 := hx
  obtain ⟨hX, hT, hR, hC, hD, hH, hP1, hP2, hV, hV2⟩ := hx
  obtain ⟨-, okC, okH, -⟩ := ok
  have hn := okC.1
  obtain ⟨hC1, -⟩ := id hC
  refine x_aload_n (pc := 0) dX6_who_0 rfl ?_
  refine x_getf (pc := 1) dX6_who_1 kf_X6_26 (by first | assumption | exact hC.1 | exact hH.1 | exact hV0.1 | exact hT.1) (by rfl) ?_
  refine x_iload_n (pc := 4) dX6_who_4 rfl ?_
  refine x_cv1p (ci := 0) (pc := 5) dX6_who_5 ks_X6_206 (by first | assumption | exact hC.1 | exact hH.1 | exact hV0.1 | exact hT.1) (by rfl) (by omega) (by rfl) (by rfl) (by rfl) (c_isNight hC okC _) ?_
  refine x_if_eq (pc := 8) dX6_who_8 (tgt := 22) (by decide) (fun h_8 => ?_) (fun h_8 => ?_)
  · skip
    try first | rw [n_b0] at h_8 | rw [n_eq0 (by omega)] at h_8
    have e : whI C x = -1 := by rw [whI, if_neg (by rw [h_8]; decide)]
    refine x_iconst (pc := 22) dX6_who_22 (v := -1) (by decide) ?_
    refine x_iret (pc := 23) dX6_who_23 rfl rfl ?_
    exact va_i ⟨by rw [e], hx0, fun _ _ => rfl⟩
  · skip
    try first | rw [n_b0] at h_8 | rw [n_eq0 (by omega)] at h_8
    simp only [Bool.not_eq_false] at h_8
    obtain ⟨a, ha, rfl⟩ : ∃ a, a < cn C ∧ x = nI a := by
      rcases inB_cases x (n := cn C) (by omega) with hb | h2
      · unfold ntB at h_8; rw [hb] at h_8; cases h_8
      · exact h2
    have e : whI C (nI a) = nI (whoS C a) := by rw [whI, if_pos h_8, n_cl (by omega)]
    refine x_aload_n (pc := 11) dX6_who_11 rfl ?_
    refine x_getf (pc := 12) dX6_who_12 kf_X6_26 (by first | assumption | exact hC.1 | exact hH.1 | exact hV0.1 | exact hT.1) (by rfl) ?_
    refine x_iload_n (pc := 15) dX6_who_15 rfl ?_
    refine x_cv1p (ci := 0) (pc := 16) dX6_who_16 ks_X6_209 (by first | assumption | exact hC.1 | exact hH.1 | exact hV0.1 | exact hT.1) (by rfl) (by omega) (by rfl) (by rfl) (by rfl) (c_doers hC okC (by omega)) ?_
    refine x_goto (pc := 19) dX6_who_19 (tgt := 23) (by decide) ?_
    refine x_iret (pc := 23) dX6_who_23 rfl rfl ?_
    exact va_i ⟨by rw [e], hx0, fun _ _ => rfl⟩
/-- PERSONS who could have done any of these NIGHTS -/
def ftF (C : Crt) (en : Nat) : Nat → Nat
  | 0 => 0
  | k + 1 => if en.testBit k then ftF C en k ||| whoS C k else ftF C en k
theorem ftF_lt {C : Crt} (ok : okC C) (en : Nat) : ∀ k, ftF C en k < 32
  | 0 => by simp [ftF]
  | k + 1 => by
    simp only [ftF]
    split
    · exact Nat.or_lt_two_pow (n := 5) (ftF_lt ok en k) (whoS_lt ok k)
    · exact ftF_lt ok en k
def fitS (C : Crt) (h : Hrg) (a : Nat) : Nat := ftF C (v_en (surZ C h.2 a)) 10
theorem c_fittingPeople {w0 : ax_W} {n : Nat} {T : List Nat} {C : Crt} {h : Hrg} {L K : List Hrg} (hx : isX w0 T C h L K) (ok : okX T C h L K) {a : Nat} (ha : a < cn C) : Run m_X6_fittingPeople 15 0 0 0 (l_ent m_X6_fittingPeople [.ref 0, .int (nI a)]) [] w0 n (PX (nI (fitS C h a)) T C h L K w0 n) := by
  obtain ⟨hX, hT, hR, hC, hD, hH, hP1, hP2, hV, hV2⟩ := hx
  obtain ⟨-, okC, okH, -⟩ := ok
  have hn := okC.1
  have hsk := okH.sk okC
  have hfr : ∀ j, 51 ≤ j → w0 j = w0 j := fun _ _ => rfl
  obtain ⟨hC1, -⟩ := id hC
  obtain ⟨hH1, -⟩ := id hH
  obtain ⟨s0, hV0, hv0⟩ := hV
  obtain ⟨hV1, -⟩ := id hV0
  have heq := sur_eq C h.2 a s0
  refine x_aload_n (pc := 0) dX6_fittingPeople_0 rfl ?_
  refine x_getf (pc := 1) dX6_fittingPeople_1 kf_X6_55 (by first | assumption | exact hC.1 | exact hH.1 | exact hV0.1 | exact hT.1) (by rfl) ?_
  refine x_aload_n (pc := 4) dX6_fittingPeople_4 rfl ?_
  refine x_getf (pc := 5) dX6_fittingPeople_5 kf_X6_26 (by first | assumption | exact hC.1 | exact hH.1 | exact hV0.1 | exact hT.1) (by rfl) ?_
  refine x_iload_n (pc := 8) dX6_fittingPeople_8 rfl ?_
  refine x_aload_n (pc := 9) dX6_fittingPeople_9 rfl ?_
  refine x_getf (pc := 10) dX6_fittingPeople_10 kf_X6_36 (by first | assumption | exact hC.1 | exact hH.1 | exact hV0.1 | exact hT.1) (by rfl) ?_
  refine x_getf (pc := 13) dX6_fittingPeople_13 kf_X6_126 (by first | assumption | exact hC.1 | exact hH.1 | exact hV0.1 | exact hT.1) (by rfl) ?_
  refine x_cv3 (q1 := 0) (q2 := 0) (ci := 5) (pc := 16) dX6_fittingPeople_16 ks_X6_169 (by first | assumption | exact hC.1 | exact hH.1 | exact hV0.1 | exact hT.1) (by rfl) (by omega) (by rfl) (by rfl) (by rfl) (c_walkAll okC hsk ha (by omega) hV0 hv0 hC) (vo_kk fun w hP => ?_)
  obtain ⟨hV0, hv0, hq⟩ := hP
  replace hX := (hq _ (by omega)).trans hX
  replace hT := hT.go fun j q1 q2 => hq j (by omega)
  replace hR := hR.go fun j q1 q2 => hq j (by omega)
  replace hC := hC.go fun j q1 q2 => hq j (by omega)
  replace hD := hD.go fun j q1 q2 => hq j (by omega)
  replace hH := hH.go fun j q1 q2 => hq j (by omega)
  replace hP1 := hP1.go fun j q1 q2 => hq j (by omega)
  replace hP2 := hP2.go fun j q1 q2 => hq j (by omega)
  replace hV2 := hV2.go fun j q1 q2 => hq j (by omega)
  replace hfr := fun j (hj : 51 ≤ j) => (hq j (by omega)).trans (hfr j hj)
  clear hq
  refine x_iconst (pc := 19) dX6_fittingPeople_19 (v := nI 0) (by decide) ?_
  refine x_istore_n (pc := 20) dX6_fittingPeople_20 rfl ?_
  refine x_iconst (pc := 21) dX6_fittingPeople_21 (v := nI 0) (by decide) ?_
  refine x_istore_n (pc := 22) dX6_fittingPeople_22 rfl ?_
  have hen := hv0.2.2.2.1
  have loop : ∀ m b, b + m = 10 → Run m_X6_fittingPeople 15 0 0 23 [some (.ref 0), some (.int (nI a)), some (.int (nI (ftF C (v_en (surS C h.2 a s0)) b))), some (.int (nI b))] [] w n (PX (nI (fitS C h a)) T C h L K w0 n) := by
    intro m
    induction m with
    | zero =>
      intro b hb
      have hbb : b = 10 := by omega
      subst hbb
      refine x_iload_n (pc := 23) dX6_fittingPeople_23 rfl ?_
      refine x_bipush (pc := 24) dX6_fittingPeople_24 (v := nI 10) (by decide) ?_
      refine x_icmp_ge_t (pc := 26) dX6_fittingPeople_26 (tgt := 60) (by decide) (nI_le (by omega) (by omega)) ?_
      refine x_iload_n (pc := 60) dX6_fittingPeople_60 rfl ?_
      refine x_iret (pc := 61) dX6_fittingPeople_61 rfl rfl ?_
      exact va_i ⟨by rw [fitS, ← heq.2.1], ⟨hX, hT, hR, hC, hD, hH, hP1, hP2, ⟨_, hV0, hv0⟩, hV2⟩, hfr⟩
    | succ m ih =>
      intro b hb
      obtain ⟨hC1, -⟩ := id hC
      refine x_iload_n (pc := 23) dX6_fittingPeople_23 rfl ?_
      refine x_bipush (pc := 24) dX6_fittingPeople_24 (v := nI 10) (by decide) ?_
      refine x_icmp_ge_f (pc := 26) dX6_fittingPeople_26 (tgt := 60) (by decide) (nI_ge (by omega) (by omega)) ?_
      refine x_aload_n (pc := 29) dX6_fittingPeople_29 rfl ?_
      refine x_getf (pc := 30) dX6_fittingPeople_30 kf_X6_55 (by first | assumption | exact hC.1 | exact hH.1 | exact hV0.1 | exact hT.1) (by rfl) ?_
      refine x_getf (pc := 33) dX6_fittingPeople_33 kf_X6_185 hV0.1 (by rfl) ?_
      refine x_iload_n (pc := 36) dX6_fittingPeople_36 rfl ?_
      refine x_cs2p (pc := 37) dX6_fittingPeople_37 ks_X6_129 (by omega) (by rfl) (by rfl) (by rfl) (c_has (by omega) (by omega)) ?_
      refine x_if_eq (pc := 40) dX6_fittingPeople_40 (tgt := 54) (by decide) (fun h_40 => ?_) (fun h_40 => ?_)
      · skip
        try first | rw [n_b0] at h_40 | rw [n_eq0 (by omega)] at h_40
        have e : ftF C (v_en (surS C h.2 a s0)) (b + 1) = ftF C (v_en (surS C h.2 a s0)) b := by simp only [ftF]; rw [if_neg (by rw [h_40]; decide)]
        refine xn_iinc (pc := 54) dX6_fittingPeople_54 rfl rfl ?_
        refine x_goto (pc := 57) dX6_fittingPeople_57 (tgt := 23) (by decide) ?_
        exact (by rw [← e]; exact ih (b + 1) (by omega))
      · skip
        try first | rw [n_b0] at h_40 | rw [n_eq0 (by omega)] at h_40
        have e : ftF C (v_en (surS C h.2 a s0)) (b + 1) = ftF C (v_en (surS C h.2 a s0)) b ||| whoS C b := by simp only [Bool.not_eq_false] at h_40; simp only [ftF]; rw [if_pos h_40]
        refine x_iload_n (pc := 43) dX6_fittingPeople_43 rfl ?_
        refine x_aload_n (pc := 44) dX6_fittingPeople_44 rfl ?_
        refine x_getf (pc := 45) dX6_fittingPeople_45 kf_X6_26 (by first | assumption | exact hC.1 | exact hH.1 | exact hV0.1 | exact hT.1) (by rfl) ?_
        refine x_iload_n (pc := 48) dX6_fittingPeople_48 rfl ?_
        refine x_cv1p (ci := 0) (pc := 49) dX6_fittingPeople_49 ks_X6_209 (by first | assumption | exact hC.1 | exact hH.1 | exact hV0.1 | exact hT.1) (by rfl) (by omega) (by rfl) (by rfl) (by rfl) (c_doers hC okC (by omega)) ?_
        first | refine xn_ior (pc := 52) dX6_fittingPeople_52 ?_ | refine x_ior (pc := 52) dX6_fittingPeople_52 ?_
        refine x_istore_n (pc := 53) dX6_fittingPeople_53 rfl ?_
        refine xn_iinc (pc := 54) dX6_fittingPeople_54 rfl rfl ?_
        refine x_goto (pc := 57) dX6_fittingPeople_57 (tgt := 23) (by decide) ?_
        exact (by rw [← e]; exact ih (b + 1) (by omega))
  exact loop 10 0 (by omega)
def fiS (C : Crt) (h : Hrg) (x : Int32) : Int32 := if vtB C x then nI (fitS C h x.toNatClampNeg) else -1
theorem c_fits {w : ax_W} {n : Nat} {T : List Nat} {C : Crt} {h : Hrg} {L K : List Hrg} (hx : isX w T C h L K) (ok : okX T C h L K) (x : Int32) : Run m_X6_fits 16 0 0 0 (l_ent m_X6_fits [.ref 0, .int x]) [] w n (PX (fiS C h x) T C h L K w n) := by
  have hx0 := hx
  obtain ⟨hX, hT, hR, hC, hD, hH, hP1, hP2, hV, hV2⟩ := hx
  have okC := ok.2.1
  have hn := okC.1
  obtain ⟨hC1, -⟩ := id hC
  rcases vtB_cases okC x with hb | ⟨a, ha, rfl, hb⟩
  · refine x_aload_n (pc := 0) dX6_fits_0 rfl ?_
    refine x_getf (pc := 1) dX6_fits_1 kf_X6_26 (by first | assumption | exact hC.1 | exact hH.1 | exact hV0.1 | exact hT.1) (by rfl) ?_
    refine x_iload_n (pc := 4) dX6_fits_4 rfl ?_
    refine x_cv1p (ci := 0) (pc := 5) dX6_fits_5 ks_X6_116 (by first | assumption | exact hC.1 | exact hH.1 | exact hV0.1 | exact hT.1) (by rfl) (by omega) (by rfl) (by rfl) (by rfl) (c_isVerdict hC okC _) ?_
    refine x_if_eq (pc := 8) dX6_fits_8 (tgt := 19) (by decide) (fun h_8 => ?_) (fun h_8 => ?_)
    · skip
      try first | rw [n_b0] at h_8 | rw [n_eq0 (by omega)] at h_8
      refine x_iconst (pc := 19) dX6_fits_19 (v := -1) (by decide) ?_
      refine x_iret (pc := 20) dX6_fits_20 rfl rfl ?_
      exact va_i ⟨by rw [fiS, if_neg (by rw [hb]; decide)], hx0, fun _ _ => rfl⟩
    · skip
      try first | rw [n_b0] at h_8 | rw [n_eq0 (by omega)] at h_8
      exact absurd hb h_8
  · have hcl : (nI a).toNatClampNeg = a := n_cl (by omega)
    refine x_aload_n (pc := 0) dX6_fits_0 rfl ?_
    refine x_getf (pc := 1) dX6_fits_1 kf_X6_26 (by first | assumption | exact hC.1 | exact hH.1 | exact hV0.1 | exact hT.1) (by rfl) ?_
    refine x_iload_n (pc := 4) dX6_fits_4 rfl ?_
    refine x_cv1p (ci := 0) (pc := 5) dX6_fits_5 ks_X6_116 (by first | assumption | exact hC.1 | exact hH.1 | exact hV0.1 | exact hT.1) (by rfl) (by omega) (by rfl) (by rfl) (by rfl) (c_isVerdict hC okC _) ?_
    refine x_if_eq (pc := 8) dX6_fits_8 (tgt := 19) (by decide) (fun h_8 => ?_) (fun h_8 => ?_)
    · skip
      try first | rw [n_b0] at h_8 | rw [n_eq0 (by omega)] at h_8
      rw [hb] at h_8; cases h_8
    · skip
      try first | rw [n_b0] at h_8 | rw [n_eq0 (by omega)] at h_8
      refine x_aload_n (pc := 11) dX6_fits_11 rfl ?_
      refine x_iload_n (pc := 12) dX6_fits_12 rfl ?_
      refine x_cv1 (q1 := 0) (q2 := 0) (ci := 6) (pc := 13) dX6_fits_13 ks_X6_212 (by first | assumption | exact hC.1 | exact hH.1 | exact hV0.1 | exact hT.1) (by rfl) (by omega) (by rfl) (by rfl) (by rfl) (c_fittingPeople hx0 ok ha) (va_kk fun v w hP => ?_)
      obtain ⟨rfl, hx1, hfr⟩ := hP
      refine x_goto (pc := 16) dX6_fits_16 (tgt := 20) (by decide) ?_
      refine x_iret (pc := 20) dX6_fits_20 rfl rfl ?_
      exact va_i ⟨by rw [fiS, if_pos hb, hcl], hx1, hfr⟩
/-- the best of the NIGHTS by how many could have done them -/
def lkF (C : Crt) (en : Nat) : Nat → Option (Nat × Nat)
  | 0 => none
  | k + 1 => if en.testBit k then (match lkF C en k with
    | none => some (k, cnt (whoS C k) 10)
    | some q => if q.2 < cnt (whoS C k) 10 then some (k, cnt (whoS C k) 10) else some q) else lkF C en k
theorem lkF_lt {C : Crt} {en : Nat} : ∀ {k q}, lkF C en k = some q → q.1 < k ∧ q.2 ≤ 10
  | 0, q, h => by simp [lkF] at h
  | k + 1, q, h => by
    have hc := cnt_le (whoS C k) 10
    simp only [lkF] at h
    split at h
    · cases hl : lkF C en k with
      | none => rw [hl] at h; cases h; exact ⟨by omega, hc⟩
      | some q2 =>
        rw [hl] at h
        obtain ⟨a, b⟩ := lkF_lt hl
        simp only at h
        split at h
        · cases h; exact ⟨by omega, hc⟩
        · cases h; exact ⟨by omega, b⟩
    · obtain ⟨a, b⟩ := lkF_lt h
      exact ⟨by omega, b⟩
/-- a pair's parts as ints, -4 for none -/
def o1I (o : Option (Nat × Nat)) : Int32 := match o with
  | some q => nI q.1
  | none => -4
def o2I (o : Option (Nat × Nat)) : Int32 := match o with
  | some q => nI q.2
  | none => -4
theorem o1I_none {o : Option (Nat × Nat)} (h : ∀ q, o = some q → q.1 < 1000) : o1I o = -4 ↔ o = none := by
  cases o with
  | none => exact ⟨fun _ => rfl, fun _ => rfl⟩
  | some q =>
    refine ⟨fun z => ?_, fun z => by cases z⟩
    have hq := h q rfl
    have z2 : nI q.1 = -4 := z
    have := congrArg (fun x : Int32 => x.toInt) z2
    rw [show (nI q.1).toInt = (q.1 : Int) from nI_toInt (by omega), show ((-4 : Int32)).toInt = -4 from by decide +kernel] at this
    omega
def y01 (y : Int32) : Bool := decide (y = nI 0 ∨ y = nI 1)
theorem y01_out (y : Int32) : decide (y < nI 0 ∨ nI 1 < y) = !y01 y := by
  unfold y01
  rw [← decide_not]
  refine decide_eq_decide.mpr ?_
  have e0 : (nI 0).toInt = 0 := by decide +kernel
  have e1 : (nI 1).toInt = 1 := by decide +kernel
  rw [Int32.lt_iff_toInt_lt, Int32.lt_iff_toInt_lt, ← Int32.toInt_inj, ← Int32.toInt_inj, e0, e1]
  omega
def loS (C : Crt) (h : Hrg) (x y : Int32) : Int32 := if vtB C x = true ∧ y01 y = true then (if y = nI 0 then o1I (lkF C (v_en (surZ C h.2 x.toNatClampNeg)) 10) else o2I (lkF C (v_en (surZ C h.2 x.toNatClampNeg)) 10)) else -1
theorem c_look {w0 : ax_W} {n : Nat} {T : List Nat} {C : Crt} {h : Hrg} {L K : List Hrg} (hx : isX w0 T C h L K) (ok : okX T C h L K) (x y : Int32) : Run m_X6_look 15 0 0 0 (l_ent m_X6_look [.ref 0, .int x, .int y]) [] w0 n (PX (loS C h x y) T C h L K w0 n) := by
  have hx0 := hx
  obtain ⟨hX, hT, hR, hC, hD, hH, hP1, hP2, hV, hV2⟩ := hx
  obtain ⟨-, okC, okH, -⟩ := ok
  have hn := okC.1
  have hsk := okH.sk okC
  have hfr : ∀ j, 51 ≤ j → w0 j = w0 j := fun _ _ => rfl
  obtain ⟨hC1, -⟩ := id hC
  obtain ⟨hH1, -⟩ := id hH
  obtain ⟨s0, hV0, hv0⟩ := hV
  obtain ⟨hV1, -⟩ := id hV0
  rcases vtB_cases okC x with hb | ⟨a, ha, rfl, hb⟩
  · refine x_aload_n (pc := 0) dX6_look_0 rfl ?_
    refine x_getf (pc := 1) dX6_look_1 kf_X6_26 (by first | assumption | exact hC.1 | exact hH.1 | exact hV0.1 | exact hT.1) (by rfl) ?_
    refine x_iload_n (pc := 4) dX6_look_4 rfl ?_
    refine x_cv1p (ci := 0) (pc := 5) dX6_look_5 ks_X6_116 (by first | assumption | exact hC.1 | exact hH.1 | exact hV0.1 | exact hT.1) (by rfl) (by omega) (by rfl) (by rfl) (by rfl) (c_isVerdict hC okC _) ?_
    refine x_if_eq (pc := 8) dX6_look_8 (tgt := 20) (by decide) (fun h_8 => ?_) (fun h_8 => ?_)
    · skip
      try first | rw [n_b0] at h_8 | rw [n_eq0 (by omega)] at h_8
      refine x_iconst (pc := 20) dX6_look_20 (v := -1) (by decide) ?_
      refine x_iret (pc := 21) dX6_look_21 rfl rfl ?_
      exact va_i ⟨by rw [loS, if_neg (fun q => by rw [hb] at q; cases q.1)], hx0, fun _ _ => rfl⟩
    · skip
      try first | rw [n_b0] at h_8 | rw [n_eq0 (by omega)] at h_8
      exact absurd hb h_8
  · have hcl : (nI a).toNatClampNeg = a := n_cl (by omega)
    have heq := sur_eq C h.2 a s0
    refine x_aload_n (pc := 0) dX6_look_0 rfl ?_
    refine x_getf (pc := 1) dX6_look_1 kf_X6_26 (by first | assumption | exact hC.1 | exact hH.1 | exact hV0.1 | exact hT.1) (by rfl) ?_
    refine x_iload_n (pc := 4) dX6_look_4 rfl ?_
    refine x_cv1p (ci := 0) (pc := 5) dX6_look_5 ks_X6_116 (by first | assumption | exact hC.1 | exact hH.1 | exact hV0.1 | exact hT.1) (by rfl) (by omega) (by rfl) (by rfl) (by rfl) (c_isVerdict hC okC _) ?_
    refine x_if_eq (pc := 8) dX6_look_8 (tgt := 20) (by decide) (fun h_8 => ?_) (fun h_8 => ?_)
    · skip
      try first | rw [n_b0] at h_8 | rw [n_eq0 (by omega)] at h_8
      rw [hb] at h_8; cases h_8
    · skip
      try first | rw [n_b0] at h_8 | rw [n_eq0 (by omega)] at h_8
      refine x_iload_n (pc := 11) dX6_look_11 rfl ?_
      refine x_iconst (pc := 12) dX6_look_12 (v := nI 0) (by decide) ?_
      refine x_iconst (pc := 13) dX6_look_13 (v := nI 1) (by decide) ?_
      refine x_cs3p (pc := 14) dX6_look_14 ks_X6_75 (by omega) (by rfl) (by rfl) (by rfl) (c_outside _ _ _) ?_
      rw [y01_out]
      refine x_if_eq (pc := 17) dX6_look_17 (tgt := 22) (by decide) (fun h_17 => ?_) (fun h_17 => ?_)
      · skip
        try first | rw [n_b0] at h_17 | rw [n_eq0 (by omega)] at h_17
        simp at h_17
        refine x_aload_n (pc := 22) dX6_look_22 rfl ?_
        refine x_getf (pc := 23) dX6_look_23 kf_X6_55 (by first | assumption | exact hC.1 | exact hH.1 | exact hV0.1 | exact hT.1) (by rfl) ?_
        refine x_aload_n (pc := 26) dX6_look_26 rfl ?_
        refine x_getf (pc := 27) dX6_look_27 kf_X6_26 (by first | assumption | exact hC.1 | exact hH.1 | exact hV0.1 | exact hT.1) (by rfl) ?_
        refine x_iload_n (pc := 30) dX6_look_30 rfl ?_
        refine x_aload_n (pc := 31) dX6_look_31 rfl ?_
        refine x_getf (pc := 32) dX6_look_32 kf_X6_36 (by first | assumption | exact hC.1 | exact hH.1 | exact hV0.1 | exact hT.1) (by rfl) ?_
        refine x_getf (pc := 35) dX6_look_35 kf_X6_126 (by first | assumption | exact hC.1 | exact hH.1 | exact hV0.1 | exact hT.1) (by rfl) ?_
        refine x_cv3 (q1 := 0) (q2 := 0) (ci := 5) (pc := 38) dX6_look_38 ks_X6_169 (by first | assumption | exact hC.1 | exact hH.1 | exact hV0.1 | exact hT.1) (by rfl) (by omega) (by rfl) (by rfl) (by rfl) (c_walkAll okC hsk ha (by omega) hV0 hv0 hC) (vo_kk fun w hP => ?_)
        obtain ⟨hV0, hv0, hq⟩ := hP
        replace hX := (hq _ (by omega)).trans hX
        replace hT := hT.go fun j q1 q2 => hq j (by omega)
        replace hR := hR.go fun j q1 q2 => hq j (by omega)
        replace hC := hC.go fun j q1 q2 => hq j (by omega)
        replace hD := hD.go fun j q1 q2 => hq j (by omega)
        replace hH := hH.go fun j q1 q2 => hq j (by omega)
        replace hP1 := hP1.go fun j q1 q2 => hq j (by omega)
        replace hP2 := hP2.go fun j q1 q2 => hq j (by omega)
        replace hV2 := hV2.go fun j q1 q2 => hq j (by omega)
        replace hfr := fun j (hj : 51 ≤ j) => (hq j (by omega)).trans (hfr j hj)
        clear hq
        refine x_bipush (pc := 41) dX6_look_41 (v := -4) (by decide) ?_
        refine x_istore_n (pc := 43) dX6_look_43 rfl ?_
        refine x_bipush (pc := 44) dX6_look_44 (v := -4) (by decide) ?_
        refine x_istore (pc := 46) dX6_look_46 rfl ?_
        refine x_iconst (pc := 48) dX6_look_48 (v := nI 0) (by decide) ?_
        refine x_istore (pc := 49) dX6_look_49 rfl ?_
        have hen := hv0.2.2.2.1
        have loop : ∀ m b z6, b + m = 10 → Run m_X6_look 15 0 0 51 [some (.ref 0), some (.int (nI a)), some (.int y), some (.int (o1I (lkF C (v_en (surS C h.2 a s0)) b))), some (.int (o2I (lkF C (v_en (surS C h.2 a s0)) b))), some (.int (nI b)), z6] [] w n (PX (loS C h (nI a) y) T C h L K w0 n) := by
          intro m
          induction m with
          | zero =>
            intro b z6 hb2
            have hbb : b = 10 := by omega
            subst hbb
            have e : loS C h (nI a) y = if y = nI 0 then o1I (lkF C (v_en (surS C h.2 a s0)) 10) else o2I (lkF C (v_en (surS C h.2 a s0)) 10) := by rw [loS, if_pos ⟨hb, h_17⟩, hcl, ← heq.2.1]
            refine x_iload (pc := 51) dX6_look_51 rfl ?_
            refine x_bipush (pc := 53) dX6_look_53 (v := nI 10) (by decide) ?_
            refine x_icmp_ge_t (pc := 55) dX6_look_55 (tgt := 113) (by decide) (nI_le (by omega) (by omega)) ?_
            refine x_iload_n (pc := 113) dX6_look_113 rfl ?_
            refine x_if_ne (pc := 114) dX6_look_114 (tgt := 121) (by decide) (fun h_114 => ?_) (fun h_114 => ?_)
            · skip
              try first | rw [n_b0] at h_114 | rw [n_eq0 (by omega)] at h_114
              have e0 : ¬ y = nI 0 := h_114
              rw [if_neg e0] at e
              refine x_iload (pc := 121) dX6_look_121 rfl ?_
              refine x_iret (pc := 123) dX6_look_123 rfl rfl ?_
              exact va_i ⟨by rw [e], ⟨hX, hT, hR, hC, hD, hH, hP1, hP2, ⟨_, hV0, hv0⟩, hV2⟩, hfr⟩
            · replace h_114 := Classical.not_not.mp h_114
              try first | rw [n_b0] at h_114 | rw [n_eq0 (by omega)] at h_114
              have e0 : y = nI 0 := h_114
              rw [if_pos e0] at e
              refine x_iload_n (pc := 117) dX6_look_117 rfl ?_
              refine x_goto (pc := 118) dX6_look_118 (tgt := 123) (by decide) ?_
              refine x_iret (pc := 123) dX6_look_123 rfl rfl ?_
              exact va_i ⟨by rw [e], ⟨hX, hT, hR, hC, hD, hH, hP1, hP2, ⟨_, hV0, hv0⟩, hV2⟩, hfr⟩
          | succ m ih =>
            intro b z6 hb2
            obtain ⟨hC1, -⟩ := id hC
            have hwl := whoS_lt okC b
            have hcl2 := cnt_le (whoS C b) 10
            refine x_iload (pc := 51) dX6_look_51 rfl ?_
            refine x_bipush (pc := 53) dX6_look_53 (v := nI 10) (by decide) ?_
            refine x_icmp_ge_f (pc := 55) dX6_look_55 (tgt := 113) (by decide) (nI_ge (by omega) (by omega)) ?_
            refine x_aload_n (pc := 58) dX6_look_58 rfl ?_
            refine x_getf (pc := 59) dX6_look_59 kf_X6_26 (by first | assumption | exact hC.1 | exact hH.1 | exact hV0.1 | exact hT.1) (by rfl) ?_
            refine x_iload (pc := 62) dX6_look_62 rfl ?_
            refine x_cv1p (ci := 0) (pc := 64) dX6_look_64 ks_X6_209 (by first | assumption | exact hC.1 | exact hH.1 | exact hV0.1 | exact hT.1) (by rfl) (by omega) (by rfl) (by rfl) (by rfl) (c_doers hC okC (by omega)) ?_
            refine x_cs1p (pc := 67) dX6_look_67 ks_X6_215 (by omega) (by rfl) (by rfl) (by rfl) (c_bitCount (by omega)) ?_
            refine x_istore (pc := 70) dX6_look_70 rfl ?_
            refine x_aload_n (pc := 72) dX6_look_72 rfl ?_
            refine x_getf (pc := 73) dX6_look_73 kf_X6_55 (by first | assumption | exact hC.1 | exact hH.1 | exact hV0.1 | exact hT.1) (by rfl) ?_
            refine x_getf (pc := 76) dX6_look_76 kf_X6_185 hV0.1 (by rfl) ?_
            refine x_iload (pc := 79) dX6_look_79 rfl ?_
            refine x_cs2p (pc := 81) dX6_look_81 ks_X6_129 (by omega) (by rfl) (by rfl) (by rfl) (c_has (by omega) (by omega)) ?_
            refine x_if_eq (pc := 84) dX6_look_84 (tgt := 107) (by decide) (fun h_84 => ?_) (fun h_84 => ?_)
            · skip
              try first | rw [n_b0] at h_84 | rw [n_eq0 (by omega)] at h_84
              have e : lkF C (v_en (surS C h.2 a s0)) (b + 1) = lkF C (v_en (surS C h.2 a s0)) b := by simp only [lkF]; rw [if_neg (by rw [h_84]; decide)]
              refine xn_iinc (pc := 107) dX6_look_107 rfl rfl ?_
              refine x_goto (pc := 110) dX6_look_110 (tgt := 51) (by decide) ?_
              exact (by rw [← e]; exact ih (b + 1) _ (by omega))
            · skip
              try first | rw [n_b0] at h_84 | rw [n_eq0 (by omega)] at h_84
              simp only [Bool.not_eq_false] at h_84
              have hni := o1I_none (o := lkF C (v_en (surS C h.2 a s0)) b) (fun q hq => by have := lkF_lt hq; omega)
              refine x_iload_n (pc := 87) dX6_look_87 rfl ?_
              refine x_bipush (pc := 88) dX6_look_88 (v := -4) (by decide) ?_
              refine x_icmp_eq (pc := 90) dX6_look_90 (tgt := 100) (by decide) (fun h_90 => ?_) (fun h_90 => ?_)
              · skip
                try first | rw [n_b1] at h_90 | rw [n_b00] at h_90 | rw [n_eq (by omega) (by omega)] at h_90
                rw [hni] at h_90
                have e : lkF C (v_en (surS C h.2 a s0)) (b + 1) = some (b, cnt (whoS C b) 10) := by simp only [lkF]; rw [if_pos h_84, h_90]
                refine x_iload (pc := 100) dX6_look_100 rfl ?_
                refine x_istore_n (pc := 102) dX6_look_102 rfl ?_
                refine x_iload (pc := 103) dX6_look_103 rfl ?_
                refine x_istore (pc := 105) dX6_look_105 rfl ?_
                refine xn_iinc (pc := 107) dX6_look_107 rfl rfl ?_
                refine x_goto (pc := 110) dX6_look_110 (tgt := 51) (by decide) ?_
                have hih := ih (b + 1) (some (.int (nI (cnt (whoS C b) 10)))) (by omega)
                rw [e] at hih
                exact hih
              · skip
                try first | rw [n_b1] at h_90 | rw [n_b00] at h_90 | rw [n_eq (by omega) (by omega)] at h_90
                rw [hni] at h_90
                cases hl : lkF C (v_en (surS C h.2 a s0)) b with
                | none => exact absurd hl h_90
                | some q =>
                  have hql := lkF_lt hl
                  refine x_iload (pc := 93) dX6_look_93 rfl ?_
                  refine x_iload (pc := 95) dX6_look_95 rfl ?_
                  refine x_icmp_le (pc := 97) dX6_look_97 (tgt := 107) (by decide) (fun h_97 => ?_) (fun h_97 => ?_)
                  · skip
                    try first | rw [n_b1] at h_97 | rw [n_b00] at h_97 | rw [n_le (by omega) (by omega)] at h_97
                    have h97 : ¬ q.2 < cnt (whoS C b) 10 := by have h2 : nI (cnt (whoS C b) 10) ≤ nI q.2 := h_97; rw [n_le (by omega) (by omega)] at h2; omega
                    have e : lkF C (v_en (surS C h.2 a s0)) (b + 1) = some q := by simp only [lkF]; rw [if_pos h_84, hl]; simp only; rw [if_neg h97]
                    refine xn_iinc (pc := 107) dX6_look_107 rfl rfl ?_
                    refine x_goto (pc := 110) dX6_look_110 (tgt := 51) (by decide) ?_
                    have hih := ih (b + 1) (some (.int (nI (cnt (whoS C b) 10)))) (by omega)
                    rw [e] at hih
                    exact hih
                  · skip
                    try first | rw [n_b1] at h_97 | rw [n_b00] at h_97 | rw [n_le (by omega) (by omega)] at h_97
                    have h97 : q.2 < cnt (whoS C b) 10 := by have h2 : ¬ nI (cnt (whoS C b) 10) ≤ nI q.2 := h_97; rw [n_le (by omega) (by omega)] at h2; omega
                    have e : lkF C (v_en (surS C h.2 a s0)) (b + 1) = some (b, cnt (whoS C b) 10) := by simp only [lkF]; rw [if_pos h_84, hl]; simp only; rw [if_pos h97]
                    refine x_iload (pc := 100) dX6_look_100 rfl ?_
                    refine x_istore_n (pc := 102) dX6_look_102 rfl ?_
                    refine x_iload (pc := 103) dX6_look_103 rfl ?_
                    refine x_istore (pc := 105) dX6_look_105 rfl ?_
                    refine xn_iinc (pc := 107) dX6_look_107 rfl rfl ?_
                    refine x_goto (pc := 110) dX6_look_110 (tgt := 51) (by decide) ?_
                    have hih := ih (b + 1) (some (.int (nI (cnt (whoS C b) 10)))) (by omega)
                    rw [e] at hih
                    exact hih
        exact loop 10 0 _ (by omega)
      · skip
        try first | rw [n_b0] at h_17 | rw [n_eq0 (by omega)] at h_17
        simp at h_17
        refine x_iconst (pc := 20) dX6_look_20 (v := -1) (by decide) ?_
        refine x_iret (pc := 21) dX6_look_21 rfl rfl ?_
        exact va_i ⟨by rw [loS, if_neg (fun q => by rw [h_17] at q; cases q.2)], hx0, fun _ _ => rfl⟩
