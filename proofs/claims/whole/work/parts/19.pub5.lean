/-! NIGHTS that serve two VERDICTS; by turns -/
def btF (e : Nat) (l1 l2 : Nat → Nat) : Nat → Option (Nat × Nat)
  | 0 => none
  | k + 1 => if e.testBit k then (match btF e l1 l2 k with
    | none => some (k, l1 k + l2 k)
    | some q => if l1 k + l2 k < q.2 then some (k, l1 k + l2 k) else some q) else btF e l1 l2 k
theorem btF_lt {e : Nat} {l1 l2 : Nat → Nat} (h1 : ∀ a, a < 10 → l1 a < 1000) (h2 : ∀ a, a < 10 → l2 a < 1000) : ∀ {k q}, k ≤ 10 → btF e l1 l2 k = some q → q.1 < k ∧ q.2 < 2000
  | 0, q, _, h => by simp [btF] at h
  | k + 1, q, hk, h => by
    have a1 := h1 k (by omega)
    have a2 := h2 k (by omega)
    simp only [btF] at h
    split at h
    · cases hl : btF e l1 l2 k with
      | none => rw [hl] at h; cases h; exact ⟨by omega, by show l1 k + l2 k < 2000; omega⟩
      | some q2 =>
        rw [hl] at h
        obtain ⟨a, b⟩ := btF_lt h1 h2 (by omega) hl
        simp only at h
        split at h
        · cases h; exact ⟨by omega, by show l1 k + l2 k < 2000; omega⟩
        · cases h; exact ⟨by omega, b⟩
    · obtain ⟨a, b⟩ := btF_lt h1 h2 (by omega) h
      exact ⟨by omega, b⟩
theorem btF_congr {e : Nat} {l1 l2 k1 k2 : Nat → Nat} (h : ∀ a, e.testBit a = true → l1 a = k1 a ∧ l2 a = k2 a) : ∀ k, btF e l1 l2 k = btF e k1 k2 k
  | 0 => rfl
  | k + 1 => by
    simp only [btF]
    rw [btF_congr h k]
    by_cases hb : e.testBit k = true
    · rw [(h k hb).1, (h k hb).2]
    · rw [if_neg hb, if_neg hb]
def boO (C : Crt) (h : Hrg) (a b : Nat) : Option (Nat × Nat) := btF (v_en (surZ C h.2 a) &&& v_en (surZ C h.2 b)) (v_le (surZ C h.2 a)) (v_le (surZ C h.2 b)) 10
def boS (C : Crt) (h : Hrg) (x y z : Int32) : Int32 := if vtB C x = true ∧ vtB C y = true ∧ y01 z = true then (if z = nI 0 then o1I (boO C h x.toNatClampNeg y.toNatClampNeg) else o2I (boO C h x.toNatClampNeg y.toNatClampNeg)) else -1
theorem c_both {w0 : ax_W} {n : Nat} {T : List Nat} {C : Crt} {h : Hrg} {L K : List Hrg} (hx : isX w0 T C h L K) (ok : okX T C h L K) (x y z : Int32) : Run m_X6_both 15 0 0 0 (l_ent m_X6_both [.ref 0, .int x, .int y, .int z]) [] w0 n (PX (boS C h x y z) T C h L K w0 n) := by
  have hx0 := hx
  obtain ⟨hX, hT, hR, hC, hD, hH, hP1, hP2, hV, hV2⟩ := hx
  obtain ⟨-, okC, okH, -⟩ := ok
  have hn := okC.1
  have hsk := okH.sk okC
  have hfr : ∀ j, 51 ≤ j → w0 j = w0 j := fun _ _ => rfl
  obtain ⟨hC1, -⟩ := id hC
  obtain ⟨hH1, -⟩ := id hH
  obtain ⟨s0, hV0, hv0⟩ := hV
  obtain ⟨hV1, -⟩ := id hV0
  obtain ⟨t0, hU0, hu0⟩ := hV2
  obtain ⟨hU1, -⟩ := id hU0
  rcases vtB_cases okC x with hb | ⟨a, ha, rfl, hb⟩
  · refine x_aload_n (pc := 0) dX6_both_0 rfl ?_
    refine x_getf (pc := 1) dX6_both_1 kf_X6_26 (by first | assumption | exact hC.1 | exact hH.1 | exact hV0.1 | exact hT.1) (by rfl) ?_
    refine x_iload_n (pc := 4) dX6_both_4 rfl ?_
    refine x_cv1p (ci := 0) (pc := 5) dX6_both_5 ks_X6_116 (by first | assumption | exact hC.1 | exact hH.1 | exact hV0.1 | exact hT.1) (by rfl) (by omega) (by rfl) (by rfl) (by rfl) (c_isVerdict hC okC _) ?_
    refine x_if_eq (pc := 8) dX6_both_8 (tgt := 31) (by decide) (fun h_8 => ?_) (fun h_8 => ?_)
    · skip
      try first | rw [n_b0] at h_8 | rw [n_eq0 (by omega)] at h_8
      refine x_iconst (pc := 31) dX6_both_31 (v := -1) (by decide) ?_
      refine x_iret (pc := 32) dX6_both_32 rfl rfl ?_
      exact va_i ⟨by rw [boS, if_neg (fun q => by rw [hb] at q; cases q.1)], hx0, fun _ _ => rfl⟩
    · skip
      try first | rw [n_b0] at h_8 | rw [n_eq0 (by omega)] at h_8
      exact absurd hb h_8
  have hcl : (nI a).toNatClampNeg = a := n_cl (by omega)
  rcases vtB_cases okC y with hb2 | ⟨a2, ha2, rfl, hb2⟩
  · refine x_aload_n (pc := 0) dX6_both_0 rfl ?_
    refine x_getf (pc := 1) dX6_both_1 kf_X6_26 (by first | assumption | exact hC.1 | exact hH.1 | exact hV0.1 | exact hT.1) (by rfl) ?_
    refine x_iload_n (pc := 4) dX6_both_4 rfl ?_
    refine x_cv1p (ci := 0) (pc := 5) dX6_both_5 ks_X6_116 (by first | assumption | exact hC.1 | exact hH.1 | exact hV0.1 | exact hT.1) (by rfl) (by omega) (by rfl) (by rfl) (by rfl) (c_isVerdict hC okC _) ?_
    refine x_if_eq (pc := 8) dX6_both_8 (tgt := 31) (by decide) (fun h_8 => ?_) (fun h_8 => ?_)
    · skip
      try first | rw [n_b0] at h_8 | rw [n_eq0 (by omega)] at h_8
      rw [hb] at h_8; cases h_8
    · skip
      try first | rw [n_b0] at h_8 | rw [n_eq0 (by omega)] at h_8
      refine x_aload_n (pc := 11) dX6_both_11 rfl ?_
      refine x_getf (pc := 12) dX6_both_12 kf_X6_26 (by first | assumption | exact hC.1 | exact hH.1 | exact hV0.1 | exact hT.1) (by rfl) ?_
      refine x_iload_n (pc := 15) dX6_both_15 rfl ?_
      refine x_cv1p (ci := 0) (pc := 16) dX6_both_16 ks_X6_116 (by first | assumption | exact hC.1 | exact hH.1 | exact hV0.1 | exact hT.1) (by rfl) (by omega) (by rfl) (by rfl) (by rfl) (c_isVerdict hC okC _) ?_
      refine x_if_eq (pc := 19) dX6_both_19 (tgt := 31) (by decide) (fun h_19 => ?_) (fun h_19 => ?_)
      · skip
        try first | rw [n_b0] at h_19 | rw [n_eq0 (by omega)] at h_19
        refine x_iconst (pc := 31) dX6_both_31 (v := -1) (by decide) ?_
        refine x_iret (pc := 32) dX6_both_32 rfl rfl ?_
        exact va_i ⟨by rw [boS, if_neg (fun q => by rw [hb2] at q; cases q.2.1)], hx0, fun _ _ => rfl⟩
      · skip
        try first | rw [n_b0] at h_19 | rw [n_eq0 (by omega)] at h_19
        exact absurd hb2 h_19
  have hcl2 : (nI a2).toNatClampNeg = a2 := n_cl (by omega)
  have heq := sur_eq C h.2 a s0
  have heq2 := sur_eq C h.2 a2 t0
  refine x_aload_n (pc := 0) dX6_both_0 rfl ?_
  refine x_getf (pc := 1) dX6_both_1 kf_X6_26 (by first | assumption | exact hC.1 | exact hH.1 | exact hV0.1 | exact hT.1) (by rfl) ?_
  refine x_iload_n (pc := 4) dX6_both_4 rfl ?_
  refine x_cv1p (ci := 0) (pc := 5) dX6_both_5 ks_X6_116 (by first | assumption | exact hC.1 | exact hH.1 | exact hV0.1 | exact hT.1) (by rfl) (by omega) (by rfl) (by rfl) (by rfl) (c_isVerdict hC okC _) ?_
  refine x_if_eq (pc := 8) dX6_both_8 (tgt := 31) (by decide) (fun h_8 => ?_) (fun h_8 => ?_)
  · skip
    try first | rw [n_b0] at h_8 | rw [n_eq0 (by omega)] at h_8
    rw [hb] at h_8; cases h_8
  · skip
    try first | rw [n_b0] at h_8 | rw [n_eq0 (by omega)] at h_8
    refine x_aload_n (pc := 11) dX6_both_11 rfl ?_
    refine x_getf (pc := 12) dX6_both_12 kf_X6_26 (by first | assumption | exact hC.1 | exact hH.1 | exact hV0.1 | exact hT.1) (by rfl) ?_
    refine x_iload_n (pc := 15) dX6_both_15 rfl ?_
    refine x_cv1p (ci := 0) (pc := 16) dX6_both_16 ks_X6_116 (by first | assumption | exact hC.1 | exact hH.1 | exact hV0.1 | exact hT.1) (by rfl) (by omega) (by rfl) (by rfl) (by rfl) (c_isVerdict hC okC _) ?_
    refine x_if_eq (pc := 19) dX6_both_19 (tgt := 31) (by decide) (fun h_19 => ?_) (fun h_19 => ?_)
    · skip
      try first | rw [n_b0] at h_19 | rw [n_eq0 (by omega)] at h_19
      rw [hb2] at h_19; cases h_19
    · skip
      try first | rw [n_b0] at h_19 | rw [n_eq0 (by omega)] at h_19
      refine x_iload_n (pc := 22) dX6_both_22 rfl ?_
      refine x_iconst (pc := 23) dX6_both_23 (v := nI 0) (by decide) ?_
      refine x_iconst (pc := 24) dX6_both_24 (v := nI 1) (by decide) ?_
      refine x_cs3p (pc := 25) dX6_both_25 ks_X6_75 (by omega) (by rfl) (by rfl) (by rfl) (c_outside _ _ _) ?_
      rw [y01_out]
      refine x_if_eq (pc := 28) dX6_both_28 (tgt := 33) (by decide) (fun h_28 => ?_) (fun h_28 => ?_)
      · skip
        try first | rw [n_b0] at h_28 | rw [n_eq0 (by omega)] at h_28
        simp at h_28
        refine x_aload_n (pc := 33) dX6_both_33 rfl ?_
        refine x_getf (pc := 34) dX6_both_34 kf_X6_55 (by first | assumption | exact hC.1 | exact hH.1 | exact hV0.1 | exact hT.1) (by rfl) ?_
        refine x_aload_n (pc := 37) dX6_both_37 rfl ?_
        refine x_getf (pc := 38) dX6_both_38 kf_X6_26 (by first | assumption | exact hC.1 | exact hH.1 | exact hV0.1 | exact hT.1) (by rfl) ?_
        refine x_iload_n (pc := 41) dX6_both_41 rfl ?_
        refine x_aload_n (pc := 42) dX6_both_42 rfl ?_
        refine x_getf (pc := 43) dX6_both_43 kf_X6_36 (by first | assumption | exact hC.1 | exact hH.1 | exact hV0.1 | exact hT.1) (by rfl) ?_
        refine x_getf (pc := 46) dX6_both_46 kf_X6_126 (by first | assumption | exact hC.1 | exact hH.1 | exact hV0.1 | exact hT.1) (by rfl) ?_
        refine x_cv3 (q1 := 0) (q2 := 0) (ci := 5) (pc := 49) dX6_both_49 ks_X6_169 (by first | assumption | exact hC.1 | exact hH.1 | exact hV0.1 | exact hT.1) (by rfl) (by omega) (by rfl) (by rfl) (by rfl) (c_walkAll okC hsk ha (by omega) hV0 hv0 hC) (vo_kk fun w hP => ?_)
        obtain ⟨hV0, hv0, hq⟩ := hP
        replace hX := (hq _ (by omega)).trans hX
        replace hT := hT.go fun j q1 q2 => hq j (by omega)
        replace hR := hR.go fun j q1 q2 => hq j (by omega)
        replace hC := hC.go fun j q1 q2 => hq j (by omega)
        replace hD := hD.go fun j q1 q2 => hq j (by omega)
        replace hH := hH.go fun j q1 q2 => hq j (by omega)
        replace hP1 := hP1.go fun j q1 q2 => hq j (by omega)
        replace hP2 := hP2.go fun j q1 q2 => hq j (by omega)
        replace hU0 := hU0.go fun j q1 q2 => hq j (by omega)
        replace hfr := fun j (hj : 51 ≤ j) => (hq j (by omega)).trans (hfr j hj)
        clear hq
        refine x_aload_n (pc := 52) dX6_both_52 rfl ?_
        refine x_getf (pc := 53) dX6_both_53 kf_X6_59 (by first | assumption | exact hC.1 | exact hH.1 | exact hV0.1 | exact hT.1) (by rfl) ?_
        refine x_aload_n (pc := 56) dX6_both_56 rfl ?_
        refine x_getf (pc := 57) dX6_both_57 kf_X6_26 (by first | assumption | exact hC.1 | exact hH.1 | exact hV0.1 | exact hT.1) (by rfl) ?_
        refine x_iload_n (pc := 60) dX6_both_60 rfl ?_
        refine x_aload_n (pc := 61) dX6_both_61 rfl ?_
        refine x_getf (pc := 62) dX6_both_62 kf_X6_36 (by first | assumption | exact hC.1 | exact hH.1 | exact hV0.1 | exact hT.1) (by rfl) ?_
        refine x_getf (pc := 65) dX6_both_65 kf_X6_126 (by first | assumption | exact hC.1 | exact hH.1 | exact hV0.1 | exact hT.1) (by rfl) ?_
        refine x_cv3 (q1 := 0) (q2 := 0) (ci := 5) (pc := 68) dX6_both_68 ks_X6_169 hU0.1 (by rfl) (by omega) (by rfl) (by rfl) (by rfl) (c_walkAll okC hsk ha2 (by omega) hU0 hu0 hC) (vo_kk fun w hP => ?_)
        obtain ⟨hU0, hu0, hq⟩ := hP
        replace hX := (hq _ (by omega)).trans hX
        replace hT := hT.go fun j q1 q2 => hq j (by omega)
        replace hR := hR.go fun j q1 q2 => hq j (by omega)
        replace hC := hC.go fun j q1 q2 => hq j (by omega)
        replace hD := hD.go fun j q1 q2 => hq j (by omega)
        replace hH := hH.go fun j q1 q2 => hq j (by omega)
        replace hP1 := hP1.go fun j q1 q2 => hq j (by omega)
        replace hP2 := hP2.go fun j q1 q2 => hq j (by omega)
        replace hV0 := hV0.go fun j q1 q2 => hq j (by omega)
        replace hfr := fun j (hj : 51 ≤ j) => (hq j (by omega)).trans (hfr j hj)
        clear hq
        refine x_bipush (pc := 71) dX6_both_71 (v := -4) (by decide) ?_
        refine x_istore (pc := 73) dX6_both_73 rfl ?_
        refine x_bipush (pc := 75) dX6_both_75 (v := -4) (by decide) ?_
        refine x_istore (pc := 77) dX6_both_77 rfl ?_
        refine x_iconst (pc := 79) dX6_both_79 (v := nI 0) (by decide) ?_
        refine x_istore (pc := 80) dX6_both_80 rfl ?_
        have hen := hv0.2.2.2.1
        have hen2 := hu0.2.2.2.1
        have he2 : v_en (surS C h.2 a s0) &&& v_en (surS C h.2 a2 t0) < 1024 := Nat.lt_of_le_of_lt Nat.and_le_left hen
        have hle := hv0.2.2.2.2.2.2
        have hle2 := hu0.2.2.2.2.2.2
        have eB : boO C h a a2 = btF (v_en (surS C h.2 a s0) &&& v_en (surS C h.2 a2 t0)) (v_le (surS C h.2 a s0)) (v_le (surS C h.2 a2 t0)) 10 := by
          rw [boO, ← heq.2.1, ← heq2.2.1]
          refine btF_congr (fun b hb => ?_) 10
          rw [Nat.testBit_and, Bool.and_eq_true] at hb
          exact ⟨(heq.2.2.2.2.2 b hb.1).symm, (heq2.2.2.2.2.2 b hb.2).symm⟩
        have e : boS C h (nI a) (nI a2) z = if z = nI 0 then o1I (boO C h a a2) else o2I (boO C h a a2) := by rw [boS, if_pos ⟨hb, hb2, h_28⟩, hcl, hcl2]
        rw [eB] at e
        have loop : ∀ m b z6, b + m = 10 → Run m_X6_both 15 0 0 82 [some (.ref 0), some (.int (nI a)), some (.int (nI a2)), some (.int z), some (.int (o1I (btF (v_en (surS C h.2 a s0) &&& v_en (surS C h.2 a2 t0)) (v_le (surS C h.2 a s0)) (v_le (surS C h.2 a2 t0)) b))), some (.int (o2I (btF (v_en (surS C h.2 a s0) &&& v_en (surS C h.2 a2 t0)) (v_le (surS C h.2 a s0)) (v_le (surS C h.2 a2 t0)) b))), some (.int (nI b)), z6] [] w n (PX (boS C h (nI a) (nI a2) z) T C h L K w0 n) := by
          intro m
          induction m with
          | zero =>
            intro b z6 hb2
            have hbb : b = 10 := by omega
            subst hbb
            refine x_iload (pc := 82) dX6_both_82 rfl ?_
            refine x_bipush (pc := 84) dX6_both_84 (v := nI 10) (by decide) ?_
            refine x_icmp_ge_t (pc := 86) dX6_both_86 (tgt := 167) (by decide) (nI_le (by omega) (by omega)) ?_
            refine x_iload_n (pc := 167) dX6_both_167 rfl ?_
            refine x_if_ne (pc := 168) dX6_both_168 (tgt := 176) (by decide) (fun h_168 => ?_) (fun h_168 => ?_)
            · skip
              try first | rw [n_b0] at h_168 | rw [n_eq0 (by omega)] at h_168
              have e0 : ¬ z = nI 0 := h_168
              rw [if_neg e0] at e
              refine x_iload (pc := 176) dX6_both_176 rfl ?_
              refine x_iret (pc := 178) dX6_both_178 rfl rfl ?_
              exact va_i ⟨by rw [e], ⟨hX, hT, hR, hC, hD, hH, hP1, hP2, ⟨_, hV0, hv0⟩, ⟨_, hU0, hu0⟩⟩, hfr⟩
            · replace h_168 := Classical.not_not.mp h_168
              try first | rw [n_b0] at h_168 | rw [n_eq0 (by omega)] at h_168
              have e0 : z = nI 0 := h_168
              rw [if_pos e0] at e
              refine x_iload (pc := 171) dX6_both_171 rfl ?_
              refine x_goto (pc := 173) dX6_both_173 (tgt := 178) (by decide) ?_
              refine x_iret (pc := 178) dX6_both_178 rfl rfl ?_
              exact va_i ⟨by rw [e], ⟨hX, hT, hR, hC, hD, hH, hP1, hP2, ⟨_, hV0, hv0⟩, ⟨_, hU0, hu0⟩⟩, hfr⟩
          | succ m ih =>
            intro b z6 hb2
            have l1 := hle b (by omega)
            have l2 := hle2 b (by omega)
            obtain ⟨hV1, fr1, fb1, fl1, g1, g2, g3, g4, g5⟩ := id hV0
            obtain ⟨hU1, fr2, fb2, fl2, k1, k2, k3, k4, k5⟩ := id hU0
            refine x_iload (pc := 82) dX6_both_82 rfl ?_
            refine x_bipush (pc := 84) dX6_both_84 (v := nI 10) (by decide) ?_
            refine x_icmp_ge_f (pc := 86) dX6_both_86 (tgt := 167) (by decide) (nI_ge (by omega) (by omega)) ?_
            refine x_aload_n (pc := 89) dX6_both_89 rfl ?_
            refine x_getf (pc := 90) dX6_both_90 kf_X6_55 (by first | assumption | exact hC.1 | exact hH.1 | exact hV0.1 | exact hT.1) (by rfl) ?_
            refine x_getf (pc := 93) dX6_both_93 kf_X6_185 (by first | assumption | exact hC.1 | exact hH.1 | exact hV0.1 | exact hT.1) (by rfl) ?_
            refine x_aload_n (pc := 96) dX6_both_96 rfl ?_
            refine x_getf (pc := 97) dX6_both_97 kf_X6_59 (by first | assumption | exact hC.1 | exact hH.1 | exact hV0.1 | exact hT.1) (by rfl) ?_
            refine x_getf (pc := 100) dX6_both_100 kf_X6_185 (by first | assumption | exact hC.1 | exact hH.1 | exact hV0.1 | exact hT.1) (by rfl) ?_
            refine xn_iand (pc := 103) dX6_both_103 ?_
            refine x_iload (pc := 104) dX6_both_104 rfl ?_
            refine x_cs2p (pc := 106) dX6_both_106 ks_X6_129 (by omega) (by rfl) (by rfl) (by rfl) (c_has (by omega) (by omega)) ?_
            refine x_if_eq (pc := 109) dX6_both_109 (tgt := 161) (by decide) (fun h_109 => ?_) (fun h_109 => ?_)
            · skip
              try first | rw [n_b0] at h_109 | rw [n_eq0 (by omega)] at h_109
              have e2 : btF (v_en (surS C h.2 a s0) &&& v_en (surS C h.2 a2 t0)) (v_le (surS C h.2 a s0)) (v_le (surS C h.2 a2 t0)) (b + 1) = btF (v_en (surS C h.2 a s0) &&& v_en (surS C h.2 a2 t0)) (v_le (surS C h.2 a s0)) (v_le (surS C h.2 a2 t0)) b := by simp only [btF]; rw [if_neg (by rw [h_109]; decide)]
              refine xn_iinc (pc := 161) dX6_both_161 rfl rfl ?_
              refine x_goto (pc := 164) dX6_both_164 (tgt := 82) (by decide) ?_
              exact (by rw [← e2]; exact ih (b + 1) _ (by omega))
            · skip
              try first | rw [n_b0] at h_109 | rw [n_eq0 (by omega)] at h_109
              simp only [Bool.not_eq_false] at h_109
              have hni := o1I_none (o := btF (v_en (surS C h.2 a s0) &&& v_en (surS C h.2 a2 t0)) (v_le (surS C h.2 a s0)) (v_le (surS C h.2 a2 t0)) b) (fun q hq => by have := btF_lt hle hle2 (by omega) hq; omega)
              refine x_aload_n (pc := 112) dX6_both_112 rfl ?_
              refine x_getf (pc := 113) dX6_both_113 kf_X6_55 (by first | assumption | exact hC.1 | exact hH.1 | exact hV0.1 | exact hT.1) (by rfl) ?_
              refine x_getf (pc := 116) dX6_both_116 kf_X6_197 (by first | assumption | exact hC.1 | exact hH.1 | exact hV0.1 | exact hT.1) (by rfl) ?_
              refine x_iload (pc := 119) dX6_both_119 rfl ?_
              refine x_cs2p (pc := 121) dX6_both_121 ks_X6_106 (by omega) (by rfl) (by rfl) (by rfl) (c_at g3 (by omega) (by omega)) ?_
              rw [g5 b (by omega)]
              refine x_aload_n (pc := 124) dX6_both_124 rfl ?_
              refine x_getf (pc := 125) dX6_both_125 kf_X6_59 (by first | assumption | exact hC.1 | exact hH.1 | exact hV0.1 | exact hT.1) (by rfl) ?_
              refine x_getf (pc := 128) dX6_both_128 kf_X6_197 (by first | assumption | exact hC.1 | exact hH.1 | exact hV0.1 | exact hT.1) (by rfl) ?_
              refine x_iload (pc := 131) dX6_both_131 rfl ?_
              refine x_cs2p (pc := 133) dX6_both_133 ks_X6_106 (by omega) (by rfl) (by rfl) (by rfl) (c_at k3 (by omega) (by omega)) ?_
              rw [k5 b (by omega)]
              first | refine xn_iadd (pc := 136) dX6_both_136 ?_ | refine x_iadd (pc := 136) dX6_both_136 ?_
              refine x_istore (pc := 137) dX6_both_137 rfl ?_
              refine x_iload (pc := 139) dX6_both_139 rfl ?_
              refine x_bipush (pc := 141) dX6_both_141 (v := -4) (by decide) ?_
              refine x_icmp_eq (pc := 143) dX6_both_143 (tgt := 153) (by decide) (fun h_143 => ?_) (fun h_143 => ?_)
              · skip
                try first | rw [n_b1] at h_143 | rw [n_b00] at h_143 | rw [n_eq (by omega) (by omega)] at h_143
                rw [hni] at h_143
                have e2 : btF (v_en (surS C h.2 a s0) &&& v_en (surS C h.2 a2 t0)) (v_le (surS C h.2 a s0)) (v_le (surS C h.2 a2 t0)) (b + 1) = some (b, v_le (surS C h.2 a s0) b + v_le (surS C h.2 a2 t0) b) := by simp only [btF]; rw [if_pos h_109, h_143]
                refine x_iload (pc := 153) dX6_both_153 rfl ?_
                refine x_istore (pc := 155) dX6_both_155 rfl ?_
                refine x_iload (pc := 157) dX6_both_157 rfl ?_
                refine x_istore (pc := 159) dX6_both_159 rfl ?_
                refine xn_iinc (pc := 161) dX6_both_161 rfl rfl ?_
                refine x_goto (pc := 164) dX6_both_164 (tgt := 82) (by decide) ?_
                have hih := ih (b + 1) (some (.int (nI (v_le (surS C h.2 a s0) b + v_le (surS C h.2 a2 t0) b)))) (by omega)
                rw [e2] at hih
                exact hih
              · skip
                try first | rw [n_b1] at h_143 | rw [n_b00] at h_143 | rw [n_eq (by omega) (by omega)] at h_143
                rw [hni] at h_143
                cases hl : btF (v_en (surS C h.2 a s0) &&& v_en (surS C h.2 a2 t0)) (v_le (surS C h.2 a s0)) (v_le (surS C h.2 a2 t0)) b with
                | none => exact absurd hl h_143
                | some q =>
                  have hql := btF_lt hle hle2 (by omega) hl
                  refine x_iload (pc := 146) dX6_both_146 rfl ?_
                  refine x_iload (pc := 148) dX6_both_148 rfl ?_
                  refine x_icmp_ge (pc := 150) dX6_both_150 (tgt := 161) (by decide) (fun h_150 => ?_) (fun h_150 => ?_)
                  · skip
                    try first | rw [n_b1] at h_150 | rw [n_b00] at h_150 | rw [n_le (by omega) (by omega)] at h_150
                    have h150 : ¬ v_le (surS C h.2 a s0) b + v_le (surS C h.2 a2 t0) b < q.2 := by have h2 : nI q.2 ≤ nI (v_le (surS C h.2 a s0) b + v_le (surS C h.2 a2 t0) b) := h_150; rw [n_le (by omega) (by omega)] at h2; omega
                    have e2 : btF (v_en (surS C h.2 a s0) &&& v_en (surS C h.2 a2 t0)) (v_le (surS C h.2 a s0)) (v_le (surS C h.2 a2 t0)) (b + 1) = some q := by simp only [btF]; rw [if_pos h_109, hl]; simp only; rw [if_neg h150]
                    refine xn_iinc (pc := 161) dX6_both_161 rfl rfl ?_
                    refine x_goto (pc := 164) dX6_both_164 (tgt := 82) (by decide) ?_
                    have hih := ih (b + 1) (some (.int (nI (v_le (surS C h.2 a s0) b + v_le (surS C h.2 a2 t0) b)))) (by omega)
                    rw [e2] at hih
                    exact hih
                  · skip
                    try first | rw [n_b1] at h_150 | rw [n_b00] at h_150 | rw [n_le (by omega) (by omega)] at h_150
                    have h150 : v_le (surS C h.2 a s0) b + v_le (surS C h.2 a2 t0) b < q.2 := by have h2 : ¬ nI q.2 ≤ nI (v_le (surS C h.2 a s0) b + v_le (surS C h.2 a2 t0) b) := h_150; rw [n_le (by omega) (by omega)] at h2; omega
                    have e2 : btF (v_en (surS C h.2 a s0) &&& v_en (surS C h.2 a2 t0)) (v_le (surS C h.2 a s0)) (v_le (surS C h.2 a2 t0)) (b + 1) = some (b, v_le (surS C h.2 a s0) b + v_le (surS C h.2 a2 t0) b) := by simp only [btF]; rw [if_pos h_109, hl]; simp only; rw [if_pos h150]
                    refine x_iload (pc := 153) dX6_both_153 rfl ?_
                    refine x_istore (pc := 155) dX6_both_155 rfl ?_
                    refine x_iload (pc := 157) dX6_both_157 rfl ?_
                    refine x_istore (pc := 159) dX6_both_159 rfl ?_
                    refine xn_iinc (pc := 161) dX6_both_161 rfl rfl ?_
                    refine x_goto (pc := 164) dX6_both_164 (tgt := 82) (by decide) ?_
                    have hih := ih (b + 1) (some (.int (nI (v_le (surS C h.2 a s0) b + v_le (surS C h.2 a2 t0) b)))) (by omega)
                    rw [e2] at hih
                    exact hih
        exact loop 10 0 _ (by omega)
      · skip
        try first | rw [n_b0] at h_28 | rw [n_eq0 (by omega)] at h_28
        simp at h_28
        refine x_iconst (pc := 31) dX6_both_31 (v := -1) (by decide) ?_
        refine x_iret (pc := 32) dX6_both_32 rfl rfl ?_
        exact va_i ⟨by rw [boS, if_neg (fun q => by rw [h_28] at q; cases q.2.2)], hx0, fun _ _ => rfl⟩
/-- does SOME statement of op, b and on, have f -/
def anyF (f : Nat → Bool) (op : Nat) : Nat → Nat → Bool
  | 0, _ => false
  | k + 1, b => (op.testBit b && f b) || anyF f op k (b + 1)
/-- who speaks first wins -/
def wonF (C : Crt) (sk : Nat) : Nat → Nat → Nat → Bool
  | 0, _, last => decide (kd C last = 4) && decide (whoS C last ≠ 0)
  | m + 1, ch, last => if kd C last = 4 then decide (whoS C last ≠ 0) else if opn C last ch sk = 0 then false else
    (if anyF (fun b => wonF C sk m (ch ||| 2 ^ b) b == decide ((9 - m) % 2 = 1)) (opn C last ch sk) 10 0 then decide ((9 - m) % 2 = 1) else !decide ((9 - m) % 2 = 1))
theorem n_bb {a b : Bool} : nI (bN a) = nI (bN b) ↔ a = b := by cases a <;> cases b <;> decide +kernel
theorem c_isWon {w : ax_W} {n k : Nat} {C : Crt} (hC : isC w k C) (ok : okC C) {sk : Nat} (hsk : sk < 1024) : ∀ (m L ch last : Nat), L + m = 10 → 0 < L → ch < 1024 → last < cn C → Run m_X6_isWon (4 + m) 0 0 0 (l_ent m_X6_isWon [.ref k, .int (nI sk), .int (nI ch), .int (nI last), .int (nI L)]) [] w n (Pu (.int (nI (bN (wonF C sk m ch last)))) w n) := by
  have hn := ok.1
  have hCk := hC.1
  intro m
  induction m with
  | zero =>
    intro L ch last hLm h0 hch hl
    have hw := whoS_lt ok last
    have hop := opn_1024 ok (ch := ch) (sk := sk) hl
    refine x_aload_n (pc := 0) dX6_isWon_0 rfl ?_
    refine x_iload_n (pc := 1) dX6_isWon_1 rfl ?_
    refine x_cv1p (ci := 0) (pc := 2) dX6_isWon_2 ks_X6_206 (by first | assumption | exact hC.1 | exact hH.1 | exact hV0.1 | exact hT.1) (by rfl) (by omega) (by rfl) (by rfl) (by rfl) (c_isNight hC ok _) ?_
    rw [ntB_n ok hl]
    refine x_if_eq (pc := 5) dX6_isWon_5 (tgt := 22) (by decide) (fun h_5 => ?_) (fun h_5 => ?_)
    · skip
      try first | rw [n_b0] at h_5 | rw [n_eq0 (by omega)] at h_5
      simp at h_5
      have e : wonF C sk 0 ch last = false := by simp [wonF, h_5]
      refine x_aload_n (pc := 22) dX6_isWon_22 rfl ?_
      refine x_iload_n (pc := 23) dX6_isWon_23 rfl ?_
      refine x_iload_n (pc := 24) dX6_isWon_24 rfl ?_
      refine x_iload_n (pc := 25) dX6_isWon_25 rfl ?_
      refine x_cs4p (pc := 26) dX6_isWon_26 ks_X6_227 (by omega) (by rfl) (by rfl) (by rfl) (c_openBehind hC ok hl) ?_
      refine x_istore (pc := 29) dX6_isWon_29 rfl ?_
      refine x_iload (pc := 31) dX6_isWon_31 rfl ?_
      refine x_if_eq (pc := 33) dX6_isWon_33 (tgt := 43) (by decide) (fun h_33 => ?_) (fun h_33 => ?_)
      · skip
        try first | rw [n_b0] at h_33 | rw [n_eq0 (by omega)] at h_33
        refine x_iconst (pc := 43) dX6_isWon_43 (v := nI 0) (by decide) ?_
        refine x_zret (pc := 44) dX6_isWon_44 rfl (by first | decide | exact bN_lt _ | omega) ?_
        exact pu_n (by rw [e]; rfl)
      · skip
        try first | rw [n_b0] at h_33 | rw [n_eq0 (by omega)] at h_33
        refine x_iload (pc := 36) dX6_isWon_36 rfl ?_
        refine x_bipush (pc := 38) dX6_isWon_38 (v := nI 10) (by decide) ?_
        refine x_icmp_lt_f (pc := 40) dX6_isWon_40 (tgt := 45) (by decide) (by rw [n_lt (by omega) (by omega)]; omega) ?_
        refine x_iconst (pc := 43) dX6_isWon_43 (v := nI 0) (by decide) ?_
        refine x_zret (pc := 44) dX6_isWon_44 rfl (by first | decide | exact bN_lt _ | omega) ?_
        exact pu_n (by rw [e]; rfl)
    · skip
      try first | rw [n_b0] at h_5 | rw [n_eq0 (by omega)] at h_5
      simp at h_5
      refine x_aload_n (pc := 8) dX6_isWon_8 rfl ?_
      refine x_iload_n (pc := 9) dX6_isWon_9 rfl ?_
      refine x_cv1p (ci := 0) (pc := 10) dX6_isWon_10 ks_X6_209 (by first | assumption | exact hC.1 | exact hH.1 | exact hV0.1 | exact hT.1) (by rfl) (by omega) (by rfl) (by rfl) (by rfl) (c_doers hC ok (by omega)) ?_
      refine x_if_eq (pc := 13) dX6_isWon_13 (tgt := 20) (by decide) (fun h_13 => ?_) (fun h_13 => ?_)
      · skip
        try first | rw [n_b0] at h_13 | rw [n_eq0 (by omega)] at h_13
        have e : wonF C sk 0 ch last = false := by simp only [wonF]; rw [h_13]; simp
        refine x_iconst (pc := 20) dX6_isWon_20 (v := nI 0) (by decide) ?_
        refine x_zret (pc := 21) dX6_isWon_21 rfl (by first | decide | exact bN_lt _ | omega) ?_
        exact pu_n (by rw [e]; rfl)
      · skip
        try first | rw [n_b0] at h_13 | rw [n_eq0 (by omega)] at h_13
        have e : wonF C sk 0 ch last = true := by simp only [wonF]; rw [h_5]; simp [h_13]
        refine x_iconst (pc := 16) dX6_isWon_16 (v := nI 1) (by decide) ?_
        refine x_goto (pc := 17) dX6_isWon_17 (tgt := 21) (by decide) ?_
        refine x_zret (pc := 21) dX6_isWon_21 rfl (by first | decide | exact bN_lt _ | omega) ?_
        exact pu_n (by rw [e]; rfl)
  | succ m ih =>
    intro L ch last hLm h0 hch hl
    have hw := whoS_lt ok last
    have hop := opn_1024 ok (ch := ch) (sk := sk) hl
    have hopn := opn_lt ok (ch := ch) (sk := sk) hl
    have loop : ∀ kk b fs, b + kk = 10 → fs = decide ((9 - m) % 2 = 1) → Run m_X6_isWon (4 + (m + 1)) 0 0 63 [some (.ref k), some (.int (nI sk)), some (.int (nI ch)), some (.int (nI last)), some (.int (nI L)), some (.int (nI (opn C last ch sk))), some (.int (nI (bN fs))), some (.int (nI b))] [] w n (Pu (.int (nI (bN (if anyF (fun b => wonF C sk m (ch ||| 2 ^ b) b == fs) (opn C last ch sk) kk b then fs else !fs)))) w n) := by
      intro kk
      induction kk with
      | zero =>
        intro b fs hb hfs
        refine x_iload (pc := 63) dX6_isWon_63 rfl ?_
        refine x_bipush (pc := 65) dX6_isWon_65 (v := nI 10) (by decide) ?_
        refine x_icmp_ge_t (pc := 67) dX6_isWon_67 (tgt := 112) (by decide) (nI_le (by omega) (by omega)) ?_
        refine x_iload (pc := 112) dX6_isWon_112 rfl ?_
        refine x_if_ne (pc := 114) dX6_isWon_114 (tgt := 121) (by decide) (fun h_114 => ?_) (fun h_114 => ?_)
        · skip
          try first | rw [n_b0] at h_114 | rw [n_eq0 (by omega)] at h_114
          simp at h_114
          subst h_114
          refine x_iconst (pc := 121) dX6_isWon_121 (v := nI 0) (by decide) ?_
          refine x_zret (pc := 122) dX6_isWon_122 rfl (by first | decide | exact bN_lt _ | omega) ?_
          exact pu_n rfl
        · replace h_114 := Classical.not_not.mp h_114
          try first | rw [n_b0] at h_114 | rw [n_eq0 (by omega)] at h_114
          subst h_114
          refine x_iconst (pc := 117) dX6_isWon_117 (v := nI 1) (by decide) ?_
          refine x_goto (pc := 118) dX6_isWon_118 (tgt := 122) (by decide) ?_
          refine x_zret (pc := 122) dX6_isWon_122 rfl (by first | decide | exact bN_lt _ | omega) ?_
          exact pu_n rfl
      | succ kk ihk =>
        intro b fs hb hfs
        refine x_iload (pc := 63) dX6_isWon_63 rfl ?_
        refine x_bipush (pc := 65) dX6_isWon_65 (v := nI 10) (by decide) ?_
        refine x_icmp_ge_f (pc := 67) dX6_isWon_67 (tgt := 112) (by decide) (nI_ge (by omega) (by omega)) ?_
        refine x_iload (pc := 70) dX6_isWon_70 rfl ?_
        refine x_iload (pc := 72) dX6_isWon_72 rfl ?_
        refine x_cs2p (pc := 74) dX6_isWon_74 ks_X6_129 (by omega) (by rfl) (by rfl) (by rfl) (c_has (by omega) (by omega)) ?_
        refine x_if_eq (pc := 77) dX6_isWon_77 (tgt := 106) (by decide) (fun h_77 => ?_) (fun h_77 => ?_)
        · skip
          try first | rw [n_b0] at h_77 | rw [n_eq0 (by omega)] at h_77
          have e : anyF (fun b => wonF C sk m (ch ||| 2 ^ b) b == fs) (opn C last ch sk) (kk + 1) b = anyF (fun b => wonF C sk m (ch ||| 2 ^ b) b == fs) (opn C last ch sk) kk (b + 1) := by simp only [anyF]; rw [h_77]; rfl
          rw [e]
          refine xn_iinc (pc := 106) dX6_isWon_106 rfl rfl ?_
          refine x_goto (pc := 109) dX6_isWon_109 (tgt := 63) (by decide) ?_
          exact ihk (b + 1) fs (by omega) hfs
        · skip
          try first | rw [n_b0] at h_77 | rw [n_eq0 (by omega)] at h_77
          simp only [Bool.not_eq_false] at h_77
          have hbn := bit_in hopn h_77
          refine x_aload_n (pc := 80) dX6_isWon_80 rfl ?_
          refine x_iload_n (pc := 81) dX6_isWon_81 rfl ?_
          refine x_iload_n (pc := 82) dX6_isWon_82 rfl ?_
          refine x_iload (pc := 83) dX6_isWon_83 rfl ?_
          refine x_cs1p (pc := 85) dX6_isWon_85 ks_X6_147 (by omega) (by rfl) (by rfl) (by rfl) (c_bit (by omega)) ?_
          first | refine xn_ior (pc := 88) dX6_isWon_88 ?_ | refine x_ior (pc := 88) dX6_isWon_88 ?_
          refine x_iload (pc := 89) dX6_isWon_89 rfl ?_
          refine x_iload (pc := 91) dX6_isWon_91 rfl ?_
          refine x_iconst (pc := 93) dX6_isWon_93 (v := nI 1) (by decide) ?_
          first | refine xn_iadd (pc := 94) dX6_isWon_94 ?_ | refine x_iadd (pc := 94) dX6_isWon_94 ?_
          refine x_cs5p (pc := 95) dX6_isWon_95 ks_X6_240 (by omega) (by rfl) (by rfl) (by rfl) (ih (L + 1) (ch ||| 2 ^ b) b (by omega) (by omega) (or_1024 hch (pow_10 (by omega))) hbn) ?_
          refine x_iload (pc := 98) dX6_isWon_98 rfl ?_
          refine x_icmp_ne (pc := 100) dX6_isWon_100 (tgt := 106) (by decide) (fun h_100 => ?_) (fun h_100 => ?_)
          · skip
            try first | rw [n_b1] at h_100 | rw [n_b00] at h_100 | rw [n_eq (by omega) (by omega)] at h_100
            have hne : ¬ wonF C sk m (ch ||| 2 ^ b) b = fs := fun z => h_100 (by rw [z])
            have e : anyF (fun b => wonF C sk m (ch ||| 2 ^ b) b == fs) (opn C last ch sk) (kk + 1) b = anyF (fun b => wonF C sk m (ch ||| 2 ^ b) b == fs) (opn C last ch sk) kk (b + 1) := by simp only [anyF]; rw [beq_false_of_ne hne]; simp
            rw [e]
            refine xn_iinc (pc := 106) dX6_isWon_106 rfl rfl ?_
            refine x_goto (pc := 109) dX6_isWon_109 (tgt := 63) (by decide) ?_
            exact ihk (b + 1) fs (by omega) hfs
          · replace h_100 := Classical.not_not.mp h_100
            try first | rw [n_b1] at h_100 | rw [n_b00] at h_100 | rw [n_eq (by omega) (by omega)] at h_100
            have heq : wonF C sk m (ch ||| 2 ^ b) b = fs := n_bb.mp h_100
            have e : anyF (fun b => wonF C sk m (ch ||| 2 ^ b) b == fs) (opn C last ch sk) (kk + 1) b = true := by simp only [anyF]; rw [h_77, beq_iff_eq.mpr heq]; rfl
            refine x_iload (pc := 103) dX6_isWon_103 rfl ?_
            refine x_zret (pc := 105) dX6_isWon_105 rfl (by first | decide | exact bN_lt _ | omega) ?_
            exact pu_n (by rw [e]; rfl)
    refine x_aload_n (pc := 0) dX6_isWon_0 rfl ?_
    refine x_iload_n (pc := 1) dX6_isWon_1 rfl ?_
    refine x_cv1p (ci := 0) (pc := 2) dX6_isWon_2 ks_X6_206 (by first | assumption | exact hC.1 | exact hH.1 | exact hV0.1 | exact hT.1) (by rfl) (by omega) (by rfl) (by rfl) (by rfl) (c_isNight hC ok _) ?_
    rw [ntB_n ok hl]
    refine x_if_eq (pc := 5) dX6_isWon_5 (tgt := 22) (by decide) (fun h_5 => ?_) (fun h_5 => ?_)
    · skip
      try first | rw [n_b0] at h_5 | rw [n_eq0 (by omega)] at h_5
      simp at h_5
      refine x_aload_n (pc := 22) dX6_isWon_22 rfl ?_
      refine x_iload_n (pc := 23) dX6_isWon_23 rfl ?_
      refine x_iload_n (pc := 24) dX6_isWon_24 rfl ?_
      refine x_iload_n (pc := 25) dX6_isWon_25 rfl ?_
      refine x_cs4p (pc := 26) dX6_isWon_26 ks_X6_227 (by omega) (by rfl) (by rfl) (by rfl) (c_openBehind hC ok hl) ?_
      refine x_istore (pc := 29) dX6_isWon_29 rfl ?_
      refine x_iload (pc := 31) dX6_isWon_31 rfl ?_
      refine x_if_eq (pc := 33) dX6_isWon_33 (tgt := 43) (by decide) (fun h_33 => ?_) (fun h_33 => ?_)
      · skip
        try first | rw [n_b0] at h_33 | rw [n_eq0 (by omega)] at h_33
        have e : wonF C sk (m + 1) ch last = false := by simp only [wonF]; rw [if_neg h_5, if_pos h_33]
        refine x_iconst (pc := 43) dX6_isWon_43 (v := nI 0) (by decide) ?_
        refine x_zret (pc := 44) dX6_isWon_44 rfl (by first | decide | exact bN_lt _ | omega) ?_
        exact pu_n (by rw [e]; rfl)
      · skip
        try first | rw [n_b0] at h_33 | rw [n_eq0 (by omega)] at h_33
        have e : wonF C sk (m + 1) ch last = (if anyF (fun b => wonF C sk m (ch ||| 2 ^ b) b == decide ((9 - m) % 2 = 1)) (opn C last ch sk) 10 0 then decide ((9 - m) % 2 = 1) else !decide ((9 - m) % 2 = 1)) := by simp only [wonF]; rw [if_neg h_5, if_neg h_33]
        refine x_iload (pc := 36) dX6_isWon_36 rfl ?_
        refine x_bipush (pc := 38) dX6_isWon_38 (v := nI 10) (by decide) ?_
        refine x_icmp_lt_t (pc := 40) dX6_isWon_40 (tgt := 45) (by decide) (by rw [n_lt (by omega) (by omega)]; omega) ?_
        refine x_iload (pc := 45) dX6_isWon_45 rfl ?_
        refine x_iconst (pc := 47) dX6_isWon_47 (v := nI 2) (by decide) ?_
        first | refine xn_irem (pc := 48) dX6_isWon_48 (by omega) (by omega) (by omega) ?_ | refine x_irem (pc := 48) dX6_isWon_48 (by assumption) ?_
        refine x_iconst (pc := 49) dX6_isWon_49 (v := nI 1) (by decide) ?_
        refine x_icmp_ne (pc := 50) dX6_isWon_50 (tgt := 57) (by decide) (fun h_50 => ?_) (fun h_50 => ?_)
        · skip
          try first | rw [n_b1] at h_50 | rw [n_b00] at h_50 | rw [n_eq (by omega) (by omega)] at h_50
          have h50 : ¬ (9 - m) % 2 = 1 := by intro z; apply h_50; rw [show L % 2 = 1 by omega]
          have e5 : false = decide ((9 - m) % 2 = 1) := by simp [h50]
          rw [e, ← e5]
          have hlp := loop 10 0 false rfl e5
          refine x_iconst (pc := 57) dX6_isWon_57 (v := nI 0) (by decide) ?_
          refine x_istore (pc := 58) dX6_isWon_58 rfl ?_
          refine x_iconst (pc := 60) dX6_isWon_60 (v := nI 0) (by decide) ?_
          refine x_istore (pc := 61) dX6_isWon_61 rfl ?_
          exact hlp
        · replace h_50 := Classical.not_not.mp h_50
          try first | rw [n_b1] at h_50 | rw [n_b00] at h_50 | rw [n_eq (by omega) (by omega)] at h_50
          have h50 : (9 - m) % 2 = 1 := by omega
          have e5 : true = decide ((9 - m) % 2 = 1) := by simp [h50]
          rw [e, ← e5]
          have hlp := loop 10 0 true rfl e5
          refine x_iconst (pc := 53) dX6_isWon_53 (v := nI 1) (by decide) ?_
          refine x_goto (pc := 54) dX6_isWon_54 (tgt := 58) (by decide) ?_
          refine x_istore (pc := 58) dX6_isWon_58 rfl ?_
          refine x_iconst (pc := 60) dX6_isWon_60 (v := nI 0) (by decide) ?_
          refine x_istore (pc := 61) dX6_isWon_61 rfl ?_
          exact hlp
    · skip
      try first | rw [n_b0] at h_5 | rw [n_eq0 (by omega)] at h_5
      simp at h_5
      refine x_aload_n (pc := 8) dX6_isWon_8 rfl ?_
      refine x_iload_n (pc := 9) dX6_isWon_9 rfl ?_
      refine x_cv1p (ci := 0) (pc := 10) dX6_isWon_10 ks_X6_209 (by first | assumption | exact hC.1 | exact hH.1 | exact hV0.1 | exact hT.1) (by rfl) (by omega) (by rfl) (by rfl) (by rfl) (c_doers hC ok (by omega)) ?_
      refine x_if_eq (pc := 13) dX6_isWon_13 (tgt := 20) (by decide) (fun h_13 => ?_) (fun h_13 => ?_)
      · skip
        try first | rw [n_b0] at h_13 | rw [n_eq0 (by omega)] at h_13
        have e : wonF C sk (m + 1) ch last = false := by simp only [wonF]; rw [if_pos h_5]; simp [h_13]
        refine x_iconst (pc := 20) dX6_isWon_20 (v := nI 0) (by decide) ?_
        refine x_zret (pc := 21) dX6_isWon_21 rfl (by first | decide | exact bN_lt _ | omega) ?_
        exact pu_n (by rw [e]; rfl)
      · skip
        try first | rw [n_b0] at h_13 | rw [n_eq0 (by omega)] at h_13
        have e : wonF C sk (m + 1) ch last = true := by simp only [wonF]; rw [if_pos h_5]; simp [h_13]
        refine x_iconst (pc := 16) dX6_isWon_16 (v := nI 1) (by decide) ?_
        refine x_goto (pc := 17) dX6_isWon_17 (tgt := 21) (by decide) ?_
        refine x_zret (pc := 21) dX6_isWon_21 rfl (by first | decide | exact bN_lt _ | omega) ?_
        exact pu_n (by rw [e]; rfl)
def woF (C : Crt) (sk a : Nat) : Nat → Nat → Option Nat
  | 0, _ => none
  | k + 1, b => if (opn C a (2 ^ a) sk).testBit b && wonF C sk 8 (2 ^ a ||| 2 ^ b) b then some b else woF C sk a k (b + 1)
theorem woF_lt {C : Crt} {sk a : Nat} : ∀ {k b q}, woF C sk a k b = some q → q < b + k
  | 0, b, q, h => by cases h
  | k + 1, b, q, h => by
    simp only [woF] at h
    split at h
    · cases h; omega
    · have := woF_lt h; omega
/-- the winning opening, if there is one -/
def woS (C : Crt) (h : Hrg) (a : Nat) : Option Nat := if h.2.testBit a then none else woF C h.2 a 10 0
def rsI' (o : Option Nat) : Int32 := match o with
  | some q => nI q
  | none => -4
theorem c_winningOpening {w : ax_W} {n : Nat} {T : List Nat} {C : Crt} {h : Hrg} {L K : List Hrg} (hx : isX w T C h L K) (ok : okX T C h L K) {a : Nat} (ha : a < cn C) : Run m_X6_winningOpening 13 0 0 0 (l_ent m_X6_winningOpening [.ref 0, .int (nI a)]) [] w n (Pu (.int (rsI' (woS C h a))) w n) := by
  obtain ⟨hX, hT, hR, hC, hD, hH, hP1, hP2, hV, hV2⟩ := hx
  obtain ⟨-, okC, okH, -⟩ := ok
  have hn := okC.1
  have hsk := okH.sk okC
  obtain ⟨hC1, -⟩ := id hC
  obtain ⟨hH1, -⟩ := id hH
  have hop := opn_1024 okC (ch := 2 ^ a) (sk := h.2) ha
  have hopn := opn_lt okC (ch := 2 ^ a) (sk := h.2) ha
  have loop : ∀ kk b, b + kk = 10 → Run m_X6_winningOpening 13 0 0 39 [some (.ref 0), some (.int (nI a)), some (.int (nI (opn C a (2 ^ a) h.2))), some (.int (nI b))] [] w n (Pu (.int (rsI' (woF C h.2 a kk b))) w n) := by
    intro kk
    induction kk with
    | zero =>
      intro b hb
      refine x_iload_n (pc := 39) dX6_winningOpening_39 rfl ?_
      refine x_bipush (pc := 40) dX6_winningOpening_40 (v := nI 10) (by decide) ?_
      refine x_icmp_ge_t (pc := 42) dX6_winningOpening_42 (tgt := 89) (by decide) (nI_le (by omega) (by omega)) ?_
      refine x_bipush (pc := 89) dX6_winningOpening_89 (v := -4) (by decide) ?_
      refine x_iret (pc := 91) dX6_winningOpening_91 rfl rfl ?_
      exact pu_i rfl
    | succ kk ih =>
      intro b hb
      refine x_iload_n (pc := 39) dX6_winningOpening_39 rfl ?_
      refine x_bipush (pc := 40) dX6_winningOpening_40 (v := nI 10) (by decide) ?_
      refine x_icmp_ge_f (pc := 42) dX6_winningOpening_42 (tgt := 89) (by decide) (nI_ge (by omega) (by omega)) ?_
      refine x_iload_n (pc := 45) dX6_winningOpening_45 rfl ?_
      refine x_iload_n (pc := 46) dX6_winningOpening_46 rfl ?_
      refine x_cs2p (pc := 47) dX6_winningOpening_47 ks_X6_129 (by omega) (by rfl) (by rfl) (by rfl) (c_has (by omega) (by omega)) ?_
      refine x_if_eq (pc := 50) dX6_winningOpening_50 (tgt := 83) (by decide) (fun h_50 => ?_) (fun h_50 => ?_)
      · skip
        try first | rw [n_b0] at h_50 | rw [n_eq0 (by omega)] at h_50
        have e : woF C h.2 a (kk + 1) b = woF C h.2 a kk (b + 1) := by simp only [woF]; rw [h_50]; rfl
        refine xn_iinc (pc := 83) dX6_winningOpening_83 rfl rfl ?_
        refine x_goto (pc := 86) dX6_winningOpening_86 (tgt := 39) (by decide) ?_
        exact (by rw [e]; exact ih (b + 1) (by omega))
      · skip
        try first | rw [n_b0] at h_50 | rw [n_eq0 (by omega)] at h_50
        simp only [Bool.not_eq_false] at h_50
        have hbn := bit_in hopn h_50
        refine x_aload_n (pc := 53) dX6_winningOpening_53 rfl ?_
        refine x_getf (pc := 54) dX6_winningOpening_54 kf_X6_26 (by first | assumption | exact hC.1 | exact hH.1 | exact hV0.1 | exact hT.1) (by rfl) ?_
        refine x_aload_n (pc := 57) dX6_winningOpening_57 rfl ?_
        refine x_getf (pc := 58) dX6_winningOpening_58 kf_X6_36 (by first | assumption | exact hC.1 | exact hH.1 | exact hV0.1 | exact hT.1) (by rfl) ?_
        refine x_getf (pc := 61) dX6_winningOpening_61 kf_X6_126 (by first | assumption | exact hC.1 | exact hH.1 | exact hV0.1 | exact hT.1) (by rfl) ?_
        refine x_iload_n (pc := 64) dX6_winningOpening_64 rfl ?_
        refine x_cs1p (pc := 65) dX6_winningOpening_65 ks_X6_147 (by omega) (by rfl) (by rfl) (by rfl) (c_bit (by omega)) ?_
        refine x_iload_n (pc := 68) dX6_winningOpening_68 rfl ?_
        refine x_cs1p (pc := 69) dX6_winningOpening_69 ks_X6_147 (by omega) (by rfl) (by rfl) (by rfl) (c_bit (by omega)) ?_
        first | refine xn_ior (pc := 72) dX6_winningOpening_72 ?_ | refine x_ior (pc := 72) dX6_winningOpening_72 ?_
        refine x_iload_n (pc := 73) dX6_winningOpening_73 rfl ?_
        refine x_iconst (pc := 74) dX6_winningOpening_74 (v := nI 2) (by decide) ?_
        refine x_cs5p (pc := 75) dX6_winningOpening_75 ks_X6_240 (by omega) (by rfl) (by rfl) (by rfl) (c_isWon hC okC hsk 8 2 (2 ^ a ||| 2 ^ b) b rfl (by omega) (or_1024 (pow_10 (by omega)) (pow_10 (by omega))) hbn) ?_
        refine x_if_eq (pc := 78) dX6_winningOpening_78 (tgt := 83) (by decide) (fun h_78 => ?_) (fun h_78 => ?_)
        · skip
          try first | rw [n_b0] at h_78 | rw [n_eq0 (by omega)] at h_78
          have e : woF C h.2 a (kk + 1) b = woF C h.2 a kk (b + 1) := by simp only [woF]; rw [h_50, h_78]; rfl
          refine xn_iinc (pc := 83) dX6_winningOpening_83 rfl rfl ?_
          refine x_goto (pc := 86) dX6_winningOpening_86 (tgt := 39) (by decide) ?_
          exact (by rw [e]; exact ih (b + 1) (by omega))
        · skip
          try first | rw [n_b0] at h_78 | rw [n_eq0 (by omega)] at h_78
          simp only [Bool.not_eq_false] at h_78
          have e : woF C h.2 a (kk + 1) b = some b := by simp only [woF]; rw [h_50, h_78]; rfl
          refine x_iload_n (pc := 81) dX6_winningOpening_81 rfl ?_
          refine x_iret (pc := 82) dX6_winningOpening_82 rfl rfl ?_
          exact pu_i (by rw [e]; rfl)
  refine x_aload_n (pc := 0) dX6_winningOpening_0 rfl ?_
  refine x_getf (pc := 1) dX6_winningOpening_1 kf_X6_36 (by first | assumption | exact hC.1 | exact hH.1 | exact hV0.1 | exact hT.1) (by rfl) ?_
  refine x_getf (pc := 4) dX6_winningOpening_4 kf_X6_126 (by first | assumption | exact hC.1 | exact hH.1 | exact hV0.1 | exact hT.1) (by rfl) ?_
  refine x_iload_n (pc := 7) dX6_winningOpening_7 rfl ?_
  refine x_cs2p (pc := 8) dX6_winningOpening_8 ks_X6_129 (by omega) (by rfl) (by rfl) (by rfl) (c_has (by omega) (by omega)) ?_
  refine x_if_eq (pc := 11) dX6_winningOpening_11 (tgt := 17) (by decide) (fun h_11 => ?_) (fun h_11 => ?_)
  · skip
    try first | rw [n_b0] at h_11 | rw [n_eq0 (by omega)] at h_11
    have e : woS C h a = woF C h.2 a 10 0 := by rw [woS, if_neg (by rw [h_11]; decide)]
    refine x_aload_n (pc := 17) dX6_winningOpening_17 rfl ?_
    refine x_getf (pc := 18) dX6_winningOpening_18 kf_X6_26 (by first | assumption | exact hC.1 | exact hH.1 | exact hV0.1 | exact hT.1) (by rfl) ?_
    refine x_iload_n (pc := 21) dX6_winningOpening_21 rfl ?_
    refine x_iload_n (pc := 22) dX6_winningOpening_22 rfl ?_
    refine x_cs1p (pc := 23) dX6_winningOpening_23 ks_X6_147 (by omega) (by rfl) (by rfl) (by rfl) (c_bit (by omega)) ?_
    refine x_aload_n (pc := 26) dX6_winningOpening_26 rfl ?_
    refine x_getf (pc := 27) dX6_winningOpening_27 kf_X6_36 (by first | assumption | exact hC.1 | exact hH.1 | exact hV0.1 | exact hT.1) (by rfl) ?_
    refine x_getf (pc := 30) dX6_winningOpening_30 kf_X6_126 (by first | assumption | exact hC.1 | exact hH.1 | exact hV0.1 | exact hT.1) (by rfl) ?_
    refine x_cs4p (pc := 33) dX6_winningOpening_33 ks_X6_227 (by omega) (by rfl) (by rfl) (by rfl) (c_openBehind hC okC ha) ?_
    refine x_istore_n (pc := 36) dX6_winningOpening_36 rfl ?_
    refine x_iconst (pc := 37) dX6_winningOpening_37 (v := nI 0) (by decide) ?_
    refine x_istore_n (pc := 38) dX6_winningOpening_38 rfl ?_
    exact (by rw [e]; exact loop 10 0 rfl)
  · skip
    try first | rw [n_b0] at h_11 | rw [n_eq0 (by omega)] at h_11
    simp only [Bool.not_eq_false] at h_11
    refine x_bipush (pc := 14) dX6_winningOpening_14 (v := -4) (by decide) ?_
    refine x_iret (pc := 16) dX6_winningOpening_16 rfl rfl ?_
    exact pu_i (by rw [woS, if_pos h_11]; rfl)
def byS (C : Crt) (h : Hrg) (x y : Int32) : Int32 := if vtB C x = true ∧ y01 y = true then (if y = nI 0 then nI (bN (woS C h x.toNatClampNeg).isSome) else rsI' (woS C h x.toNatClampNeg)) else -1
theorem rsI'_none {o : Option Nat} (h : ∀ q, o = some q → q < 1000) : rsI' o = -4 ↔ o = none := by
  cases o with
  | none => exact ⟨fun _ => rfl, fun _ => rfl⟩
  | some q =>
    refine ⟨fun z => ?_, fun z => by cases z⟩
    have hq := h q rfl
    have z2 : nI q = -4 := z
    have := congrArg (fun x : Int32 => x.toInt) z2
    rw [show (nI q).toInt = (q : Int) from nI_toInt (by omega), show ((-4 : Int32)).toInt = -4 from by decide +kernel] at this
    omega
theorem c_byTurns {w : ax_W} {n : Nat} {T : List Nat} {C : Crt} {h : Hrg} {L K : List Hrg} (hx : isX w T C h L K) (ok : okX T C h L K) (x y : Int32) : Run m_X6_byTurns 14 0 0 0 (l_ent m_X6_byTurns [.ref 0, .int x, .int y]) [] w n (PX (byS C h x y) T C h L K w n) := by
  have hx0 := hx
  obtain ⟨hX, hT, hR, hC, hD, hH, hP1, hP2, hV, hV2⟩ := hx
  have okC := ok.2.1
  have hn := okC.1
  obtain ⟨hC1, -⟩ := id hC
  rcases vtB_cases okC x with hb | ⟨a, ha, rfl, hb⟩
  · refine x_aload_n (pc := 0) dX6_byTurns_0 rfl ?_
    refine x_getf (pc := 1) dX6_byTurns_1 kf_X6_26 (by first | assumption | exact hC.1 | exact hH.1 | exact hV0.1 | exact hT.1) (by rfl) ?_
    refine x_iload_n (pc := 4) dX6_byTurns_4 rfl ?_
    refine x_cv1p (ci := 0) (pc := 5) dX6_byTurns_5 ks_X6_116 (by first | assumption | exact hC.1 | exact hH.1 | exact hV0.1 | exact hT.1) (by rfl) (by omega) (by rfl) (by rfl) (by rfl) (c_isVerdict hC okC _) ?_
    refine x_if_eq (pc := 8) dX6_byTurns_8 (tgt := 20) (by decide) (fun h_8 => ?_) (fun h_8 => ?_)
    · skip
      try first | rw [n_b0] at h_8 | rw [n_eq0 (by omega)] at h_8
      refine x_iconst (pc := 20) dX6_byTurns_20 (v := -1) (by decide) ?_
      refine x_iret (pc := 21) dX6_byTurns_21 rfl rfl ?_
      exact va_i ⟨by rw [byS, if_neg (fun q => by rw [hb] at q; cases q.1)], hx0, fun _ _ => rfl⟩
    · skip
      try first | rw [n_b0] at h_8 | rw [n_eq0 (by omega)] at h_8
      exact absurd hb h_8
  have hcl : (nI a).toNatClampNeg = a := n_cl (by omega)
  have hlt : ∀ q, woS C h a = some q → q < 1000 := by
    intro q hq
    rw [woS] at hq
    split at hq
    · cases hq
    · have := woF_lt hq; omega
  have hno := rsI'_none hlt
  refine x_aload_n (pc := 0) dX6_byTurns_0 rfl ?_
  refine x_getf (pc := 1) dX6_byTurns_1 kf_X6_26 (by first | assumption | exact hC.1 | exact hH.1 | exact hV0.1 | exact hT.1) (by rfl) ?_
  refine x_iload_n (pc := 4) dX6_byTurns_4 rfl ?_
  refine x_cv1p (ci := 0) (pc := 5) dX6_byTurns_5 ks_X6_116 (by first | assumption | exact hC.1 | exact hH.1 | exact hV0.1 | exact hT.1) (by rfl) (by omega) (by rfl) (by rfl) (by rfl) (c_isVerdict hC okC _) ?_
  refine x_if_eq (pc := 8) dX6_byTurns_8 (tgt := 20) (by decide) (fun h_8 => ?_) (fun h_8 => ?_)
  · skip
    try first | rw [n_b0] at h_8 | rw [n_eq0 (by omega)] at h_8
    rw [hb] at h_8; cases h_8
  · skip
    try first | rw [n_b0] at h_8 | rw [n_eq0 (by omega)] at h_8
    refine x_iload_n (pc := 11) dX6_byTurns_11 rfl ?_
    refine x_iconst (pc := 12) dX6_byTurns_12 (v := nI 0) (by decide) ?_
    refine x_iconst (pc := 13) dX6_byTurns_13 (v := nI 1) (by decide) ?_
    refine x_cs3p (pc := 14) dX6_byTurns_14 ks_X6_75 (by omega) (by rfl) (by rfl) (by rfl) (c_outside _ _ _) ?_
    rw [y01_out]
    refine x_if_eq (pc := 17) dX6_byTurns_17 (tgt := 22) (by decide) (fun h_17 => ?_) (fun h_17 => ?_)
    · skip
      try first | rw [n_b0] at h_17 | rw [n_eq0 (by omega)] at h_17
      simp at h_17
      have e : byS C h (nI a) y = if y = nI 0 then nI (bN (woS C h a).isSome) else rsI' (woS C h a) := by rw [byS, if_pos ⟨hb, h_17⟩, hcl]
      refine x_aload_n (pc := 22) dX6_byTurns_22 rfl ?_
      refine x_iload_n (pc := 23) dX6_byTurns_23 rfl ?_
      refine x_cv1p (ci := 6) (pc := 24) dX6_byTurns_24 ks_X6_200 (by first | assumption | exact hC.1 | exact hH.1 | exact hV0.1 | exact hT.1) (by rfl) (by omega) (by rfl) (by rfl) (by rfl) (c_winningOpening hx0 ok ha) ?_
      refine x_istore_n (pc := 27) dX6_byTurns_27 rfl ?_
      refine x_iload_n (pc := 28) dX6_byTurns_28 rfl ?_
      refine x_if_ne (pc := 29) dX6_byTurns_29 (tgt := 49) (by decide) (fun h_29 => ?_) (fun h_29 => ?_)
      · skip
        try first | rw [n_b0] at h_29 | rw [n_eq0 (by omega)] at h_29
        have e0 : ¬ y = nI 0 := h_29
        rw [if_neg e0] at e
        refine x_iload_n (pc := 49) dX6_byTurns_49 rfl ?_
        refine x_iret (pc := 50) dX6_byTurns_50 rfl rfl ?_
        exact va_i ⟨by first | (rw [e]; done) | (rw [e]; rfl), hx0, fun _ _ => rfl⟩
      · replace h_29 := Classical.not_not.mp h_29
        try first | rw [n_b0] at h_29 | rw [n_eq0 (by omega)] at h_29
        have e0 : y = nI 0 := h_29
        rw [if_pos e0] at e
        refine x_iload_n (pc := 32) dX6_byTurns_32 rfl ?_
        refine x_bipush (pc := 33) dX6_byTurns_33 (v := -4) (by decide) ?_
        refine x_icmp_eq (pc := 35) dX6_byTurns_35 (tgt := 42) (by decide) (fun h_35 => ?_) (fun h_35 => ?_)
        · skip
          try first | rw [n_b1] at h_35 | rw [n_b00] at h_35 | rw [n_eq (by omega) (by omega)] at h_35
          rw [hno] at h_35
          rw [h_35] at e
          refine x_iconst (pc := 42) dX6_byTurns_42 (v := nI 0) (by decide) ?_
          first | refine Run.top (v' := .int (nI (bN true))) rfl ?_ | refine Run.top (v' := .int (nI (bN false))) rfl ?_
          refine x_cs1p (pc := 43) dX6_byTurns_43 ks_X6_119 (by omega) (by rfl) (by rfl) (by rfl) (c_asNumber _) ?_
          refine x_goto (pc := 46) dX6_byTurns_46 (tgt := 50) (by decide) ?_
          refine x_iret (pc := 50) dX6_byTurns_50 rfl rfl ?_
          exact va_i ⟨by first | (rw [e]; done) | (rw [e]; rfl), hx0, fun _ _ => rfl⟩
        · skip
          try first | rw [n_b1] at h_35 | rw [n_b00] at h_35 | rw [n_eq (by omega) (by omega)] at h_35
          rw [hno] at h_35
          obtain ⟨q, hq⟩ := Option.ne_none_iff_exists'.mp h_35
          rw [hq] at e
          refine x_iconst (pc := 38) dX6_byTurns_38 (v := nI 1) (by decide) ?_
          refine x_goto (pc := 39) dX6_byTurns_39 (tgt := 43) (by decide) ?_
          first | refine Run.top (v' := .int (nI (bN true))) rfl ?_ | refine Run.top (v' := .int (nI (bN false))) rfl ?_
          refine x_cs1p (pc := 43) dX6_byTurns_43 ks_X6_119 (by omega) (by rfl) (by rfl) (by rfl) (c_asNumber _) ?_
          refine x_goto (pc := 46) dX6_byTurns_46 (tgt := 50) (by decide) ?_
          refine x_iret (pc := 50) dX6_byTurns_50 rfl rfl ?_
          exact va_i ⟨by first | (rw [e]; done) | (rw [e]; rfl), hx0, fun _ _ => rfl⟩
    · skip
      try first | rw [n_b0] at h_17 | rw [n_eq0 (by omega)] at h_17
      simp at h_17
      refine x_iconst (pc := 20) dX6_byTurns_20 (v := -1) (by decide) ?_
      refine x_iret (pc := 21) dX6_byTurns_21 rfl rfl ?_
      exact va_i ⟨by rw [byS, if_neg (fun q => by rw [h_17] at q; cases q.2)], hx0, fun _ _ => rfl⟩
