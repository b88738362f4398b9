/-! the reference solves a court -/
def tbK (C : Crt) (o : Option Nat) (sk ch last : Nat) (F : Nat → Nat → Int32) : Prop := tbV C last (cnt ch 10) (pthO C (onB o) sk (10 - cnt ch 10) ch last) (wonF C sk (10 - cnt ch 10) ch last) F (10 * ch + last)
def mS (w : ax_W) (C : Crt) (o : Option Nat) (sk : Nat) (F : Nat → Nat → Int32) : Prop := mB w F ∧ ∀ ch last, ch < 2 ^ cn C → last < cn C → ch.testBit last = true → tbK C o sk ch last F
theorem cnt_pos {m : Nat} : ∀ n b, b < n → m.testBit b = true → 1 ≤ cnt m n
  | 0, b, h, _ => absurd h (Nat.not_lt_zero b)
  | n + 1, b, h, hb => by
    simp only [cnt]
    by_cases hbn : b = n
    · subst hbn; rw [hb]; simp
    · have := cnt_pos n b (by omega) hb
      omega
theorem pthO_night {C : Crt} {q : Nat → Bool} {sk m ch last : Nat} (h : kd C last = 4) : pthO C q sk m ch last = if q last then [[]] else [] := by
  cases m <;> simp only [pthO] <;> rw [if_pos h]
theorem wonF_night {C : Crt} {sk m ch last : Nat} (h : kd C last = 4) : wonF C sk m ch last = decide (whoS C last ≠ 0) := by
  cases m <;> simp only [wonF, h] <;> simp
theorem goOn_val {C : Crt} (okc : okC C) {o : Option Nat} {sk ch last L op : Nat} (hl : last < cn C) (hk : kd C last ≠ 4) (hL : cnt ch 10 = L) (hop : opn C last ch sk = op) :
    preF (fun b => pthO C (onB o) sk (10 - (L + 1)) (ch ||| 2 ^ b) b) op (cn C) = pthO C (onB o) sk (10 - L) ch last ∧ winF (decide (L % 2 = 1)) (fun b => wonF C sk (10 - (L + 1)) (ch ||| 2 ^ b) b) op (cn C) = wonF C sk (10 - L) ch last := by
  have hn := okc.1
  have hL10 : L ≤ 10 := by rw [← hL]; exact cnt_le ch 10
  have hopn : op < 2 ^ cn C := by rw [← hop]; exact opn_lt okc hl
  by_cases h10 : L = 10
  · have h0 : op = 0 := by
      refine Nat.eq_of_testBit_eq fun i => ?_
      rw [Nat.zero_testBit]
      by_cases hi : i < 10
      · rw [← hop, opn_bit okc hl, cnt_full (m := ch) 10 (by rw [hL, h10]) i hi]
        simp
      · exact bit_lt hopn (by omega)
    subst h10 h0
    have e1 : ∀ j, preF (fun b => pthO C (onB o) sk (10 - (10 + 1)) (ch ||| 2 ^ b) b) 0 j = [] := by
      intro j
      induction j with
      | zero => rfl
      | succ j ih => rw [preF_s, ih]; simp
    rw [e1]
    simp only [Nat.sub_self, pthO, wonF, winF, if_neg hk]
    simp [hk]
  · obtain ⟨m, hm⟩ : ∃ m, 10 - L = m + 1 := ⟨9 - L, by omega⟩
    have hm2 : 10 - (L + 1) = m := by omega
    have h9 : 9 - m = L := by omega
    rw [hm, hm2]
    have hc : cn C + (10 - cn C) = 10 := by omega
    constructor
    · simp only [pthO]
      rw [if_neg hk, hop]
      have := preF_end (f := fun b => pthO C (onB o) sk m (ch ||| 2 ^ b) b) hopn (10 - cn C)
      rw [hc] at this
      exact this.symm
    · simp only [wonF]
      rw [if_neg hk, hop, h9]
      unfold winF
      have := anyF_end (f := fun b => wonF C sk m (ch ||| 2 ^ b) b == decide (L % 2 = 1)) hopn (10 - cn C)
      rw [hc] at this
      rw [this]
theorem or_gt {s b : Nat} (h : s.testBit b = false) : s < s ||| 2 ^ b := by
  have h1 : s ≤ s ||| 2 ^ b := Nat.left_le_or
  rcases Nat.lt_or_ge s (s ||| 2 ^ b) with q | q
  · exact q
  · have e : s ||| 2 ^ b = s := by omega
    have h2 : (s ||| 2 ^ b).testBit b = true := by rw [b_orp]; simp
    rw [e, h] at h2
    cases h2
theorem m_solve {w0 : ax_W} {n : Nat} {C : Crt} (okc : okC C) {ty at_ so un ke rl : Int32} (hK0 : w0 51 = om ty at_ so un ke rl) (hC0 : mR w0 C) {f61 : Nat → Int32} {sk : Nat} (h61 : w0 61 = ai 132 f61) (hs : f61 1 = nI sk) {F0 : Nat → Nat → Int32} (hB0 : mB w0 F0) {o : Option Nat} (ho : ∀ b, o = some b → b < 10) : Run m_X7_solve 2 0 0 0 (l_ent m_X7_solve [.ref 51, .int (rsI' o)]) [] w0 n (Vo (fun w' => (∃ F', mS w' C o sk F') ∧ same62 w0 w') n) := by
  have hn := okc.1
  have hp1 : 1 ≤ 2 ^ cn C := Nat.one_le_two_pow
  have hp10 := okc.lt
  have loop : ∀ s (w : ax_W) (F : Nat → Nat → Int32) (z3 : Option Value), s < 2 ^ cn C → mB w F → (∀ ch last, s < ch → ch < 2 ^ cn C → last < cn C → ch.testBit last = true → tbK C o sk ch last F) → same62 w0 w → Run m_X7_solve 2 0 0 11 [some (.ref 51), some (.int (rsI' o)), some (.int (nI s)), z3] [] w n (Vo (fun w' => (∃ F', mS w' C o sk F') ∧ same62 w0 w') n) := by
    intro s
    induction s with
    | zero =>
      intro w F z3 hs0 hB hF hfr
      refine x_iload_n (pc := 11) dX7_solve_11 rfl ?_
      refine x_if_le_t (pc := 12) dX7_solve_12 (tgt := 85) (by decide) (by decide +kernel) ?_
      refine x_vret (pc := 85) dX7_solve_85 rfl ?_
      exact vo_i ⟨⟨F, hB, fun ch last h1 h2 h3 => hF ch last (Nat.pos_of_ne_zero fun q => by rw [q] at h3; simp at h3) h1 h2 h3⟩, hfr⟩
    | succ s ihs =>
      intro w F z3 hs0 hB hF hfr
      have hs10 : s + 1 < 1024 := by omega
      have inner : ∀ m j (w : ax_W) (F : Nat → Nat → Int32), j + m = cn C → mB w F → (∀ ch last, (s + 1 < ch ∨ (ch = s + 1 ∧ last < j)) → ch < 2 ^ cn C → last < cn C → ch.testBit last = true → tbK C o sk ch last F) → same62 w0 w → Run m_X7_solve 2 0 0 17 [some (.ref 51), some (.int (rsI' o)), some (.int (nI (s + 1))), some (.int (nI j))] [] w n (Vo (fun w' => (∃ F', mS w' C o sk F') ∧ same62 w0 w') n) := by
        intro m
        induction m with
        | zero =>
          intro j w F hj hB hF hfr
          have hK := (hfr 51 (by omega)).trans hK0
          have hC := hC0.go fun i _ _ => hfr i (by omega)
          obtain ⟨fm, fk, fc, fds, fh, fv, fp, fd, h53, h54, h55, h56, h57, h58, h59, h60, e1, e2, e3, e4, e5⟩ := id hC
          refine x_iload_n (pc := 17) dX7_solve_17 rfl ?_
          refine x_aload_n (pc := 18) dX7_solve_18 rfl ?_
          refine x_getf (pc := 19) dX7_solve_19 kf_X7_13 (by first | assumption | exact hC.1 | exact hH.1 | exact hV0.1 | exact hT.1) (by rfl) ?_
          refine x_iconst (pc := 22) dX7_solve_22 (v := nI 0) (by decide) ?_
          refine xn_iald (pc := 23) dX7_solve_23 (by assumption) (by first | omega | assumption) (by rfl) ?_
          rw [e1]
          refine x_icmp_ge_t (pc := 24) dX7_solve_24 (tgt := 79) (by decide) (nI_le (by omega) (by omega)) ?_
          refine xn_idec (pc := 79) dX7_solve_79 rfl rfl ?_
          refine x_goto (pc := 82) dX7_solve_82 (tgt := 11) (by decide) ?_
          exact ihs w F _ (by omega) hB (fun ch last q1 q2 q3 q4 => hF ch last (by omega) q2 q3 q4) hfr
        | succ m ih =>
          intro j w F hj hB hF hfr
          have hK := (hfr 51 (by omega)).trans hK0
          have hC := hC0.go fun i _ _ => hfr i (by omega)
          have hjn : j < cn C := by omega
          have hkd := (okc.2.2.2.1 j hjn).1
          obtain ⟨fm, fk, fc, fds, fh, fv, fp, fd, h53, h54, h55, h56, h57, h58, h59, h60, e1, e2, e3, e4, e5⟩ := id hC
          have next : ∀ (w' : ax_W) (F' : Nat → Nat → Int32), mB w' F' → ((s + 1).testBit j = true → tbK C o sk (s + 1) j F') → sameT F F' (10 * (s + 1) + j) → same62 w w' → Run m_X7_solve 2 0 0 73 [some (.ref 51), some (.int (rsI' o)), some (.int (nI (s + 1))), some (.int (nI j))] [] w' n (Vo (fun w' => (∃ F', mS w' C o sk F') ∧ same62 w0 w') n) := by
            intro w' F' hB' hV hS hq
            refine xn_iinc (pc := 73) dX7_solve_73 rfl rfl ?_
            refine x_goto (pc := 76) dX7_solve_76 (tgt := 17) (by decide) ?_
            refine ih (j + 1) w' F' (by omega) hB' (fun ch last q1 q2 q3 q4 => ?_) (fun i hi => (hq i hi).trans (hfr i hi))
            by_cases hc : ch = s + 1 ∧ last = j
            · obtain ⟨rfl, rfl⟩ := hc
              exact hV q4
            · exact (hF ch last (by omega) q2 q3 q4).go hS (by omega)
          refine x_iload_n (pc := 17) dX7_solve_17 rfl ?_
          refine x_aload_n (pc := 18) dX7_solve_18 rfl ?_
          refine x_getf (pc := 19) dX7_solve_19 kf_X7_13 (by first | assumption | exact hC.1 | exact hH.1 | exact hV0.1 | exact hT.1) (by rfl) ?_
          refine x_iconst (pc := 22) dX7_solve_22 (v := nI 0) (by decide) ?_
          refine xn_iald (pc := 23) dX7_solve_23 (by assumption) (by first | omega | assumption) (by rfl) ?_
          rw [e1]
          refine x_icmp_ge_f (pc := 24) dX7_solve_24 (tgt := 79) (by decide) (nI_ge (by omega) (by omega)) ?_
          refine x_iload_n (pc := 27) dX7_solve_27 rfl ?_
          refine x_iload_n (pc := 28) dX7_solve_28 rfl ?_
          first | refine xn_ishr (pc := 29) dX7_solve_29 (by omega) (by omega) ?_ | refine x_ishr (pc := 29) dX7_solve_29 ?_
          refine x_iconst (pc := 30) dX7_solve_30 (v := nI 1) (by decide) ?_
          first | refine xn_bit (pc := 31) dX7_solve_31 ?_ | refine xn_nd (pc := 31) dX7_solve_31 ?_ | refine xn_iand (pc := 31) dX7_solve_31 ?_ | refine x_iand (pc := 31) dX7_solve_31 ?_
          refine x_iconst (pc := 32) dX7_solve_32 (v := nI 1) (by decide) ?_
          refine x_icmp_ne (pc := 33) dX7_solve_33 (tgt := 73) (by decide) (fun h_33 => ?_) (fun h_33 => ?_)
          · skip
            try first | rw [n_b1] at h_33 | rw [n_b00] at h_33 | rw [n_eq (by omega) (by omega)] at h_33
            have hb : (s + 1).testBit j = false := by simpa using h_33
            exact next w F hB (fun q => by rw [hb] at q; cases q) (sameT.refl _ _) (fun _ _ => rfl)
          · replace h_33 := Classical.not_not.mp h_33
            try first | rw [n_b1] at h_33 | rw [n_b00] at h_33 | rw [n_eq (by omega) (by omega)] at h_33
            have hb : (s + 1).testBit j = true := by simpa using h_33
            refine x_aload_n (pc := 36) dX7_solve_36 rfl ?_
            refine x_getf (pc := 37) dX7_solve_37 kf_X7_17 (by first | assumption | exact hC.1 | exact hH.1 | exact hV0.1 | exact hT.1) (by rfl) ?_
            refine x_iload_n (pc := 40) dX7_solve_40 rfl ?_
            refine xn_iald (pc := 41) dX7_solve_41 (by assumption) (by first | omega | assumption) (by rfl) ?_
            rw [(e4 j hjn).1]
            refine x_iconst (pc := 42) dX7_solve_42 (v := nI 4) (by decide) ?_
            refine x_icmp_ne (pc := 43) dX7_solve_43 (tgt := 61) (by decide) (fun h_43 => ?_) (fun h_43 => ?_)
            · skip
              try first | rw [n_b1] at h_43 | rw [n_b00] at h_43 | rw [n_eq (by omega) (by omega)] at h_43
              have hL1 := cnt_pos 10 j (by omega) hb
              have hL10 := cnt_le (s + 1) 10
              have hgv := goOn_val okc (o := o) (sk := sk) (ch := s + 1) hjn h_43 rfl rfl
              have hN : ∀ b m', m' ≤ 8 → (pthO C (onB o) sk m' (s + 1 ||| 2 ^ b) b).length ≤ 100000000 := fun b m' hm' => Nat.le_trans (pthO_len C (onB o) sk m' _ b) (Nat.le_trans (Nat.pow_le_pow_right (by decide) hm') (by decide))
              have hgo := m_goOn (n := n) okc hK hC ((hfr 61 (by omega)).trans h61) hs hB hs10 hjn rfl rfl rfl (f := fun b => pthO C (onB o) sk (10 - (cnt (s + 1) 10 + 1)) (s + 1 ||| 2 ^ b) b) (wf := fun b => wonF C sk (10 - (cnt (s + 1) 10 + 1)) (s + 1 ||| 2 ^ b) b) (N := 100000000) (by decide) (by
                intro b hbb
                have hbn : b < cn C := bit_in (opn_lt okc hjn) hbb
                have hcb : (s + 1).testBit b = false := by
                  rw [opn_bit okc hjn] at hbb
                  simp only [Bool.and_eq_true, Bool.not_eq_true'] at hbb
                  exact hbb.1.2
                have hcc := cnt_bit 10 b (by omega) hcb
                have hgt := or_gt hcb
                have hK2 := hF (s + 1 ||| 2 ^ b) b (Or.inl hgt) (Nat.or_lt_two_pow hs0 (pow_lt hbn)) hbn (by rw [b_orp]; simp)
                unfold tbK at hK2
                rw [hcc] at hK2
                refine ⟨hK2, hN b _ (by omega), fun p hp => ?_⟩
                have hpm := pthO_mem okc _ _ b hbn p hp
                have hcl := cnt_le (s + 1 ||| 2 ^ b) 10
                exact ⟨hpm.1, by omega⟩)
              refine x_aload_n (pc := 61) dX7_solve_61 rfl ?_
              refine x_bipush (pc := 62) dX7_solve_62 (v := nI 10) (by decide) ?_
              refine x_iload_n (pc := 64) dX7_solve_64 rfl ?_
              first | refine xn_imul (pc := 65) dX7_solve_65 ?_ | refine x_imul (pc := 65) dX7_solve_65 ?_
              refine x_iload_n (pc := 66) dX7_solve_66 rfl ?_
              first | refine xn_iadd (pc := 67) dX7_solve_67 ?_ | refine x_iadd (pc := 67) dX7_solve_67 ?_
              refine x_iload_n (pc := 68) dX7_solve_68 rfl ?_
              refine x_iload_n (pc := 69) dX7_solve_69 rfl ?_
              refine x_cv3 (q1 := 0) (q2 := 0) (ci := 7) (pc := 70) dX7_solve_70 ks_X7_154 (by first | assumption | exact hC.1 | exact hH.1 | exact hV0.1 | exact hT.1) (by rfl) (by omega) (by rfl) (by rfl) (by rfl) (hgo) (vo_kk fun w hP => ?_)
              obtain ⟨F', hB', hV', hS', hq'⟩ := hP
              refine next _ F' hB' (fun _ => ?_) hS' hq'
              unfold tbK
              first | (rw [pthO_night h_43, wonF_night h_43]; exact hV') | (rw [hgv.1, hgv.2] at hV'; exact hV')
            · replace h_43 := Classical.not_not.mp h_43
              try first | rw [n_b1] at h_43 | rw [n_b00] at h_43 | rw [n_eq (by omega) (by omega)] at h_43
              have hv := m_endAt (n := n) (L := cnt (s + 1) 10) okc hK hC hB (k := 10 * (s + 1) + j) (by omega) hjn ho
              refine x_aload_n (pc := 46) dX7_solve_46 rfl ?_
              refine x_bipush (pc := 47) dX7_solve_47 (v := nI 10) (by decide) ?_
              refine x_iload_n (pc := 49) dX7_solve_49 rfl ?_
              first | refine xn_imul (pc := 50) dX7_solve_50 ?_ | refine x_imul (pc := 50) dX7_solve_50 ?_
              refine x_iload_n (pc := 51) dX7_solve_51 rfl ?_
              first | refine xn_iadd (pc := 52) dX7_solve_52 ?_ | refine x_iadd (pc := 52) dX7_solve_52 ?_
              refine x_iload_n (pc := 53) dX7_solve_53 rfl ?_
              refine x_iload_n (pc := 54) dX7_solve_54 rfl ?_
              refine x_cv3 (q1 := 0) (q2 := 0) (ci := 7) (pc := 55) dX7_solve_55 ks_X7_151 (by first | assumption | exact hC.1 | exact hH.1 | exact hV0.1 | exact hT.1) (by rfl) (by omega) (by rfl) (by rfl) (by rfl) (hv) (vo_kk fun w hP => ?_)
              obtain ⟨F', hB', hV', hS', hq'⟩ := hP
              refine x_goto (pc := 58) dX7_solve_58 (tgt := 73) (by decide) ?_
              refine next _ F' hB' (fun _ => ?_) hS' hq'
              unfold tbK
              first | (rw [pthO_night h_43, wonF_night h_43]; exact hV') | (rw [hgv.1, hgv.2] at hV'; exact hV')
      refine x_iload_n (pc := 11) dX7_solve_11 rfl ?_
      refine x_if_le_f (pc := 12) dX7_solve_12 (tgt := 85) (by decide) (by rw [n_le0 (by omega)]; omega) ?_
      refine x_iconst (pc := 15) dX7_solve_15 (v := nI 0) (by decide) ?_
      refine x_istore_n (pc := 16) dX7_solve_16 rfl ?_
      exact inner (cn C) 0 w F (by omega) hB (fun ch last q1 q2 q3 q4 => hF ch last (by omega) q2 q3 q4) hfr
  obtain ⟨fm, fk, fc, fds, fh, fv, fp, fd, h53, h54, h55, h56, h57, h58, h59, h60, e1, e2, e3, e4, e5⟩ := id hC0
  refine x_iconst (pc := 0) dX7_solve_0 (v := nI 1) (by decide) ?_
  refine x_aload_n (pc := 1) dX7_solve_1 rfl ?_
  refine x_getf (pc := 2) dX7_solve_2 kf_X7_13 (by first | assumption | exact hC.1 | exact hH.1 | exact hV0.1 | exact hT.1) (by rfl) ?_
  refine x_iconst (pc := 5) dX7_solve_5 (v := nI 0) (by decide) ?_
  refine xn_iald (pc := 6) dX7_solve_6 (by assumption) (by first | omega | assumption) (by rfl) ?_
  rw [e1]
  first | refine xn_shl1 (pc := 7) dX7_solve_7 (by omega) ?_ | refine xn_ishl (pc := 7) dX7_solve_7 (by omega) (by omega) ?_ | refine x_ishl (pc := 7) dX7_solve_7 ?_
  refine x_iconst (pc := 8) dX7_solve_8 (v := nI 1) (by decide) ?_
  first | refine xn_isub (pc := 9) dX7_solve_9 (by omega) ?_ | refine x_isub (pc := 9) dX7_solve_9 ?_
  refine x_istore_n (pc := 10) dX7_solve_10 rfl ?_
  exact loop (2 ^ cn C - 1) w0 F0 _ (by omega) hB0 (fun ch last q1 q2 => by omega) (fun _ _ => rfl)
theorem m_rowOf {w : ax_W} {n v : Nat} (hv : v < 10) : Run m_X7_rowOf 0 0 0 0 (l_ent m_X7_rowOf [.int (nI v)]) [] w n (Pu (.int (nI (10 * 2 ^ v + v))) w n) := by
  refine x_bipush (pc := 0) dX7_rowOf_0 (v := nI 10) (by decide) ?_
  refine x_iconst (pc := 2) dX7_rowOf_2 (v := nI 1) (by decide) ?_
  refine x_iload_n (pc := 3) dX7_rowOf_3 rfl ?_
  first | refine xn_shl1 (pc := 4) dX7_rowOf_4 (by omega) ?_ | refine xn_ishl (pc := 4) dX7_rowOf_4 (by omega) (by omega) ?_ | refine x_ishl (pc := 4) dX7_rowOf_4 ?_
  first | refine xn_imul (pc := 5) dX7_rowOf_5 ?_ | refine x_imul (pc := 5) dX7_rowOf_5 ?_
  refine x_iload_n (pc := 6) dX7_rowOf_6 rfl ?_
  first | refine xn_iadd (pc := 7) dX7_rowOf_7 ?_ | refine x_iadd (pc := 7) dX7_rowOf_7 ?_
  refine x_iret (pc := 8) dX7_rowOf_8 rfl rfl ?_
  exact pu_n rfl
theorem cnt_pow : ∀ v, v < 10 → cnt (2 ^ v) 10 = 1 := by decide +kernel
/-- the chains' rests behind the VERDICT v, to NIGHTS that o allows -/
abbrev P9 (C : Crt) (o : Option Nat) (sk v : Nat) : List (List Nat) := pthO C (onB o) sk 9 (2 ^ v) v
theorem mS.row {w : ax_W} {C : Crt} (okc : okC C) {o : Option Nat} {sk : Nat} {F : Nat → Nat → Int32} (h : mS w C o sk F) {v : Nat} (hv : v < cn C) : tbV C v 1 (P9 C o sk v) (wonF C sk 9 (2 ^ v) v) F (10 * 2 ^ v + v) := by
  have hn := okc.1
  have := h.2 (2 ^ v) v (pow_lt hv) hv (by rw [b_pow]; simp)
  unfold tbK at this
  rw [cnt_pow v (by omega)] at this
  exact this
theorem isM.tab {w w' : ax_W} {T : List Nat} {C : Crt} {h : Hrg} {L K : List Hrg} (hm : isM w T C h L K) (hq : same62 w w') {F : Nat → Nat → Int32} (hB : mB w' F) : isM w' T C h L K := by
  obtain ⟨a, s, r, D, h1, h2, h3, h4, h5, h6, h7, h8⟩ := hm
  obtain ⟨-, f, h71⟩ := h8
  exact ⟨a, s, r, D, h1, h2, h3, (hq _ (by omega)).trans h4, h5.go fun j _ _ => hq j (by omega), h6.go fun j _ _ => hq j (by omega), h7.go fun j _ _ => hq j (by omega), hB.D ((hq _ (by omega)).trans h71)⟩
def hwB (C : Crt) (sk v : Nat) : Bool := !sk.testBit v && decide (0 < (P9 C none sk v).length)
theorem P9_len (C : Crt) (o : Option Nat) (sk v : Nat) : (P9 C o sk v).length ≤ 1000000000 := Nat.le_trans (pthO_len C (onB o) sk 9 _ _) (by decide)
/-- what is known of a state, laid open -/
theorem isM.op {w : ax_W} {T : List Nat} {C : Crt} {h : Hrg} {L K : List Hrg} (hm : isM w T C h L K) : ∃ (ty at_ so un ke rl : Int32) (f : Nat → Int32) (F : Nat → Nat → Int32), w 51 = om ty at_ so un ke rl ∧ mR w C ∧ w 61 = ai 132 f ∧ f 1 = nI h.2 ∧ mB w F := by
  obtain ⟨a, s, r, D, h1, h2, h3, hK, ht, hC, ⟨f, h61, hr, hL, hKK⟩, hD⟩ := hm
  obtain ⟨F, hB⟩ := hD.B
  exact ⟨_, _, _, _, _, _, f, F, hK, hC.R, h61, hr.row.2.1, hB⟩
theorem m_hasWhole {w : ax_W} {n : Nat} {T : List Nat} {C : Crt} {h : Hrg} {L K : List Hrg} (hm : isM w T C h L K) (ok : okX T C h L K) {v : Nat} (hv : v < cn C) : Run m_X7_hasWhole 3 0 0 0 (l_ent m_X7_hasWhole [.ref 51, .int (nI v)]) [] w n (Va (fun r w' => r = .int (nI (bN (hwB C h.2 v))) ∧ isM w' T C h L K ∧ (∃ F, mS w' C none h.2 F) ∧ same50 w w') n) := by
  have okc := ok.2.1
  have hn := okc.1
  have hsk := ok.2.2.1.sk okc
  have hp := pow_10 (show v < 10 by omega)
  obtain ⟨ty, at_, so, un, ke, rl, f, F, hK, hC, h61, hs, hB⟩ := hm.op
  refine x_aload_n (pc := 0) dX7_hasWhole_0 rfl ?_
  refine x_bipush (pc := 1) dX7_hasWhole_1 (v := -4) (by decide) ?_
  refine x_cv1 (q1 := 0) (q2 := 0) (ci := 7) (pc := 3) dX7_hasWhole_3 ks_X7_157 (by first | assumption | exact hC.1 | exact hH.1 | exact hV0.1 | exact hT.1) (by rfl) (by omega) (by rfl) (by rfl) (by rfl) (m_solve okc hK hC h61 hs hB (o := none) (fun b q => by cases q)) (vo_kk fun w hP => ?_)
  obtain ⟨⟨F', hS⟩, hq⟩ := hP
  have hm' := hm.tab hq hS.1
  replace hK := (hq _ (by omega)).trans hK
  replace h61 := (hq _ (by omega)).trans h61
  have hrow := (hS.row okc hv).1
  have hlen := P9_len C none h.2 v
  obtain ⟨h62, -⟩ := id hS.1
  refine x_aload_n (pc := 6) dX7_hasWhole_6 rfl ?_
  refine x_iload_n (pc := 7) dX7_hasWhole_7 rfl ?_
  refine x_cv1p (ci := 7) (pc := 8) dX7_hasWhole_8 ks_X7_161 (by first | assumption | exact hC.1 | exact hH.1 | exact hV0.1 | exact hT.1) (by rfl) (by omega) (by rfl) (by rfl) (by rfl) (m_isStruck hK hsk h61 hs (by omega)) ?_
  refine x_if_ne (pc := 11) dX7_hasWhole_11 (tgt := 30) (by decide) (fun h_11 => ?_) (fun h_11 => ?_)
  · skip
    try first | rw [n_b0] at h_11 | rw [n_eq0 (by omega)] at h_11
    have e : false = hwB C h.2 v := by unfold hwB; simp only [Bool.not_eq_false] at h_11; rw [h_11]; rfl
    refine x_iconst (pc := 30) dX7_hasWhole_30 (v := nI 0) (by decide) ?_
    refine x_zret (pc := 31) dX7_hasWhole_31 rfl (by first | decide | exact bN_lt _ | omega) ?_
    refine va_i ⟨by rw [← e]; rfl, hm', ⟨F', hS⟩, fun j hj => hq j (by omega)⟩
  · replace h_11 := Classical.not_not.mp h_11
    try first | rw [n_b0] at h_11 | rw [n_eq0 (by omega)] at h_11
    refine x_aload_n (pc := 14) dX7_hasWhole_14 rfl ?_
    refine x_getf (pc := 15) dX7_hasWhole_15 kf_X7_41 (by first | assumption | exact hC.1 | exact hH.1 | exact hV0.1 | exact hT.1) (by rfl) ?_
    refine x_iload_n (pc := 18) dX7_hasWhole_18 rfl ?_
    refine x_cs1p (pc := 19) dX7_hasWhole_19 ks_X7_164 (by omega) (by rfl) (by rfl) (by rfl) (m_rowOf (by omega)) ?_
    refine xn_iald (pc := 22) dX7_hasWhole_22 (by assumption) (by first | omega | assumption) (by rfl) ?_
    rw [hrow]
    refine x_if_le (pc := 23) dX7_hasWhole_23 (tgt := 30) (by decide) (fun h_23 => ?_) (fun h_23 => ?_)
    · skip
      try first | rw [n_b0] at h_23 | rw [n_le0 (by omega)] at h_23
      have e : false = hwB C h.2 v := by unfold hwB; simp only [h_23]; simp
      refine x_iconst (pc := 30) dX7_hasWhole_30 (v := nI 0) (by decide) ?_
      refine x_zret (pc := 31) dX7_hasWhole_31 rfl (by first | decide | exact bN_lt _ | omega) ?_
      refine va_i ⟨by rw [← e]; rfl, hm', ⟨F', hS⟩, fun j hj => hq j (by omega)⟩
    · skip
      try first | rw [n_b0] at h_23 | rw [n_le0 (by omega)] at h_23
      have e : true = hwB C h.2 v := by unfold hwB; rw [h_11, decide_eq_true (by omega)]; rfl
      refine x_iconst (pc := 26) dX7_hasWhole_26 (v := nI 1) (by decide) ?_
      refine x_goto (pc := 27) dX7_hasWhole_27 (tgt := 31) (by decide) ?_
      refine x_zret (pc := 31) dX7_hasWhole_31 rfl (by first | decide | exact bN_lt _ | omega) ?_
      refine va_i ⟨by rw [← e]; rfl, hm', ⟨F', hS⟩, fun j hj => hq j (by omega)⟩
