/-! the reference's trial: what is argued, struck out, undone, kept -/
def mR (w : ax_W) (C : Crt) : Prop := ∃ fm fk fc fs fh fv fp fd : Nat → Int32, w 53 = ai 2 fm ∧ w 54 = ai 20 fk ∧ w 55 = ai 20 fc ∧ w 56 = ai 20 fs ∧ w 57 = ai 20 fh ∧ w 58 = ai 2 fv ∧ w 59 = ai 2 fp ∧ w 60 = ai 10 fd ∧ fm 0 = nI (cn C) ∧ fv 0 = nI (vd C) ∧ fp 0 = nI (np C) ∧ (∀ a, a < cn C → fk a = nI (kd C a) ∧ fc a = nI (co C a) ∧ fs a = nI (sp C a) ∧ fh a = nI (hg C a)) ∧ ∀ p, p < np C → fd p = nI (de C p)
theorem mC.R {w : ax_W} {C D : Crt} (h : mC w C D) : mR w C := by
  obtain ⟨fm, fk, fc, fs, fh, fv, fp, fd, h53, h54, h55, h56, h57, h58, h59, h60, ⟨e1, e2, e3, e4, e5⟩, -⟩ := h
  refine ⟨fm, fk, fc, fs, fh, fv, fp, fd, h53, h54, h55, h56, h57, h58, h59, h60, e1, e2, e3, fun a ha => ?_, fun p hp => ?_⟩
  · have := e4 a ha
    rwa [show 10 * 0 + a = a by omega] at this
  · have := e5 p hp
    rwa [show 5 * 0 + p = p by omega] at this
theorem mR.go {w w' : ax_W} {C : Crt} (h : mR w C) (hq : ∀ j, 53 ≤ j → j < 61 → w' j = w j) : mR w' C := by
  obtain ⟨fm, fk, fc, fs, fh, fv, fp, fd, h1, h2, h3, h4, h5, h6, h7, h8, h9⟩ := h
  exact ⟨fm, fk, fc, fs, fh, fv, fp, fd, by rw [hq _ (by omega) (by omega)]; exact h1, by rw [hq _ (by omega) (by omega)]; exact h2, by rw [hq _ (by omega) (by omega)]; exact h3, by rw [hq _ (by omega) (by omega)]; exact h4, by rw [hq _ (by omega) (by omega)]; exact h5, by rw [hq _ (by omega) (by omega)]; exact h6, by rw [hq _ (by omega) (by omega)]; exact h7, by rw [hq _ (by omega) (by omega)]; exact h8, h9⟩
theorem reH.row {f : Nat → Int32} {h : Hrg} (g : reH f 0 h) : f 0 = nI h.1.length ∧ f 1 = nI h.2 ∧ ∀ i, i < h.1.length → f (2 + i) = nI (h.1.getD i 0) := by
  refine ⟨g.1, g.2.1, fun i hi => ?_⟩
  have := g.2.2 i hi
  rwa [show 0 + 2 + i = 2 + i by omega] at this
theorem reH.mv {f g : Nat → Int32} {k k' : Nat} {h : Hrg} (hh : reH f k h) (hl : h.1.length ≤ 10) (hq : ∀ i, i < 12 → g (k' + i) = f (k + i)) : reH g k' h := by
  refine ⟨(hq 0 (by omega)).trans hh.1, (hq 1 (by omega)).trans hh.2.1, fun i hi => ?_⟩
  have := hq (2 + i) (by omega)
  rw [show k' + (2 + i) = k' + 2 + i by omega, show k + (2 + i) = k + 2 + i by omega] at this
  exact this.trans (hh.2.2 i hi)
theorem m_behind {w : ax_W} {n : Nat} {C : Crt} (okc : okC C) {ty at_ so un ke rl : Int32} (hK : w 51 = om ty at_ so un ke rl) (hC : mR w C) {f : Nat → Int32} {sk : Nat} (h61 : w 61 = ai 132 f) (hs : f 1 = nI sk) {last ch : Nat} (hl : last < cn C) : Run m_X7_behind 0 0 0 0 (l_ent m_X7_behind [.ref 51, .int (nI last), .int (nI ch)]) [] w n (Pu (.int (nI (opn C last ch sk))) w n) := by
  have hn := okc.1
  obtain ⟨fm, fk, fc, fs, fh, fv, fp, fd, h53, h54, h55, h56, h57, h58, h59, h60, e1, e2, e3, e4, e5⟩ := hC
  refine x_aload_n (pc := 0) dX7_behind_0 rfl ?_
  refine x_getf (pc := 1) dX7_behind_1 kf_X7_26 (by first | assumption | exact hC.1 | exact hH.1 | exact hV0.1 | exact hT.1) (by rfl) ?_
  refine x_iload_n (pc := 4) dX7_behind_4 rfl ?_
  refine xn_iald (pc := 5) dX7_behind_5 (by assumption) (by first | omega | assumption) (by rfl) ?_
  rw [(e4 _ hl).2.2.2]
  refine x_iload_n (pc := 6) dX7_behind_6 rfl ?_
  refine x_iconst (pc := 7) dX7_behind_7 (v := nI 4294967295) (by decide) ?_
  first | refine xn_ixor (pc := 8) dX7_behind_8 ?_ | refine x_ixor (pc := 8) dX7_behind_8 ?_
  first | refine xn_bit (pc := 9) dX7_behind_9 ?_ | refine xn_nd (pc := 9) dX7_behind_9 ?_ | refine xn_iand (pc := 9) dX7_behind_9 ?_ | refine x_iand (pc := 9) dX7_behind_9 ?_
  refine x_aload_n (pc := 10) dX7_behind_10 rfl ?_
  refine x_getf (pc := 11) dX7_behind_11 kf_X7_38 (by first | assumption | exact hC.1 | exact hH.1 | exact hV0.1 | exact hT.1) (by rfl) ?_
  refine x_iconst (pc := 14) dX7_behind_14 (v := nI 1) (by decide) ?_
  refine xn_iald (pc := 15) dX7_behind_15 (by assumption) (by first | omega | assumption) (by rfl) ?_
  rw [hs]
  refine x_iconst (pc := 16) dX7_behind_16 (v := nI 4294967295) (by decide) ?_
  first | refine xn_ixor (pc := 17) dX7_behind_17 ?_ | refine x_ixor (pc := 17) dX7_behind_17 ?_
  first | refine xn_bit (pc := 18) dX7_behind_18 ?_ | refine xn_nd (pc := 18) dX7_behind_18 ?_ | refine xn_iand (pc := 18) dX7_behind_18 ?_ | refine x_iand (pc := 18) dX7_behind_18 ?_
  refine x_iret (pc := 19) dX7_behind_19 rfl rfl ?_
  exact pu_n rfl
theorem m_isStruck {w : ax_W} {n : Nat} {ty at_ so un ke rl : Int32} (hK : w 51 = om ty at_ so un ke rl) {f : Nat → Int32} {sk : Nat} (hsk : sk < 1024) (h61 : w 61 = ai 132 f) (hs : f 1 = nI sk) {a : Nat} (ha : a < 10) : Run m_X7_isStruck 0 0 0 0 (l_ent m_X7_isStruck [.ref 51, .int (nI a)]) [] w n (Pu (.int (nI (bN (sk.testBit a)))) w n) := by
  refine x_aload_n (pc := 0) dX7_isStruck_0 rfl ?_
  refine x_getf (pc := 1) dX7_isStruck_1 kf_X7_38 (by first | assumption | exact hC.1 | exact hH.1 | exact hV0.1 | exact hT.1) (by rfl) ?_
  refine x_iconst (pc := 4) dX7_isStruck_4 (v := nI 1) (by decide) ?_
  refine xn_iald (pc := 5) dX7_isStruck_5 (by assumption) (by first | omega | assumption) (by rfl) ?_
  rw [hs]
  refine x_iload_n (pc := 6) dX7_isStruck_6 rfl ?_
  first | refine xn_ishr (pc := 7) dX7_isStruck_7 (by omega) (by omega) ?_ | refine x_ishr (pc := 7) dX7_isStruck_7 ?_
  refine x_iconst (pc := 8) dX7_isStruck_8 (v := nI 1) (by decide) ?_
  first | refine xn_bit (pc := 9) dX7_isStruck_9 ?_ | refine xn_nd (pc := 9) dX7_isStruck_9 ?_ | refine xn_iand (pc := 9) dX7_isStruck_9 ?_ | refine x_iand (pc := 9) dX7_isStruck_9 ?_
  refine x_iconst (pc := 10) dX7_isStruck_10 (v := nI 1) (by decide) ?_
  refine x_icmp_ne (pc := 11) dX7_isStruck_11 (tgt := 18) (by decide) (fun h_11 => ?_) (fun h_11 => ?_)
  · skip
    try first | rw [n_b1] at h_11 | rw [n_b00] at h_11 | rw [n_eq (by omega) (by omega)] at h_11
    have hh : sk.testBit a = false := by simpa using h_11
    refine x_iconst (pc := 18) dX7_isStruck_18 (v := nI 0) (by decide) ?_
    refine x_zret (pc := 19) dX7_isStruck_19 rfl (by first | decide | exact bN_lt _ | omega) ?_
    exact pu_n (by rw [hh]; rfl)
  · replace h_11 := Classical.not_not.mp h_11
    try first | rw [n_b1] at h_11 | rw [n_b00] at h_11 | rw [n_eq (by omega) (by omega)] at h_11
    have hh : sk.testBit a = true := by simpa using h_11
    refine x_iconst (pc := 14) dX7_isStruck_14 (v := nI 1) (by decide) ?_
    refine x_goto (pc := 15) dX7_isStruck_15 (tgt := 19) (by decide) ?_
    refine x_zret (pc := 19) dX7_isStruck_19 rfl (by first | decide | exact bN_lt _ | omega) ?_
    exact pu_n (by rw [hh]; rfl)
theorem m_said {w : ax_W} {n : Nat} {C : Crt} (okc : okC C) {h : Hrg} (hh : okH C h) {ty at_ so un ke rl : Int32} (hK : w 51 = om ty at_ so un ke rl) {f : Nat → Int32} (h61 : w 61 = ai 132 f) (hr : reH f 0 h) : Run m_X7_said 0 0 0 0 (l_ent m_X7_said [.ref 51]) [] w n (Pu (.int (nI (mbL h.1))) w n) := by
  have hn := okc.1
  have hl := hh.len okc
  obtain ⟨r0, r1, r2⟩ := hr.row
  have loop : ∀ m i, i + m = h.1.length → Run m_X7_said 0 0 0 4 [some (.ref 51), some (.int (nI (mbP (fun i => h.1.getD i 0) i))), some (.int (nI i))] [] w n (Pu (.int (nI (mbL h.1))) w n) := by
    intro m
    induction m with
    | zero =>
      intro i hi
      have hii : i = h.1.length := by omega
      subst hii
      refine x_iload_n (pc := 4) dX7_said_4 rfl ?_
      refine x_aload_n (pc := 5) dX7_said_5 rfl ?_
      refine x_getf (pc := 6) dX7_said_6 kf_X7_38 (by first | assumption | exact hC.1 | exact hH.1 | exact hV0.1 | exact hT.1) (by rfl) ?_
      refine x_iconst (pc := 9) dX7_said_9 (v := nI 0) (by decide) ?_
      refine xn_iald (pc := 10) dX7_said_10 (by assumption) (by first | omega | assumption) (by rfl) ?_
      rw [r0]
      refine x_icmp_ge_t (pc := 11) dX7_said_11 (tgt := 33) (by decide) (nI_le (by omega) (by omega)) ?_
      refine x_iload_n (pc := 33) dX7_said_33 rfl ?_
      refine x_iret (pc := 34) dX7_said_34 rfl rfl ?_
      exact pu_n rfl
    | succ m ih =>
      intro i hi
      have hr := hh.at (i := i) (by omega)
      refine x_iload_n (pc := 4) dX7_said_4 rfl ?_
      refine x_aload_n (pc := 5) dX7_said_5 rfl ?_
      refine x_getf (pc := 6) dX7_said_6 kf_X7_38 (by first | assumption | exact hC.1 | exact hH.1 | exact hV0.1 | exact hT.1) (by rfl) ?_
      refine x_iconst (pc := 9) dX7_said_9 (v := nI 0) (by decide) ?_
      refine xn_iald (pc := 10) dX7_said_10 (by assumption) (by first | omega | assumption) (by rfl) ?_
      rw [r0]
      refine x_icmp_ge_f (pc := 11) dX7_said_11 (tgt := 33) (by decide) (nI_ge (by omega) (by omega)) ?_
      refine x_iload_n (pc := 14) dX7_said_14 rfl ?_
      refine x_iconst (pc := 15) dX7_said_15 (v := nI 1) (by decide) ?_
      refine x_aload_n (pc := 16) dX7_said_16 rfl ?_
      refine x_getf (pc := 17) dX7_said_17 kf_X7_38 (by first | assumption | exact hC.1 | exact hH.1 | exact hV0.1 | exact hT.1) (by rfl) ?_
      refine x_iconst (pc := 20) dX7_said_20 (v := nI 2) (by decide) ?_
      refine x_iload_n (pc := 21) dX7_said_21 rfl ?_
      first | refine xn_iadd (pc := 22) dX7_said_22 ?_ | refine x_iadd (pc := 22) dX7_said_22 ?_
      refine xn_iald (pc := 23) dX7_said_23 (by assumption) (by first | omega | assumption) (by rfl) ?_
      rw [r2 i (by omega)]
      first | refine xn_shl1 (pc := 24) dX7_said_24 (by omega) ?_ | refine xn_ishl (pc := 24) dX7_said_24 (by omega) (by omega) ?_ | refine x_ishl (pc := 24) dX7_said_24 ?_
      first | refine xn_ior (pc := 25) dX7_said_25 ?_ | refine x_ior (pc := 25) dX7_said_25 ?_
      refine x_istore_n (pc := 26) dX7_said_26 rfl ?_
      refine xn_iinc (pc := 27) dX7_said_27 rfl rfl ?_
      refine x_goto (pc := 30) dX7_said_30 (tgt := 4) (by decide) ?_
      exact ih (i + 1) (by omega)
  refine x_iconst (pc := 0) dX7_said_0 (v := nI 0) (by decide) ?_
  refine x_istore_n (pc := 1) dX7_said_1 rfl ?_
  refine x_iconst (pc := 2) dX7_said_2 (v := nI 0) (by decide) ?_
  refine x_istore_n (pc := 3) dX7_said_3 rfl ?_
  exact loop h.1.length 0 (by omega)
theorem m_next0 {w : ax_W} {n : Nat} {C : Crt} (okc : okC C) {h : Hrg} (hh : okH C h) {ty at_ so un ke rl : Int32} (hK : w 51 = om ty at_ so un ke rl) (hC : mR w C) {f : Nat → Int32} (h61 : w 61 = ai 132 f) (hr : reH f 0 h) : Run m_X7_next 1 0 0 0 (l_ent m_X7_next [.ref 51]) [] w n (Pu (.int (nI (nxS C h))) w n) := by
  have hn := okc.1
  have hl := hh.len okc
  have hC0 := hC
  obtain ⟨r0, r1, r2⟩ := hr.row
  obtain ⟨fm, fk, fc, fs, fh, fv, fp, fd, h53, h54, h55, h56, h57, h58, h59, h60, e1, e2, e3, e4, e5⟩ := hC
  refine x_aload_n (pc := 0) dX7_next_0 rfl ?_
  refine x_getf (pc := 1) dX7_next_1 kf_X7_38 (by first | assumption | exact hC.1 | exact hH.1 | exact hV0.1 | exact hT.1) (by rfl) ?_
  refine x_iconst (pc := 4) dX7_next_4 (v := nI 0) (by decide) ?_
  refine xn_iald (pc := 5) dX7_next_5 (by assumption) (by first | omega | assumption) (by rfl) ?_
  rw [r0]
  refine x_if_ne (pc := 6) dX7_next_6 (tgt := 25) (by decide) (fun h_6 => ?_) (fun h_6 => ?_)
  · skip
    try first | rw [n_b0] at h_6 | rw [n_eq0 (by omega)] at h_6
    have e : nxS C h = opn C (h.1.getD (h.1.length - 1) 0) (mbL h.1) h.2 := by rw [nxS, if_neg (by omega)]
    refine x_aload_n (pc := 25) dX7_next_25 rfl ?_
    refine x_aload_n (pc := 26) dX7_next_26 rfl ?_
    refine x_getf (pc := 27) dX7_next_27 kf_X7_38 (by first | assumption | exact hC.1 | exact hH.1 | exact hV0.1 | exact hT.1) (by rfl) ?_
    refine x_iconst (pc := 30) dX7_next_30 (v := nI 2) (by decide) ?_
    refine x_aload_n (pc := 31) dX7_next_31 rfl ?_
    refine x_getf (pc := 32) dX7_next_32 kf_X7_38 (by first | assumption | exact hC.1 | exact hH.1 | exact hV0.1 | exact hT.1) (by rfl) ?_
    refine x_iconst (pc := 35) dX7_next_35 (v := nI 0) (by decide) ?_
    refine xn_iald (pc := 36) dX7_next_36 (by assumption) (by first | omega | assumption) (by rfl) ?_
    rw [r0]
    first | refine xn_iadd (pc := 37) dX7_next_37 ?_ | refine x_iadd (pc := 37) dX7_next_37 ?_
    refine x_iconst (pc := 38) dX7_next_38 (v := nI 1) (by decide) ?_
    first | refine xn_isub (pc := 39) dX7_next_39 (by omega) ?_ | refine x_isub (pc := 39) dX7_next_39 ?_
    refine xn_iald (pc := 40) dX7_next_40 (by assumption) (by first | omega | assumption) (by rfl) ?_
    rw [show 2 + h.1.length - 1 = 2 + (h.1.length - 1) by omega, r2 _ (by omega)]
    refine x_aload_n (pc := 41) dX7_next_41 rfl ?_
    refine x_cv0p (ci := 7) (pc := 42) dX7_next_42 ks_X7_128 (by first | assumption | exact hC.1 | exact hH.1 | exact hV0.1 | exact hT.1) (by rfl) (by omega) (by rfl) (by rfl) (by rfl) (m_said okc hh hK h61 hr) ?_
    refine x_cv2p (ci := 7) (pc := 45) dX7_next_45 ks_X7_131 (by first | assumption | exact hC.1 | exact hH.1 | exact hV0.1 | exact hT.1) (by rfl) (by omega) (by rfl) (by rfl) (by rfl) (m_behind okc hK hC0 h61 r1 (hh.at (by omega))) ?_
    refine x_iret (pc := 48) dX7_next_48 rfl rfl ?_
    exact pu_n e.symm
  · replace h_6 := Classical.not_not.mp h_6
    try first | rw [n_b0] at h_6 | rw [n_eq0 (by omega)] at h_6
    have e : nxS C h = nd (vd C) h.2 := by rw [nxS, if_pos (by omega)]
    refine x_aload_n (pc := 9) dX7_next_9 rfl ?_
    refine x_getf (pc := 10) dX7_next_10 kf_X7_29 (by first | assumption | exact hC.1 | exact hH.1 | exact hV0.1 | exact hT.1) (by rfl) ?_
    refine x_iconst (pc := 13) dX7_next_13 (v := nI 0) (by decide) ?_
    refine xn_iald (pc := 14) dX7_next_14 (by assumption) (by first | omega | assumption) (by rfl) ?_
    rw [e2]
    refine x_aload_n (pc := 15) dX7_next_15 rfl ?_
    refine x_getf (pc := 16) dX7_next_16 kf_X7_38 (by first | assumption | exact hC.1 | exact hH.1 | exact hV0.1 | exact hT.1) (by rfl) ?_
    refine x_iconst (pc := 19) dX7_next_19 (v := nI 1) (by decide) ?_
    refine xn_iald (pc := 20) dX7_next_20 (by assumption) (by first | omega | assumption) (by rfl) ?_
    rw [r1]
    refine x_iconst (pc := 21) dX7_next_21 (v := nI 4294967295) (by decide) ?_
    first | refine xn_ixor (pc := 22) dX7_next_22 ?_ | refine x_ixor (pc := 22) dX7_next_22 ?_
    first | refine xn_bit (pc := 23) dX7_next_23 ?_ | refine xn_nd (pc := 23) dX7_next_23 ?_ | refine xn_iand (pc := 23) dX7_next_23 ?_ | refine x_iand (pc := 23) dX7_next_23 ?_
    refine x_iret (pc := 24) dX7_next_24 rfl rfl ?_
    exact pu_n e.symm
def cyF (f : Nat → Int32) (a b k : Nat) : Nat → Int32 := fun i => if b ≤ i ∧ i < b + k then f (a + (i - b)) else f i
theorem cyF_up {f : Nat → Int32} {a b k : Nat} (hk : k < 12) (h : a + 12 ≤ b ∨ b + 12 ≤ a) : upd (cyF f a b k) (b + k) (cyF f a b k (a + k)) = cyF f a b (k + 1) := by
  funext i
  by_cases q : i = b + k
  · subst q; rw [upd_same]; unfold cyF; rw [if_neg (by omega), if_pos (by omega), show b + k - b = k by omega]
  · rw [upd_ne _ _ q]; unfold cyF
    by_cases h2 : b ≤ i ∧ i < b + k
    · rw [if_pos h2, if_pos (by omega)]
    · rw [if_neg h2, if_neg (by omega)]
theorem cyF_0 (f : Nat → Int32) (a b : Nat) : cyF f a b 0 = f := by
  funext i
  unfold cyF
  rw [if_neg (by omega)]
theorem cyF_in {f : Nat → Int32} {a b i : Nat} (h : i < 12) : cyF f a b 12 (b + i) = f (a + i) := by
  unfold cyF
  rw [if_pos (by omega), show b + i - b = i by omega]
theorem cyF_out {f : Nat → Int32} {a b i : Nat} (h : i < b ∨ b + 12 ≤ i) : cyF f a b 12 i = f i := by
  unfold cyF
  rw [if_neg (by omega)]
theorem m_copy {w0 : ax_W} {n : Nat} {ty at_ so un ke rl : Int32} (hK : w0 51 = om ty at_ so un ke rl) {f : Nat → Int32} (h61 : w0 61 = ai 132 f) {a b : Nat} (ha : a + 12 ≤ 132) (hb : b + 12 ≤ 132) (hab : a + 12 ≤ b ∨ b + 12 ≤ a) : Run m_X7_copy 0 0 0 0 (l_ent m_X7_copy [.ref 51, .int (nI a), .int (nI b)]) [] w0 n (Vo (fun w' => w' 61 = ai 132 (cyF f a b 12) ∧ ∀ j, j ≠ 61 → w' j = w0 j) n) := by
  have loop : ∀ m k (w : ax_W), k + m = 12 → w 51 = om ty at_ so un ke rl → w 61 = ai 132 (cyF f a b k) → (∀ j, j ≠ 61 → w j = w0 j) → Run m_X7_copy 0 0 0 2 [some (.ref 51), some (.int (nI a)), some (.int (nI b)), some (.int (nI k))] [] w n (Vo (fun w' => w' 61 = ai 132 (cyF f a b 12) ∧ ∀ j, j ≠ 61 → w' j = w0 j) n) := by
    intro m
    induction m with
    | zero =>
      intro k w hk hK h61 hfr
      have hkk : k = 12 := by omega
      subst hkk
      refine x_iload_n (pc := 2) dX7_copy_2 rfl ?_
      refine x_bipush (pc := 3) dX7_copy_3 (v := nI 12) (by decide) ?_
      refine x_icmp_ge_t (pc := 5) dX7_copy_5 (tgt := 30) (by decide) (nI_le (by omega) (by omega)) ?_
      refine x_vret (pc := 30) dX7_copy_30 rfl ?_
      exact vo_i ⟨h61, hfr⟩
    | succ m ih =>
      intro k w hk hK h61 hfr
      refine x_iload_n (pc := 2) dX7_copy_2 rfl ?_
      refine x_bipush (pc := 3) dX7_copy_3 (v := nI 12) (by decide) ?_
      refine x_icmp_ge_f (pc := 5) dX7_copy_5 (tgt := 30) (by decide) (nI_ge (by omega) (by omega)) ?_
      refine x_aload_n (pc := 8) dX7_copy_8 rfl ?_
      refine x_getf (pc := 9) dX7_copy_9 kf_X7_38 (by first | assumption | exact hC.1 | exact hH.1 | exact hV0.1 | exact hT.1) (by rfl) ?_
      refine x_iload_n (pc := 12) dX7_copy_12 rfl ?_
      refine x_iload_n (pc := 13) dX7_copy_13 rfl ?_
      first | refine xn_iadd (pc := 14) dX7_copy_14 ?_ | refine x_iadd (pc := 14) dX7_copy_14 ?_
      refine x_aload_n (pc := 15) dX7_copy_15 rfl ?_
      refine x_getf (pc := 16) dX7_copy_16 kf_X7_38 (by first | assumption | exact hC.1 | exact hH.1 | exact hV0.1 | exact hT.1) (by rfl) ?_
      refine x_iload_n (pc := 19) dX7_copy_19 rfl ?_
      refine x_iload_n (pc := 20) dX7_copy_20 rfl ?_
      first | refine xn_iadd (pc := 21) dX7_copy_21 ?_ | refine x_iadd (pc := 21) dX7_copy_21 ?_
      refine xn_iald (pc := 22) dX7_copy_22 (by assumption) (by first | omega | assumption) (by rfl) ?_
      refine xw_iast (pc := 23) dX7_copy_23 (by assumption) (by first | omega | assumption) (by rfl) (fun w hnew hne => ?_)
      replace hK := (hne _ (by omega)).trans hK
      replace h61 := hnew
      replace hfr := fun j (hj : j ≠ 61) => (hne j (by omega)).trans (hfr j hj)
      clear hne
      refine xn_iinc (pc := 24) dX7_copy_24 rfl rfl ?_
      refine x_goto (pc := 27) dX7_copy_27 (tgt := 2) (by decide) ?_
      exact ih (k + 1) w (by omega) hK (by rw [← cyF_up (by omega) hab]; exact h61) hfr
  refine x_iconst (pc := 0) dX7_copy_0 (v := nI 0) (by decide) ?_
  refine x_istore_n (pc := 1) dX7_copy_1 rfl ?_
  exact loop 12 0 w0 (by omega) hK (by rw [cyF_0]; exact h61) (fun _ _ => rfl)
def shF (f : Nat → Int32) (k : Nat) : Nat → Int32 := fun i => if 12 ≤ i ∧ i < 12 + k then f (i + 12) else f i
theorem shF_0 (f : Nat → Int32) : shF f 0 = f := by
  funext i
  unfold shF
  rw [if_neg (by omega)]
theorem shF_up {f : Nat → Int32} {k : Nat} : upd (shF f k) (12 + k) (shF f k (24 + k)) = shF f (k + 1) := by
  funext i
  by_cases q : i = 12 + k
  · subst q; rw [upd_same]; unfold shF; rw [if_neg (by omega), if_pos (by omega), show 12 + k + 12 = 24 + k by omega]
  · rw [upd_ne _ _ q]; unfold shF
    by_cases h2 : 12 ≤ i ∧ i < 12 + k
    · rw [if_pos h2, if_pos (by omega)]
    · rw [if_neg h2, if_neg (by omega)]
theorem m_know {w0 : ax_W} {n : Nat} {ty at_ so ke rl : Int32} {h : Hrg} {L K : List Hrg} (hL8 : L.length ≤ 8) (hK2 : K.length ≤ 2) (hh : h.1.length ≤ 10) (hLl : ∀ x ∈ L, x.1.length ≤ 10) (hKl : ∀ x ∈ K, x.1.length ≤ 10) (hK : w0 51 = om ty at_ so (nI L.length) ke rl) (hN : mN w0 h L K) : Run m_X7_know 1 0 0 0 (l_ent m_X7_know [.ref 51]) [] w0 n (Vo (fun w' => w' 51 = om ty at_ so (nI (shA 8 L h).length) ke rl ∧ mN w' h (shA 8 L h) K ∧ ∀ j, (j < 51 ∨ (51 < j ∧ j < 61) ∨ 61 < j) → w' j = w0 j) n) := by
  obtain ⟨f, h61, hr, hL, hKK⟩ := hN
  have fin : ∀ (w : ax_W) (m : Nat) (f1 : Nat → Int32) (z : Option Value), m < 8 → w 51 = om ty at_ so (nI m) ke rl → w 61 = ai 132 f1 → (shA 8 L h).length = m + 1 → reH f1 0 h → (∀ u, u < m → reH f1 (12 + 12 * u) ((shA 8 L h).getD u noH)) → (shA 8 L h).getD m noH = h → (∀ u, u < K.length → reH f1 (108 + 12 * u) (K.getD u noH)) → (∀ j, (j < 51 ∨ (51 < j ∧ j < 61) ∨ 61 < j) → w j = w0 j) → Run m_X7_know 1 0 0 51 [some (.ref 51), z] [] w n (Vo (fun w' => w' 51 = om ty at_ so (nI (shA 8 L h).length) ke rl ∧ mN w' h (shA 8 L h) K ∧ ∀ j, (j < 51 ∨ (51 < j ∧ j < 61) ∨ 61 < j) → w' j = w0 j) n) := by
    intro w m f1 z hm hK h61 hlen q1 q2 q3 q4 hfr
    have hsh : ∀ u, u < m → ((shA 8 L h).getD u noH).1.length ≤ 10 := by
      intro u hu
      rcases shA_mem (getD_memH (L := shA 8 L h) (i := u) (by omega)) with q | q
      · exact hLl _ q
      · rw [q]; exact hh
    refine x_aload_n (pc := 51) dX7_know_51 rfl ?_
    refine x_iconst (pc := 52) dX7_know_52 (v := nI 0) (by decide) ?_
    refine x_bipush (pc := 53) dX7_know_53 (v := nI 12) (by decide) ?_
    refine x_bipush (pc := 55) dX7_know_55 (v := nI 12) (by decide) ?_
    refine x_aload_n (pc := 57) dX7_know_57 rfl ?_
    refine x_getf (pc := 58) dX7_know_58 kf_X7_112 (by first | assumption | exact hC.1 | exact hH.1 | exact hV0.1 | exact hT.1) (by rfl) ?_
    first | refine xn_imul (pc := 61) dX7_know_61 ?_ | refine x_imul (pc := 61) dX7_know_61 ?_
    first | refine xn_iadd (pc := 62) dX7_know_62 ?_ | refine x_iadd (pc := 62) dX7_know_62 ?_
    refine x_cv2 (q1 := 0) (q2 := 0) (ci := 7) (pc := 63) dX7_know_63 ks_X7_121 (by first | assumption | exact hC.1 | exact hH.1 | exact hV0.1 | exact hT.1) (by rfl) (by omega) (by rfl) (by rfl) (by rfl) (m_copy hK h61 (by omega) (by omega) (by omega)) (vo_kk fun w hP => ?_)
    obtain ⟨h61', hq⟩ := hP
    replace hK := (hq _ (by decide)).trans hK
    replace hfr := fun j (hj : j < 51 ∨ (51 < j ∧ j < 61) ∨ 61 < j) => (hq j (by omega)).trans (hfr j hj)
    clear hq
    refine x_aload_n (pc := 66) dX7_know_66 rfl ?_
    refine x_dup (pc := 67) dX7_know_67 rfl ?_
    refine x_getf (pc := 68) dX7_know_68 kf_X7_112 (by first | assumption | exact hC.1 | exact hH.1 | exact hV0.1 | exact hT.1) (by rfl) ?_
    refine x_iconst (pc := 71) dX7_know_71 (v := nI 1) (by decide) ?_
    first | refine xn_iadd (pc := 72) dX7_know_72 ?_ | refine x_iadd (pc := 72) dX7_know_72 ?_
    refine xw_puti (pc := 73) dX7_know_73 kf_X7_112 (by assumption) (by rfl) (by rfl) rfl rfl (fun w hnew hne => ?_)
    replace hK := hnew
    replace h61' := (hne _ (by omega)).trans h61'
    replace hfr := fun j (hj : j < 51 ∨ (51 < j ∧ j < 61) ∨ 61 < j) => (hne j (by omega)).trans (hfr j hj)
    clear hne
    refine x_vret (pc := 76) dX7_know_76 rfl ?_
    refine vo_i ⟨by rw [hlen]; exact hK, ⟨_, h61', ?_, fun u hu => ?_, fun u hu => ?_⟩, hfr⟩
    · exact q1.mv hh fun i hi => cyF_out (by omega)
    · by_cases hum : u = m
      · subst hum
        rw [q3]
        exact q1.mv hh fun i hi => cyF_in hi
      · exact (q2 u (by omega)).mv (hsh u (by omega)) fun i hi => cyF_out (by omega)
    · exact (q4 u hu).mv (hKl _ (getD_memH hu)) fun i hi => cyF_out (by omega)
  by_cases hf : L.length = 8
  · have hlen : (shA 8 L h).length = 8 := by unfold shA; rw [if_pos hf]; simp; omega
    have loop : ∀ m k (w : ax_W), k + m = 84 → w 51 = om ty at_ so (nI L.length) ke rl → w 61 = ai 132 (shF f k) → (∀ j, (j < 51 ∨ (51 < j ∧ j < 61) ∨ 61 < j) → w j = w0 j) → Run m_X7_know 1 0 0 11 [some (.ref 51), some (.int (nI k))] [] w n (Vo (fun w' => w' 51 = om ty at_ so (nI (shA 8 L h).length) ke rl ∧ mN w' h (shA 8 L h) K ∧ ∀ j, (j < 51 ∨ (51 < j ∧ j < 61) ∨ 61 < j) → w' j = w0 j) n) := by
      intro m
      induction m with
      | zero =>
        intro k w hk hK h61 hfr
        have hkk : k = 84 := by omega
        subst hkk
        refine x_iload_n (pc := 11) dX7_know_11 rfl ?_
        refine x_bipush (pc := 12) dX7_know_12 (v := nI 84) (by decide) ?_
        refine x_icmp_ge_t (pc := 14) dX7_know_14 (tgt := 41) (by decide) (nI_le (by omega) (by omega)) ?_
        refine x_aload_n (pc := 41) dX7_know_41 rfl ?_
        refine x_dup (pc := 42) dX7_know_42 rfl ?_
        refine x_getf (pc := 43) dX7_know_43 kf_X7_112 (by first | assumption | exact hC.1 | exact hH.1 | exact hV0.1 | exact hT.1) (by rfl) ?_
        refine x_iconst (pc := 46) dX7_know_46 (v := nI 1) (by decide) ?_
        first | refine xn_isub (pc := 47) dX7_know_47 (by omega) ?_ | refine x_isub (pc := 47) dX7_know_47 ?_
        refine xw_puti (pc := 48) dX7_know_48 kf_X7_112 (by assumption) (by rfl) (by rfl) rfl rfl (fun w hnew hne => ?_)
        replace hK := hnew
        replace h61 := (hne _ (by omega)).trans h61
        replace hfr := fun j (hj : j < 51 ∨ (51 < j ∧ j < 61) ∨ 61 < j) => (hne j (by omega)).trans (hfr j hj)
        clear hne
        refine fin w 7 _ _ (by omega) (by rw [hf] at hK; exact hK) h61 hlen (hr.mv hh fun i hi => ?_) (fun u hu => ?_) ?_ (fun u hu => (hKK u hu).mv (hKl _ (getD_memH hu)) fun i hi => ?_) hfr
        · unfold shF; rw [if_neg (by omega)]
        · have e2 : (shA 8 L h).getD u noH = L.getD (u + 1) noH := by
            unfold shA
            rw [if_pos hf, List.getD_eq_getElem?_getD, List.getD_eq_getElem?_getD, List.getElem?_append_left (by simp; omega), List.getElem?_tail]
          rw [e2]
          refine (hL (u + 1) (by omega)).mv (hLl _ (getD_memH (by omega))) fun i hi => ?_
          unfold shF
          rw [if_pos (by omega)]
          congr 1
          omega
        · unfold shA
          rw [if_pos hf, List.getD_eq_getElem?_getD, List.getElem?_append_right (by simp; omega)]
          simp [hf]
        · unfold shF; rw [if_neg (by omega)]
      | succ m ih =>
        intro k w hk hK h61 hfr
        refine x_iload_n (pc := 11) dX7_know_11 rfl ?_
        refine x_bipush (pc := 12) dX7_know_12 (v := nI 84) (by decide) ?_
        refine x_icmp_ge_f (pc := 14) dX7_know_14 (tgt := 41) (by decide) (nI_ge (by omega) (by omega)) ?_
        refine x_aload_n (pc := 17) dX7_know_17 rfl ?_
        refine x_getf (pc := 18) dX7_know_18 kf_X7_38 (by first | assumption | exact hC.1 | exact hH.1 | exact hV0.1 | exact hT.1) (by rfl) ?_
        refine x_bipush (pc := 21) dX7_know_21 (v := nI 12) (by decide) ?_
        refine x_iload_n (pc := 23) dX7_know_23 rfl ?_
        first | refine xn_iadd (pc := 24) dX7_know_24 ?_ | refine x_iadd (pc := 24) dX7_know_24 ?_
        refine x_aload_n (pc := 25) dX7_know_25 rfl ?_
        refine x_getf (pc := 26) dX7_know_26 kf_X7_38 (by first | assumption | exact hC.1 | exact hH.1 | exact hV0.1 | exact hT.1) (by rfl) ?_
        refine x_bipush (pc := 29) dX7_know_29 (v := nI 24) (by decide) ?_
        refine x_iload_n (pc := 31) dX7_know_31 rfl ?_
        first | refine xn_iadd (pc := 32) dX7_know_32 ?_ | refine x_iadd (pc := 32) dX7_know_32 ?_
        refine xn_iald (pc := 33) dX7_know_33 (by assumption) (by first | omega | assumption) (by rfl) ?_
        refine xw_iast (pc := 34) dX7_know_34 (by assumption) (by first | omega | assumption) (by rfl) (fun w hnew hne => ?_)
        replace hK := (hne _ (by omega)).trans hK
        replace h61 := hnew
        replace hfr := fun j (hj : j < 51 ∨ (51 < j ∧ j < 61) ∨ 61 < j) => (hne j (by omega)).trans (hfr j hj)
        clear hne
        refine xn_iinc (pc := 35) dX7_know_35 rfl rfl ?_
        refine x_goto (pc := 38) dX7_know_38 (tgt := 11) (by decide) ?_
        exact ih (k + 1) w (by omega) hK (by rw [← shF_up]; exact h61) hfr
    refine x_aload_n (pc := 0) dX7_know_0 rfl ?_
    refine x_getf (pc := 1) dX7_know_1 kf_X7_112 (by first | assumption | exact hC.1 | exact hH.1 | exact hV0.1 | exact hT.1) (by rfl) ?_
    refine x_bipush (pc := 4) dX7_know_4 (v := nI 8) (by decide) ?_
    refine x_icmp_ne_f (pc := 6) dX7_know_6 (tgt := 51) (by decide) (fun q => q (by rw [hf])) ?_
    refine x_iconst (pc := 9) dX7_know_9 (v := nI 0) (by decide) ?_
    refine x_istore_n (pc := 10) dX7_know_10 rfl ?_
    exact loop 84 0 w0 (by omega) hK (by rw [shF_0]; exact h61) (fun _ _ => rfl)
  · have hlen : (shA 8 L h).length = L.length + 1 := by unfold shA; rw [if_neg hf]; simp
    refine x_aload_n (pc := 0) dX7_know_0 rfl ?_
    refine x_getf (pc := 1) dX7_know_1 kf_X7_112 (by first | assumption | exact hC.1 | exact hH.1 | exact hV0.1 | exact hT.1) (by rfl) ?_
    refine x_bipush (pc := 4) dX7_know_4 (v := nI 8) (by decide) ?_
    refine x_icmp_ne_t (pc := 6) dX7_know_6 (tgt := 51) (by decide) (by rw [n_eq (by omega) (by omega)]; exact hf) ?_
    refine fin w0 L.length f _ (by omega) hK h61 hlen hr (fun u hu => ?_) ?_ hKK (fun _ _ => rfl)
    · have e2 : (shA 8 L h).getD u noH = L.getD u noH := by
        unfold shA
        rw [if_neg hf, List.getD_eq_getElem?_getD, List.getD_eq_getElem?_getD, List.getElem?_append_left (by omega)]
      rw [e2]
      exact hL u hu
    · unfold shA
      rw [if_neg hf, List.getD_eq_getElem?_getD, List.getElem?_append_right (by omega)]
      simp
theorem shA_le {L : List Hrg} {h : Hrg} (hl : L.length ≤ 8) : (shA 8 L h).length ≤ 8 := by
  unfold shA
  split <;> simp <;> omega
theorem okX.Ll {T : List Nat} {C : Crt} {h : Hrg} {L K : List Hrg} (ok : okX T C h L K) : ∀ x ∈ L, x.1.length ≤ 10 := fun x hx => (ok.2.2.2.1 x hx).len ok.2.1
theorem okX.Kl {T : List Nat} {C : Crt} {h : Hrg} {L K : List Hrg} (ok : okX T C h L K) : ∀ x ∈ K, x.1.length ≤ 10 := fun x hx => (ok.2.2.2.2 x hx).len ok.2.1
theorem okX.hl {T : List Nat} {C : Crt} {h : Hrg} {L K : List Hrg} (ok : okX T C h L K) : h.1.length ≤ 10 := ok.2.2.1.len ok.2.1
theorem m_next {w : ax_W} {n : Nat} {T : List Nat} {C : Crt} {h : Hrg} {L K : List Hrg} (hm : isM w T C h L K) (ok : okX T C h L K) : Run m_X7_next 1 0 0 0 (l_ent m_X7_next [.ref 51]) [] w n (PM (nI (nxS C h)) T C h L K w n) := by
  have hm0 := hm
  obtain ⟨a, s, r, D, h1, h2, h3, hK, ht, hC, ⟨f, h61, hr, hL, hKK⟩, hD⟩ := hm
  refine (m_next0 ok.2.1 ok.2.2.1 hK hC.R h61 hr).mono ?_
  intro v w' n' hP
  obtain ⟨rfl, rfl, rfl⟩ := hP
  exact va_i ⟨rfl, hm0, fun _ _ => rfl⟩
theorem m_argue {w : ax_W} {n : Nat} {T : List Nat} {C : Crt} {h : Hrg} {L K : List Hrg} (hm : isM w T C h L K) (ok : okX T C h L K) (x : Int32) : Run m_X7_argue 2 0 0 0 (l_ent m_X7_argue [.ref 51, .int x]) [] w n (if inB x (cn C) then (if arB C h x then PM (nI (h.1.length + 1)) T C (h.1 ++ [x.toNatClampNeg], h.2) (shA 8 L h) K w n else PM (-2) T C h L K w n) else PM (-1) T C h L K w n) := by
  have hm0 := hm
  obtain ⟨a, s, r, D, h1, h2, h3, hK, ht, hC, hN, hD⟩ := hm
  have okc := ok.2.1
  have okh := ok.2.2.1
  have hn := okc.1
  have hx := nxS_1024 okc okh
  rcases inB_cases x (n := cn C) (by omega) with hb | ⟨a, ha, rfl⟩
  · rw [if_neg (by rw [hb]; decide)]
    refine x_aload_n (pc := 0) dX7_argue_0 rfl ?_
    refine x_iload_n (pc := 1) dX7_argue_1 rfl ?_
    refine x_cv1p (ci := 7) (pc := 2) dX7_argue_2 ks_X7_124 (by first | assumption | exact hC.1 | exact hH.1 | exact hV0.1 | exact hT.1) (by rfl) (by omega) (by rfl) (by rfl) (by rfl) (c_m_isStatement okc hK hC _) ?_
    refine x_if_ne (pc := 5) dX7_argue_5 (tgt := 10) (by decide) (fun h_5 => ?_) (fun h_5 => ?_)
    · skip
      try first | rw [n_b0] at h_5 | rw [n_eq0 (by omega)] at h_5
      exact absurd hb h_5
    · replace h_5 := Classical.not_not.mp h_5
      try first | rw [n_b0] at h_5 | rw [n_eq0 (by omega)] at h_5
      refine x_iconst (pc := 8) dX7_argue_8 (v := -1) (by decide) ?_
      refine x_iret (pc := 9) dX7_argue_9 rfl rfl ?_
      exact va_i ⟨rfl, hm0, fun _ _ => rfl⟩
  · have hb : inB (nI a) (cn C) = true := by rw [inB_n (by omega) (by omega)]; simpa using ha
    have hcl : (nI a).toNatClampNeg = a := n_cl (by omega)
    rw [if_pos hb]
    unfold arB
    rw [hcl]
    obtain ⟨f, h61, hr, hL, hKK⟩ := id hN
    refine x_aload_n (pc := 0) dX7_argue_0 rfl ?_
    refine x_iload_n (pc := 1) dX7_argue_1 rfl ?_
    refine x_cv1p (ci := 7) (pc := 2) dX7_argue_2 ks_X7_124 (by first | assumption | exact hC.1 | exact hH.1 | exact hV0.1 | exact hT.1) (by rfl) (by omega) (by rfl) (by rfl) (by rfl) (c_m_isStatement okc hK hC _) ?_
    refine x_if_ne (pc := 5) dX7_argue_5 (tgt := 10) (by decide) (fun h_5 => ?_) (fun h_5 => ?_)
    · skip
      try first | rw [n_b0] at h_5 | rw [n_eq0 (by omega)] at h_5
      refine x_aload_n (pc := 10) dX7_argue_10 rfl ?_
      refine x_cv0p (ci := 7) (pc := 11) dX7_argue_11 ks_X7_135 (by first | assumption | exact hC.1 | exact hH.1 | exact hV0.1 | exact hT.1) (by rfl) (by omega) (by rfl) (by rfl) (by rfl) (m_next0 okc okh hK hC.R h61 hr) ?_
      refine x_iload_n (pc := 14) dX7_argue_14 rfl ?_
      first | refine xn_ishr (pc := 15) dX7_argue_15 (by omega) (by omega) ?_ | refine x_ishr (pc := 15) dX7_argue_15 ?_
      refine x_iconst (pc := 16) dX7_argue_16 (v := nI 1) (by decide) ?_
      first | refine xn_bit (pc := 17) dX7_argue_17 ?_ | refine xn_nd (pc := 17) dX7_argue_17 ?_ | refine xn_iand (pc := 17) dX7_argue_17 ?_ | refine x_iand (pc := 17) dX7_argue_17 ?_
      refine x_if_ne (pc := 18) dX7_argue_18 (tgt := 24) (by decide) (fun h_18 => ?_) (fun h_18 => ?_)
      · skip
        try first | rw [n_b0] at h_18 | rw [n_eq0 (by omega)] at h_18
        simp only [Bool.not_eq_false] at h_18
        rw [if_pos h_18]
        have hlen := (okH_arg okc okh h_18).2
        clear h61 hr hL hKK
        refine x_aload_n (pc := 24) dX7_argue_24 rfl ?_
        refine x_cv0 (q1 := 0) (q2 := 0) (ci := 7) (pc := 25) dX7_argue_25 ks_X7_138 (by first | assumption | exact hC.1 | exact hH.1 | exact hV0.1 | exact hT.1) (by rfl) (by omega) (by rfl) (by rfl) (by rfl) (m_know h2 h3 ok.hl ok.Ll ok.Kl hK hN) (vo_kk fun w hP => ?_)
        obtain ⟨hK', ⟨g, g61, gr, gL, gK⟩, hq⟩ := hP
        replace ht := ht.go fun j _ _ => hq j (by omega)
        replace hC := hC.go fun j _ _ => hq j (by omega)
        replace hD := hD.go fun j _ _ => hq j (by omega)
        have hfr := fun j (hj : j < 51) => hq j (by omega)
        obtain ⟨r0, r1, r2⟩ := gr.row
        refine x_aload_n (pc := 28) dX7_argue_28 rfl ?_
        refine x_getf (pc := 29) dX7_argue_29 kf_X7_38 (by first | assumption | exact hC.1 | exact hH.1 | exact hV0.1 | exact hT.1) (by rfl) ?_
        refine x_iconst (pc := 32) dX7_argue_32 (v := nI 2) (by decide) ?_
        refine x_aload_n (pc := 33) dX7_argue_33 rfl ?_
        refine x_getf (pc := 34) dX7_argue_34 kf_X7_38 (by first | assumption | exact hC.1 | exact hH.1 | exact hV0.1 | exact hT.1) (by rfl) ?_
        refine x_iconst (pc := 37) dX7_argue_37 (v := nI 0) (by decide) ?_
        refine xn_iald (pc := 38) dX7_argue_38 (by assumption) (by first | omega | assumption) (by rfl) ?_
        rw [r0]
        first | refine xn_iadd (pc := 39) dX7_argue_39 ?_ | refine x_iadd (pc := 39) dX7_argue_39 ?_
        refine x_iload_n (pc := 40) dX7_argue_40 rfl ?_
        refine xw_iast (pc := 41) dX7_argue_41 (by assumption) (by first | omega | assumption) (by rfl) (fun w hnew hne => ?_)
        replace hK' := (hne _ (by omega)).trans hK'
        replace g61 := hnew
        replace ht := ht.go fun j q1 q2 => hne j (by omega)
        replace hC := hC.go fun j q1 q2 => hne j (by omega)
        replace hD := hD.go fun j q1 q2 => hne j (by omega)
        replace hfr := fun j (hj : j < 51) => (hne j (by omega)).trans (hfr j hj)
        clear hne
        refine x_aload_n (pc := 42) dX7_argue_42 rfl ?_
        refine x_getf (pc := 43) dX7_argue_43 kf_X7_38 (by first | assumption | exact hC.1 | exact hH.1 | exact hV0.1 | exact hT.1) (by rfl) ?_
        refine x_iconst (pc := 46) dX7_argue_46 (v := nI 0) (by decide) ?_
        refine x_dup2 (pc := 47) dX7_argue_47 rfl rfl ?_
        refine xn_iald (pc := 48) dX7_argue_48 (by assumption) (by first | omega | assumption) (by rfl) ?_
        rw [upd_ne _ _ (by omega), r0]
        refine x_iconst (pc := 49) dX7_argue_49 (v := nI 1) (by decide) ?_
        first | refine xn_iadd (pc := 50) dX7_argue_50 ?_ | refine x_iadd (pc := 50) dX7_argue_50 ?_
        refine xw_iast (pc := 51) dX7_argue_51 (by assumption) (by first | omega | assumption) (by rfl) (fun w hnew hne => ?_)
        replace hK' := (hne _ (by omega)).trans hK'
        replace g61 := hnew
        replace ht := ht.go fun j q1 q2 => hne j (by omega)
        replace hC := hC.go fun j q1 q2 => hne j (by omega)
        replace hD := hD.go fun j q1 q2 => hne j (by omega)
        replace hfr := fun j (hj : j < 51) => (hne j (by omega)).trans (hfr j hj)
        clear hne
        refine x_aload_n (pc := 52) dX7_argue_52 rfl ?_
        refine x_getf (pc := 53) dX7_argue_53 kf_X7_38 (by first | assumption | exact hC.1 | exact hH.1 | exact hV0.1 | exact hT.1) (by rfl) ?_
        refine x_iconst (pc := 56) dX7_argue_56 (v := nI 0) (by decide) ?_
        refine xn_iald (pc := 57) dX7_argue_57 (by assumption) (by first | omega | assumption) (by rfl) ?_
        rw [upd_same]
        refine x_iret (pc := 58) dX7_argue_58 rfl rfl ?_
        refine va_i ⟨rfl, ⟨_, s, r, D, h1, shA_le h2, h3, hK', ht, hC, ⟨_, g61, ⟨?_, ?_, fun i hi => ?_⟩, fun u hu => ?_, fun u hu => ?_⟩, hD⟩, hfr⟩
        · rw [upd_same]; simp
        · rw [upd_ne _ _ (by decide), upd_ne _ _ (by omega)]; exact r1
        · have hi' : i < h.1.length + 1 := by simpa using hi
          rw [upd_ne _ _ (by omega)]
          by_cases q : i = h.1.length
          · subst q
            rw [show 0 + 2 + h.1.length = 2 + h.1.length by omega, upd_same]
            show _ = nI ((h.1 ++ [a]).getD h.1.length 0)
            rw [getD_last]
          · rw [upd_ne _ _ (by omega)]
            show _ = nI ((h.1 ++ [a]).getD i 0)
            rw [getD_app (by omega), show 0 + 2 + i = 2 + i by omega]
            exact r2 i (by omega)
        · refine (gL u hu).mv ?_ fun i hi => by rw [upd_ne _ _ (by omega), upd_ne _ _ (by omega)]
          rcases shA_mem (getD_memH hu) with q | q
          · exact ok.Ll _ q
          · rw [q]; exact ok.hl
        · exact (gK u hu).mv (ok.Kl _ (getD_memH hu)) fun i hi => by rw [upd_ne _ _ (by omega), upd_ne _ _ (by omega)]
      · replace h_18 := Classical.not_not.mp h_18
        try first | rw [n_b0] at h_18 | rw [n_eq0 (by omega)] at h_18
        rw [if_neg (by rw [h_18]; decide)]
        refine x_bipush (pc := 21) dX7_argue_21 (v := -2) (by decide) ?_
        refine x_iret (pc := 23) dX7_argue_23 rfl rfl ?_
        exact va_i ⟨rfl, hm0, fun _ _ => rfl⟩
    · replace h_5 := Classical.not_not.mp h_5
      try first | rw [n_b0] at h_5 | rw [n_eq0 (by omega)] at h_5
      rw [hb] at h_5; cases h_5
theorem m_drop {w : ax_W} {n : Nat} {T : List Nat} {C : Crt} {h : Hrg} {L K : List Hrg} (hm : isM w T C h L K) (ok : okX T C h L K) : Run m_X7_drop 2 0 0 0 (l_ent m_X7_drop [.ref 51]) [] w n (PM (nI h.1.length) T C ([], h.2) (shA 8 L h) K w n) := by
  obtain ⟨a, s, r, D, h1, h2, h3, hK, ht, hC, hN, hD⟩ := hm
  obtain ⟨f, h61, hr, hL, hKK⟩ := id hN
  have q0 := hr.1
  refine x_aload_n (pc := 0) dX7_drop_0 rfl ?_
  refine x_getf (pc := 1) dX7_drop_1 kf_X7_38 (by first | assumption | exact hC.1 | exact hH.1 | exact hV0.1 | exact hT.1) (by rfl) ?_
  refine x_iconst (pc := 4) dX7_drop_4 (v := nI 0) (by decide) ?_
  refine xn_iald (pc := 5) dX7_drop_5 (by assumption) (by first | omega | assumption) (by rfl) ?_
  rw [q0]
  refine x_istore_n (pc := 6) dX7_drop_6 rfl ?_
  refine x_aload_n (pc := 7) dX7_drop_7 rfl ?_
  refine x_cv0 (q1 := 0) (q2 := 0) (ci := 7) (pc := 8) dX7_drop_8 ks_X7_138 (by first | assumption | exact hC.1 | exact hH.1 | exact hV0.1 | exact hT.1) (by rfl) (by omega) (by rfl) (by rfl) (by rfl) (m_know h2 h3 ok.hl ok.Ll ok.Kl hK hN) (vo_kk fun w hP => ?_)
  clear h61 hr hL hKK
  obtain ⟨hK', ⟨g, g61, gr, gL, gK⟩, hq⟩ := hP
  replace ht := ht.go fun j _ _ => hq j (by omega)
  replace hC := hC.go fun j _ _ => hq j (by omega)
  replace hD := hD.go fun j _ _ => hq j (by omega)
  have hfr := fun j (hj : j < 51) => hq j (by omega)
  obtain ⟨r0, r1, r2⟩ := gr.row
  refine x_aload_n (pc := 11) dX7_drop_11 rfl ?_
  refine x_getf (pc := 12) dX7_drop_12 kf_X7_38 (by first | assumption | exact hC.1 | exact hH.1 | exact hV0.1 | exact hT.1) (by rfl) ?_
  refine x_iconst (pc := 15) dX7_drop_15 (v := nI 0) (by decide) ?_
  refine x_iconst (pc := 16) dX7_drop_16 (v := nI 0) (by decide) ?_
  refine xw_iast (pc := 17) dX7_drop_17 (by assumption) (by first | omega | assumption) (by rfl) (fun w hnew hne => ?_)
  replace hK' := (hne _ (by omega)).trans hK'
  replace g61 := hnew
  replace ht := ht.go fun j q1 q2 => hne j (by omega)
  replace hC := hC.go fun j q1 q2 => hne j (by omega)
  replace hD := hD.go fun j q1 q2 => hne j (by omega)
  replace hfr := fun j (hj : j < 51) => (hne j (by omega)).trans (hfr j hj)
  clear hne
  refine x_iload_n (pc := 18) dX7_drop_18 rfl ?_
  refine x_iret (pc := 19) dX7_drop_19 rfl rfl ?_
  refine va_i ⟨rfl, ⟨a, s, r, D, h1, shA_le h2, h3, hK', ht, hC, ⟨_, g61, ⟨?_, ?_, fun i hi => absurd hi (Nat.not_lt_zero i)⟩, fun u hu => ?_, fun u hu => ?_⟩, hD⟩, hfr⟩
  · rw [upd_same]; rfl
  · rw [upd_ne _ _ (by decide)]; exact r1
  · refine (gL u hu).mv ?_ fun i hi => by rw [upd_ne _ _ (by omega)]
    rcases shA_mem (getD_memH hu) with q | q
    · exact ok.Ll _ q
    · rw [q]; exact ok.hl
  · exact (gK u hu).mv (ok.Kl _ (getD_memH hu)) fun i hi => by rw [upd_ne _ _ (by omega)]
theorem m_strike {w : ax_W} {n : Nat} {T : List Nat} {C : Crt} {h : Hrg} {L K : List Hrg} (hm : isM w T C h L K) (ok : okX T C h L K) (x : Int32) : Run m_X7_strike 2 0 0 0 (l_ent m_X7_strike [.ref 51, .int x]) [] w n (if inB x (cn C) then (if (mbL h.1).testBit x.toNatClampNeg then PM (-2) T C h L K w n else PM (nI (bN ((h.2 ^^^ 2 ^ x.toNatClampNeg).testBit x.toNatClampNeg))) T C (h.1, h.2 ^^^ 2 ^ x.toNatClampNeg) (shA 8 L h) K w n) else PM (-1) T C h L K w n) := by
  have hm0 := hm
  obtain ⟨a, s, r, D, h1, h2, h3, hK, ht, hC, hN, hD⟩ := hm
  have okc := ok.2.1
  have okh := ok.2.2.1
  have hn := okc.1
  have hsk := okh.sk okc
  have hml : mbL h.1 < 1024 := Nat.lt_of_lt_of_le (mbL_lt okh) okc.lt
  rcases inB_cases x (n := cn C) (by omega) with hb | ⟨a, ha, rfl⟩
  · rw [if_neg (by rw [hb]; decide)]
    refine x_aload_n (pc := 0) dX7_strike_0 rfl ?_
    refine x_iload_n (pc := 1) dX7_strike_1 rfl ?_
    refine x_cv1p (ci := 7) (pc := 2) dX7_strike_2 ks_X7_124 (by first | assumption | exact hC.1 | exact hH.1 | exact hV0.1 | exact hT.1) (by rfl) (by omega) (by rfl) (by rfl) (by rfl) (c_m_isStatement okc hK hC _) ?_
    refine x_if_ne (pc := 5) dX7_strike_5 (tgt := 10) (by decide) (fun h_5 => ?_) (fun h_5 => ?_)
    · skip
      try first | rw [n_b0] at h_5 | rw [n_eq0 (by omega)] at h_5
      exact absurd hb h_5
    · replace h_5 := Classical.not_not.mp h_5
      try first | rw [n_b0] at h_5 | rw [n_eq0 (by omega)] at h_5
      refine x_iconst (pc := 8) dX7_strike_8 (v := -1) (by decide) ?_
      refine x_iret (pc := 9) dX7_strike_9 rfl rfl ?_
      exact va_i ⟨rfl, hm0, fun _ _ => rfl⟩
  · have hb : inB (nI a) (cn C) = true := by rw [inB_n (by omega) (by omega)]; simpa using ha
    have hcl : (nI a).toNatClampNeg = a := n_cl (by omega)
    have hxl : h.2 ^^^ 2 ^ a < 1024 := xor_1024 hsk (pow_10 (by omega))
    rw [if_pos hb, hcl]
    obtain ⟨f, h61, hr, hL, hKK⟩ := id hN
    refine x_aload_n (pc := 0) dX7_strike_0 rfl ?_
    refine x_iload_n (pc := 1) dX7_strike_1 rfl ?_
    refine x_cv1p (ci := 7) (pc := 2) dX7_strike_2 ks_X7_124 (by first | assumption | exact hC.1 | exact hH.1 | exact hV0.1 | exact hT.1) (by rfl) (by omega) (by rfl) (by rfl) (by rfl) (c_m_isStatement okc hK hC _) ?_
    refine x_if_ne (pc := 5) dX7_strike_5 (tgt := 10) (by decide) (fun h_5 => ?_) (fun h_5 => ?_)
    · skip
      try first | rw [n_b0] at h_5 | rw [n_eq0 (by omega)] at h_5
      refine x_aload_n (pc := 10) dX7_strike_10 rfl ?_
      refine x_cv0p (ci := 7) (pc := 11) dX7_strike_11 ks_X7_128 (by first | assumption | exact hC.1 | exact hH.1 | exact hV0.1 | exact hT.1) (by rfl) (by omega) (by rfl) (by rfl) (by rfl) (m_said okc okh hK h61 hr) ?_
      refine x_iload_n (pc := 14) dX7_strike_14 rfl ?_
      first | refine xn_ishr (pc := 15) dX7_strike_15 (by omega) (by omega) ?_ | refine x_ishr (pc := 15) dX7_strike_15 ?_
      refine x_iconst (pc := 16) dX7_strike_16 (v := nI 1) (by decide) ?_
      first | refine xn_bit (pc := 17) dX7_strike_17 ?_ | refine xn_nd (pc := 17) dX7_strike_17 ?_ | refine xn_iand (pc := 17) dX7_strike_17 ?_ | refine x_iand (pc := 17) dX7_strike_17 ?_
      refine x_iconst (pc := 18) dX7_strike_18 (v := nI 1) (by decide) ?_
      refine x_icmp_ne (pc := 19) dX7_strike_19 (tgt := 25) (by decide) (fun h_19 => ?_) (fun h_19 => ?_)
      · skip
        try first | rw [n_b1] at h_19 | rw [n_b00] at h_19 | rw [n_eq (by omega) (by omega)] at h_19
        rw [if_neg (by simpa using h_19)]
        clear h61 hr hL hKK
        refine x_aload_n (pc := 25) dX7_strike_25 rfl ?_
        refine x_cv0 (q1 := 0) (q2 := 0) (ci := 7) (pc := 26) dX7_strike_26 ks_X7_138 (by first | assumption | exact hC.1 | exact hH.1 | exact hV0.1 | exact hT.1) (by rfl) (by omega) (by rfl) (by rfl) (by rfl) (m_know h2 h3 ok.hl ok.Ll ok.Kl hK hN) (vo_kk fun w hP => ?_)
        obtain ⟨hK', ⟨g, g61, gr, gL, gK⟩, hq⟩ := hP
        replace ht := ht.go fun j _ _ => hq j (by omega)
        replace hC := hC.go fun j _ _ => hq j (by omega)
        replace hD := hD.go fun j _ _ => hq j (by omega)
        have hfr := fun j (hj : j < 51) => hq j (by omega)
        obtain ⟨r0, r1, r2⟩ := gr.row
        refine x_aload_n (pc := 29) dX7_strike_29 rfl ?_
        refine x_getf (pc := 30) dX7_strike_30 kf_X7_38 (by first | assumption | exact hC.1 | exact hH.1 | exact hV0.1 | exact hT.1) (by rfl) ?_
        refine x_iconst (pc := 33) dX7_strike_33 (v := nI 1) (by decide) ?_
        refine x_dup2 (pc := 34) dX7_strike_34 rfl rfl ?_
        refine xn_iald (pc := 35) dX7_strike_35 (by assumption) (by first | omega | assumption) (by rfl) ?_
        rw [r1]
        refine x_iconst (pc := 36) dX7_strike_36 (v := nI 1) (by decide) ?_
        refine x_iload_n (pc := 37) dX7_strike_37 rfl ?_
        first | refine xn_shl1 (pc := 38) dX7_strike_38 (by omega) ?_ | refine xn_ishl (pc := 38) dX7_strike_38 (by omega) (by omega) ?_ | refine x_ishl (pc := 38) dX7_strike_38 ?_
        first | refine xn_ixor (pc := 39) dX7_strike_39 ?_ | refine x_ixor (pc := 39) dX7_strike_39 ?_
        refine xw_iast (pc := 40) dX7_strike_40 (by assumption) (by first | omega | assumption) (by rfl) (fun w hnew hne => ?_)
        replace hK' := (hne _ (by omega)).trans hK'
        replace g61 := hnew
        replace ht := ht.go fun j q1 q2 => hne j (by omega)
        replace hC := hC.go fun j q1 q2 => hne j (by omega)
        replace hD := hD.go fun j q1 q2 => hne j (by omega)
        replace hfr := fun j (hj : j < 51) => (hne j (by omega)).trans (hfr j hj)
        clear hne
        refine x_aload_n (pc := 41) dX7_strike_41 rfl ?_
        refine x_getf (pc := 42) dX7_strike_42 kf_X7_38 (by first | assumption | exact hC.1 | exact hH.1 | exact hV0.1 | exact hT.1) (by rfl) ?_
        refine x_iconst (pc := 45) dX7_strike_45 (v := nI 1) (by decide) ?_
        refine xn_iald (pc := 46) dX7_strike_46 (by assumption) (by first | omega | assumption) (by rfl) ?_
        rw [upd_same]
        refine x_iload_n (pc := 47) dX7_strike_47 rfl ?_
        first | refine xn_ishr (pc := 48) dX7_strike_48 (by omega) (by omega) ?_ | refine x_ishr (pc := 48) dX7_strike_48 ?_
        refine x_iconst (pc := 49) dX7_strike_49 (v := nI 1) (by decide) ?_
        first | refine xn_bit (pc := 50) dX7_strike_50 ?_ | refine xn_nd (pc := 50) dX7_strike_50 ?_ | refine xn_iand (pc := 50) dX7_strike_50 ?_ | refine x_iand (pc := 50) dX7_strike_50 ?_
        refine x_iret (pc := 51) dX7_strike_51 rfl rfl ?_
        refine va_i ⟨rfl, ⟨_, s, r, D, h1, shA_le h2, h3, hK', ht, hC, ⟨_, g61, ⟨?_, ?_, fun i hi => ?_⟩, fun u hu => ?_, fun u hu => ?_⟩, hD⟩, hfr⟩
        · rw [upd_ne _ _ (by decide)]; exact r0
        · rw [upd_same]
        · rw [upd_ne _ _ (by omega), show 0 + 2 + i = 2 + i by omega]; exact r2 i hi
        · refine (gL u hu).mv ?_ fun i hi => by rw [upd_ne _ _ (by omega)]
          rcases shA_mem (getD_memH hu) with q | q
          · exact ok.Ll _ q
          · rw [q]; exact ok.hl
        · exact (gK u hu).mv (ok.Kl _ (getD_memH hu)) fun i hi => by rw [upd_ne _ _ (by omega)]
      · replace h_19 := Classical.not_not.mp h_19
        try first | rw [n_b1] at h_19 | rw [n_b00] at h_19 | rw [n_eq (by omega) (by omega)] at h_19
        rw [if_pos (by simpa using h_19)]
        refine x_bipush (pc := 22) dX7_strike_22 (v := -2) (by decide) ?_
        refine x_iret (pc := 24) dX7_strike_24 rfl rfl ?_
        exact va_i ⟨rfl, hm0, fun _ _ => rfl⟩
    · replace h_5 := Classical.not_not.mp h_5
      try first | rw [n_b0] at h_5 | rw [n_eq0 (by omega)] at h_5
      rw [hb] at h_5; cases h_5
theorem m_undo {w : ax_W} {n : Nat} {T : List Nat} {C : Crt} {h : Hrg} {L K : List Hrg} (hm : isM w T C h L K) (ok : okX T C h L K) : Run m_X7_undo 1 0 0 0 (l_ent m_X7_undo [.ref 51]) [] w n (if 0 < L.length then PM (nI (L.length - 1)) T C (L.getD (L.length - 1) noH) L.dropLast K w n else PM (-2) T C h L K w n) := by
  have hm0 := hm
  obtain ⟨a, s, r, D, h1, h2, h3, hK, ht, hC, ⟨f, h61, hr, hL, hKK⟩, hD⟩ := hm
  have hfr : ∀ j, j < 51 → w j = w j := fun _ _ => rfl
  refine x_aload_n (pc := 0) dX7_undo_0 rfl ?_
  refine x_getf (pc := 1) dX7_undo_1 kf_X7_112 (by first | assumption | exact hC.1 | exact hH.1 | exact hV0.1 | exact hT.1) (by rfl) ?_
  refine x_if_ne (pc := 4) dX7_undo_4 (tgt := 10) (by decide) (fun h_4 => ?_) (fun h_4 => ?_)
  · skip
    try first | rw [n_b0] at h_4 | rw [n_eq0 (by omega)] at h_4
    rw [if_pos (by omega)]
    have hlp : 0 < L.length := by omega
    refine x_aload_n (pc := 10) dX7_undo_10 rfl ?_
    refine x_dup (pc := 11) dX7_undo_11 rfl ?_
    refine x_getf (pc := 12) dX7_undo_12 kf_X7_112 (by first | assumption | exact hC.1 | exact hH.1 | exact hV0.1 | exact hT.1) (by rfl) ?_
    refine x_iconst (pc := 15) dX7_undo_15 (v := nI 1) (by decide) ?_
    first | refine xn_isub (pc := 16) dX7_undo_16 (by omega) ?_ | refine x_isub (pc := 16) dX7_undo_16 ?_
    refine xw_puti (pc := 17) dX7_undo_17 kf_X7_112 (by assumption) (by rfl) (by rfl) rfl rfl (fun w hnew hne => ?_)
    replace hK := hnew
    replace h61 := (hne _ (by omega)).trans h61
    replace ht := ht.go fun j q1 q2 => hne j (by omega)
    replace hC := hC.go fun j q1 q2 => hne j (by omega)
    replace hD := hD.go fun j q1 q2 => hne j (by omega)
    replace hfr := fun j (hj : j < 51) => (hne j (by omega)).trans (hfr j hj)
    clear hne
    refine x_aload_n (pc := 20) dX7_undo_20 rfl ?_
    refine x_bipush (pc := 21) dX7_undo_21 (v := nI 12) (by decide) ?_
    refine x_bipush (pc := 23) dX7_undo_23 (v := nI 12) (by decide) ?_
    refine x_aload_n (pc := 25) dX7_undo_25 rfl ?_
    refine x_getf (pc := 26) dX7_undo_26 kf_X7_112 (by first | assumption | exact hC.1 | exact hH.1 | exact hV0.1 | exact hT.1) (by rfl) ?_
    first | refine xn_imul (pc := 29) dX7_undo_29 ?_ | refine x_imul (pc := 29) dX7_undo_29 ?_
    first | refine xn_iadd (pc := 30) dX7_undo_30 ?_ | refine x_iadd (pc := 30) dX7_undo_30 ?_
    refine x_iconst (pc := 31) dX7_undo_31 (v := nI 0) (by decide) ?_
    refine x_cv2 (q1 := 0) (q2 := 0) (ci := 7) (pc := 32) dX7_undo_32 ks_X7_121 (by first | assumption | exact hC.1 | exact hH.1 | exact hV0.1 | exact hT.1) (by rfl) (by omega) (by rfl) (by rfl) (by rfl) (m_copy hK h61 (by omega) (by omega) (by omega)) (vo_kk fun w hP => ?_)
    obtain ⟨h61', hq⟩ := hP
    replace hK := (hq _ (by decide)).trans hK
    replace ht := ht.go fun j _ _ => hq j (by omega)
    replace hC := hC.go fun j _ _ => hq j (by omega)
    replace hD := hD.go fun j _ _ => hq j (by omega)
    replace hfr := fun j (hj : j < 51) => (hq j (by omega)).trans (hfr j hj)
    refine x_aload_n (pc := 35) dX7_undo_35 rfl ?_
    refine x_getf (pc := 36) dX7_undo_36 kf_X7_112 (by first | assumption | exact hC.1 | exact hH.1 | exact hV0.1 | exact hT.1) (by rfl) ?_
    refine x_iret (pc := 39) dX7_undo_39 rfl rfl ?_
    refine va_i ⟨rfl, ⟨a, s, r, D, h1, by simp; omega, h3, ?_, ht, hC, ⟨_, h61', ?_, fun u hu => ?_, fun u hu => ?_⟩, hD⟩, hfr⟩
    · rw [show L.dropLast.length = L.length - 1 by simp]; exact hK
    · exact (hL (L.length - 1) (by omega)).mv (ok.Ll _ (getD_memH (by omega))) fun i hi => cyF_in hi
    · have hu' : u < L.length - 1 := by simpa using hu
      have e2 : L.dropLast.getD u noH = L.getD u noH := by
        rw [List.getD_eq_getElem?_getD, List.getD_eq_getElem?_getD, List.dropLast_eq_take, List.getElem?_take, if_pos hu']
      rw [e2]
      exact (hL u (by omega)).mv (ok.Ll _ (getD_memH (by omega))) fun i hi => cyF_out (by omega)
    · exact (hKK u hu).mv (ok.Kl _ (getD_memH hu)) fun i hi => cyF_out (by omega)
  · replace h_4 := Classical.not_not.mp h_4
    try first | rw [n_b0] at h_4 | rw [n_eq0 (by omega)] at h_4
    rw [if_neg (by omega)]
    refine x_bipush (pc := 7) dX7_undo_7 (v := -2) (by decide) ?_
    refine x_iret (pc := 9) dX7_undo_9 rfl rfl ?_
    exact va_i ⟨rfl, hm0, fun _ _ => rfl⟩
theorem m_keep {w : ax_W} {n : Nat} {T : List Nat} {C : Crt} {h : Hrg} {L K : List Hrg} (hm : isM w T C h L K) (ok : okX T C h L K) : Run m_X7_keep 1 0 0 0 (l_ent m_X7_keep [.ref 51]) [] w n (if K.length < 2 then PM (nI (K.length + 1)) T C h L (K ++ [h]) w n else PM (-3) T C h L K w n) := by
  have hm0 := hm
  obtain ⟨a, s, r, D, h1, h2, h3, hK, ht, hC, ⟨f, h61, hr, hL, hKK⟩, hD⟩ := hm
  have hfr : ∀ j, j < 51 → w j = w j := fun _ _ => rfl
  refine x_aload_n (pc := 0) dX7_keep_0 rfl ?_
  refine x_getf (pc := 1) dX7_keep_1 kf_X7_115 (by first | assumption | exact hC.1 | exact hH.1 | exact hV0.1 | exact hT.1) (by rfl) ?_
  refine x_iconst (pc := 4) dX7_keep_4 (v := nI 2) (by decide) ?_
  refine x_icmp_ne (pc := 5) dX7_keep_5 (tgt := 11) (by decide) (fun h_5 => ?_) (fun h_5 => ?_)
  · skip
    try first | rw [n_b1] at h_5 | rw [n_b00] at h_5 | rw [n_eq (by omega) (by omega)] at h_5
    rw [if_pos (by omega)]
    refine x_aload_n (pc := 11) dX7_keep_11 rfl ?_
    refine x_iconst (pc := 12) dX7_keep_12 (v := nI 0) (by decide) ?_
    refine x_bipush (pc := 13) dX7_keep_13 (v := nI 108) (by decide) ?_
    refine x_bipush (pc := 15) dX7_keep_15 (v := nI 12) (by decide) ?_
    refine x_aload_n (pc := 17) dX7_keep_17 rfl ?_
    refine x_getf (pc := 18) dX7_keep_18 kf_X7_115 (by first | assumption | exact hC.1 | exact hH.1 | exact hV0.1 | exact hT.1) (by rfl) ?_
    first | refine xn_imul (pc := 21) dX7_keep_21 ?_ | refine x_imul (pc := 21) dX7_keep_21 ?_
    first | refine xn_iadd (pc := 22) dX7_keep_22 ?_ | refine x_iadd (pc := 22) dX7_keep_22 ?_
    refine x_cv2 (q1 := 0) (q2 := 0) (ci := 7) (pc := 23) dX7_keep_23 ks_X7_121 (by first | assumption | exact hC.1 | exact hH.1 | exact hV0.1 | exact hT.1) (by rfl) (by omega) (by rfl) (by rfl) (by rfl) (m_copy hK h61 (by omega) (by omega) (by omega)) (vo_kk fun w hP => ?_)
    obtain ⟨h61', hq⟩ := hP
    replace hK := (hq _ (by decide)).trans hK
    replace ht := ht.go fun j _ _ => hq j (by omega)
    replace hC := hC.go fun j _ _ => hq j (by omega)
    replace hD := hD.go fun j _ _ => hq j (by omega)
    replace hfr := fun j (hj : j < 51) => (hq j (by omega)).trans (hfr j hj)
    refine x_aload_n (pc := 26) dX7_keep_26 rfl ?_
    refine x_dup (pc := 27) dX7_keep_27 rfl ?_
    refine x_getf (pc := 28) dX7_keep_28 kf_X7_115 (by first | assumption | exact hC.1 | exact hH.1 | exact hV0.1 | exact hT.1) (by rfl) ?_
    refine x_iconst (pc := 31) dX7_keep_31 (v := nI 1) (by decide) ?_
    first | refine xn_iadd (pc := 32) dX7_keep_32 ?_ | refine x_iadd (pc := 32) dX7_keep_32 ?_
    refine xw_puti (pc := 33) dX7_keep_33 kf_X7_115 (by assumption) (by rfl) (by rfl) rfl rfl (fun w hnew hne => ?_)
    replace hK := hnew
    replace h61' := (hne _ (by omega)).trans h61'
    replace ht := ht.go fun j q1 q2 => hne j (by omega)
    replace hC := hC.go fun j q1 q2 => hne j (by omega)
    replace hD := hD.go fun j q1 q2 => hne j (by omega)
    replace hfr := fun j (hj : j < 51) => (hne j (by omega)).trans (hfr j hj)
    clear hne
    refine x_aload_n (pc := 36) dX7_keep_36 rfl ?_
    refine x_getf (pc := 37) dX7_keep_37 kf_X7_115 (by first | assumption | exact hC.1 | exact hH.1 | exact hV0.1 | exact hT.1) (by rfl) ?_
    refine x_iret (pc := 40) dX7_keep_40 rfl rfl ?_
    refine va_i ⟨rfl, ⟨a, s, r, D, h1, h2, by simp; omega, ?_, ht, hC, ⟨_, h61', ?_, fun u hu => ?_, fun u hu => ?_⟩, hD⟩, hfr⟩
    · rw [show (K ++ [h]).length = K.length + 1 by simp]; exact hK
    · exact hr.mv ok.hl fun i hi => cyF_out (by omega)
    · exact (hL u hu).mv (ok.Ll _ (getD_memH hu)) fun i hi => cyF_out (by omega)
    · have hu' : u < K.length + 1 := by simpa using hu
      by_cases q : u = K.length
      · subst q
        have e : (K ++ [h]).getD K.length noH = h := by simp
        rw [e]
        exact hr.mv ok.hl fun i hi => by rw [cyF_in hi]
      · have e : (K ++ [h]).getD u noH = K.getD u noH := by
          rw [List.getD_eq_getElem?_getD, List.getD_eq_getElem?_getD, List.getElem?_append_left (by omega)]
        rw [e]
        exact (hKK u (by omega)).mv (ok.Kl _ (getD_memH (by omega))) fun i hi => cyF_out (by omega)
  · replace h_5 := Classical.not_not.mp h_5
    try first | rw [n_b1] at h_5 | rw [n_b00] at h_5 | rw [n_eq (by omega) (by omega)] at h_5
    rw [if_neg (by omega)]
    refine x_bipush (pc := 8) dX7_keep_8 (v := -3) (by decide) ?_
    refine x_iret (pc := 10) dX7_keep_10 rfl rfl ?_
    exact va_i ⟨rfl, hm0, fun _ _ => rfl⟩
theorem m_back {w : ax_W} {n : Nat} {T : List Nat} {C : Crt} {h : Hrg} {L K : List Hrg} (hm : isM w T C h L K) (ok : okX T C h L K) : Run m_X7_back 1 0 0 0 (l_ent m_X7_back [.ref 51]) [] w n (if 0 < K.length then PM (nI (K.length - 1)) T C (K.getD (K.length - 1) noH) [] K.dropLast w n else PM (-2) T C h L K w n) := by
  have hm0 := hm
  obtain ⟨a, s, r, D, h1, h2, h3, hK, ht, hC, ⟨f, h61, hr, hL, hKK⟩, hD⟩ := hm
  have hfr : ∀ j, j < 51 → w j = w j := fun _ _ => rfl
  refine x_aload_n (pc := 0) dX7_back_0 rfl ?_
  refine x_getf (pc := 1) dX7_back_1 kf_X7_115 (by first | assumption | exact hC.1 | exact hH.1 | exact hV0.1 | exact hT.1) (by rfl) ?_
  refine x_if_ne (pc := 4) dX7_back_4 (tgt := 10) (by decide) (fun h_4 => ?_) (fun h_4 => ?_)
  · skip
    try first | rw [n_b0] at h_4 | rw [n_eq0 (by omega)] at h_4
    rw [if_pos (by omega)]
    have hlp : 0 < K.length := by omega
    refine x_aload_n (pc := 10) dX7_back_10 rfl ?_
    refine x_dup (pc := 11) dX7_back_11 rfl ?_
    refine x_getf (pc := 12) dX7_back_12 kf_X7_115 (by first | assumption | exact hC.1 | exact hH.1 | exact hV0.1 | exact hT.1) (by rfl) ?_
    refine x_iconst (pc := 15) dX7_back_15 (v := nI 1) (by decide) ?_
    first | refine xn_isub (pc := 16) dX7_back_16 (by omega) ?_ | refine x_isub (pc := 16) dX7_back_16 ?_
    refine xw_puti (pc := 17) dX7_back_17 kf_X7_115 (by assumption) (by rfl) (by rfl) rfl rfl (fun w hnew hne => ?_)
    replace hK := hnew
    replace h61 := (hne _ (by omega)).trans h61
    replace ht := ht.go fun j q1 q2 => hne j (by omega)
    replace hC := hC.go fun j q1 q2 => hne j (by omega)
    replace hD := hD.go fun j q1 q2 => hne j (by omega)
    replace hfr := fun j (hj : j < 51) => (hne j (by omega)).trans (hfr j hj)
    clear hne
    refine x_aload_n (pc := 20) dX7_back_20 rfl ?_
    refine x_bipush (pc := 21) dX7_back_21 (v := nI 108) (by decide) ?_
    refine x_bipush (pc := 23) dX7_back_23 (v := nI 12) (by decide) ?_
    refine x_aload_n (pc := 25) dX7_back_25 rfl ?_
    refine x_getf (pc := 26) dX7_back_26 kf_X7_115 (by first | assumption | exact hC.1 | exact hH.1 | exact hV0.1 | exact hT.1) (by rfl) ?_
    first | refine xn_imul (pc := 29) dX7_back_29 ?_ | refine x_imul (pc := 29) dX7_back_29 ?_
    first | refine xn_iadd (pc := 30) dX7_back_30 ?_ | refine x_iadd (pc := 30) dX7_back_30 ?_
    refine x_iconst (pc := 31) dX7_back_31 (v := nI 0) (by decide) ?_
    refine x_cv2 (q1 := 0) (q2 := 0) (ci := 7) (pc := 32) dX7_back_32 ks_X7_121 (by first | assumption | exact hC.1 | exact hH.1 | exact hV0.1 | exact hT.1) (by rfl) (by omega) (by rfl) (by rfl) (by rfl) (m_copy hK h61 (by omega) (by omega) (by omega)) (vo_kk fun w hP => ?_)
    obtain ⟨h61', hq⟩ := hP
    replace hK := (hq _ (by decide)).trans hK
    replace ht := ht.go fun j _ _ => hq j (by omega)
    replace hC := hC.go fun j _ _ => hq j (by omega)
    replace hD := hD.go fun j _ _ => hq j (by omega)
    replace hfr := fun j (hj : j < 51) => (hq j (by omega)).trans (hfr j hj)
    clear h61
    have h61 := h61'
    clear hq
    refine x_aload_n (pc := 35) dX7_back_35 rfl ?_
    refine x_iconst (pc := 36) dX7_back_36 (v := nI 0) (by decide) ?_
    refine xw_puti (pc := 37) dX7_back_37 kf_X7_112 (by assumption) (by rfl) (by rfl) rfl rfl (fun w hnew hne => ?_)
    replace hK := hnew
    replace h61 := (hne _ (by omega)).trans h61
    replace ht := ht.go fun j q1 q2 => hne j (by omega)
    replace hC := hC.go fun j q1 q2 => hne j (by omega)
    replace hD := hD.go fun j q1 q2 => hne j (by omega)
    replace hfr := fun j (hj : j < 51) => (hne j (by omega)).trans (hfr j hj)
    clear hne
    refine x_aload_n (pc := 40) dX7_back_40 rfl ?_
    refine x_getf (pc := 41) dX7_back_41 kf_X7_115 (by first | assumption | exact hC.1 | exact hH.1 | exact hV0.1 | exact hT.1) (by rfl) ?_
    refine x_iret (pc := 44) dX7_back_44 rfl rfl ?_
    refine va_i ⟨rfl, ⟨a, s, r, D, h1, by decide, by simp; omega, ?_, ht, hC, ⟨_, h61, ?_, fun u hu => absurd hu (Nat.not_lt_zero u), fun u hu => ?_⟩, hD⟩, hfr⟩
    · rw [show K.dropLast.length = K.length - 1 by simp]; exact hK
    · exact (hKK (K.length - 1) (by omega)).mv (ok.Kl _ (getD_memH (by omega))) fun i hi => cyF_in hi
    · have hu' : u < K.length - 1 := by simpa using hu
      have e2 : K.dropLast.getD u noH = K.getD u noH := by
        rw [List.getD_eq_getElem?_getD, List.getD_eq_getElem?_getD, List.dropLast_eq_take, List.getElem?_take, if_pos hu']
      rw [e2]
      exact (hKK u (by omega)).mv (ok.Kl _ (getD_memH (by omega))) fun i hi => cyF_out (by omega)
  · replace h_4 := Classical.not_not.mp h_4
    try first | rw [n_b0] at h_4 | rw [n_eq0 (by omega)] at h_4
    rw [if_neg (by omega)]
    refine x_bipush (pc := 7) dX7_back_7 (v := -2) (by decide) ?_
    refine x_iret (pc := 9) dX7_back_9 rfl rfl ?_
    exact va_i ⟨rfl, hm0, fun _ _ => rfl⟩
