/-! what a text tells: a court; its cells, from the k-th on -/
abbrev Crt : Type := Nat × (Nat → Nat) × (Nat → Nat) × (Nat → Nat) × (Nat → Nat) × Nat × Nat × (Nat → Nat)
def cn (C : Crt) : Nat := C.1
def kd (C : Crt) : Nat → Nat := C.2.1
def co (C : Crt) : Nat → Nat := C.2.2.1
def sp (C : Crt) : Nat → Nat := C.2.2.2.1
def hg (C : Crt) : Nat → Nat := C.2.2.2.2.1
def vd (C : Crt) : Nat := C.2.2.2.2.2.1
def np (C : Crt) : Nat := C.2.2.2.2.2.2.1
def de (C : Crt) : Nat → Nat := C.2.2.2.2.2.2.2
/-- a court as the document lets it be -/
def okC (C : Crt) : Prop := cn C ≤ 10 ∧ np C ≤ 5 ∧ vd C < 2 ^ cn C ∧ (∀ a, a < cn C → kd C a ≤ 4 ∧ co C a ≤ 20 ∧ sp C a ≤ 20 ∧ hg C a < 2 ^ cn C) ∧ ∀ p, p < np C → de C p < 2 ^ cn C
theorem okC.lt {C : Crt} (h : okC C) : 2 ^ cn C ≤ 1024 := pow_le_10 h.1
theorem okC.vd {C : Crt} (h : okC C) : vd C < 1024 := Nat.lt_of_lt_of_le h.2.2.1 h.lt
theorem okC.hg {C : Crt} (h : okC C) {a : Nat} (ha : a < cn C) : hg C a < 1024 := Nat.lt_of_lt_of_le (h.2.2.2.1 a ha).2.2.2 h.lt
theorem okC.de {C : Crt} (h : okC C) {p : Nat} (hp : p < np C) : de C p < 1024 := Nat.lt_of_lt_of_le (h.2.2.2.2 p hp) h.lt
def isC (w : ax_W) (k : Nat) (C : Crt) : Prop := w k = ao 0 [.ref (k + 1), .ref (k + 2), .ref (k + 3), .ref (k + 4), .ref (k + 5), .int (nI (cn C)), .int (nI (vd C)), .int (nI (np C))] ∧
  ∃ f1 f2 f3 f4 f5 : Nat → Int32, w (k + 1) = ai 10 f1 ∧ w (k + 2) = ai 10 f2 ∧ w (k + 3) = ai 10 f3 ∧ w (k + 4) = ai 10 f4 ∧ w (k + 5) = ai 5 f5 ∧
    (∀ a, a < cn C → f1 a = nI (kd C a) ∧ f2 a = nI (co C a) ∧ f3 a = nI (sp C a) ∧ f4 a = nI (hg C a)) ∧ ∀ p, p < np C → f5 p = nI (de C p)
theorem isC.go {w w' : ax_W} {k : Nat} {C : Crt} (h : isC w k C) (hq : ∀ j, k ≤ j → j < k + 6 → w' j = w j) : isC w' k C := by
  obtain ⟨h0, f1, f2, f3, f4, f5, h1, h2, h3, h4, h5, h6⟩ := h
  exact ⟨by rw [hq _ (by omega) (by omega)]; exact h0, f1, f2, f3, f4, f5, by rw [hq _ (by omega) (by omega)]; exact h1, by rw [hq _ (by omega) (by omega)]; exact h2, by rw [hq _ (by omega) (by omega)]; exact h3, by rw [hq _ (by omega) (by omega)]; exact h4, by rw [hq _ (by omega) (by omega)]; exact h5, h6⟩
/-- x is one of the first n numbers -/
def inB (x : Int32) (n : Nat) : Bool := decide (¬ x < 0 ∧ x < nI n)
theorem inB_n {a n : Nat} (ha : a < 2147483648) (hn : n < 2147483648) : inB (nI a) n = decide (a < n) := by
  unfold inB
  congr 1
  exact propext ⟨fun h => (n_lt ha hn).mp h.2, fun h => ⟨nI_pos ha, (n_lt ha hn).mpr h⟩⟩
theorem inB_of {x : Int32} {n : Nat} (h : inB x n = true) (hn : n < 2147483648) : ∃ a, a < n ∧ x = nI a := by
  have h2 := of_decide_eq_true h
  obtain ⟨j, hj, rfl⟩ := nI_of h2.1
  exact ⟨j, (n_lt hj hn).mp h2.2, rfl⟩
/-- a number's two cases -/
theorem inB_cases (x : Int32) {n : Nat} (hn : n < 2147483648) : inB x n = false ∨ ∃ a, a < n ∧ x = nI a := by
  cases h : inB x n with
  | false => exact Or.inl rfl
  | true => exact Or.inr (inB_of h hn)
theorem c_isStatement {w : ax_W} {n k : Nat} {C : Crt} (hC : isC w k C) (x : Int32) : Run m_X0_isStatement 0 0 0 0 (l_ent m_X0_isStatement [.ref k, .int x]) [] w n (Pu (.int (nI (bN (inB x (cn C))))) w n) := by
  obtain ⟨hK, -⟩ := hC
  refine x_iload_n (pc := 0) dX0_isStatement_0 rfl ?_
  refine x_if_lt (pc := 1) dX0_isStatement_1 (tgt := 16) (by decide) (fun h_1 => ?_) (fun h_1 => ?_)
  · skip
    try first | rw [n_b0] at h_1 | rw [n_lt0 (by omega)] at h_1
    have hh : inB x (cn C) = false := by simp [inB, h_1]
    refine x_iconst (pc := 16) dX0_isStatement_16 (v := nI 0) (by decide) ?_
    refine x_zret (pc := 17) dX0_isStatement_17 rfl (by first | decide | exact bN_lt _ | omega) ?_
    exact pu_n (by rw [hh]; rfl)
  · skip
    try first | rw [n_b0] at h_1 | rw [n_lt0 (by omega)] at h_1
    refine x_iload_n (pc := 4) dX0_isStatement_4 rfl ?_
    refine x_aload_n (pc := 5) dX0_isStatement_5 rfl ?_
    refine x_getf (pc := 6) dX0_isStatement_6 kf_X0_27 (by assumption) (by rfl) ?_
    refine x_icmp_ge (pc := 9) dX0_isStatement_9 (tgt := 16) (by decide) (fun h_9 => ?_) (fun h_9 => ?_)
    · skip
      try first | rw [n_b1] at h_9 | rw [n_b00] at h_9 | rw [n_le (by omega) (by omega)] at h_9
      have hh : inB x (cn C) = false := by have := Int32.not_lt.mpr h_9; simp [inB, this]
      refine x_iconst (pc := 16) dX0_isStatement_16 (v := nI 0) (by decide) ?_
      refine x_zret (pc := 17) dX0_isStatement_17 rfl (by first | decide | exact bN_lt _ | omega) ?_
      exact pu_n (by rw [hh]; rfl)
    · skip
      try first | rw [n_b1] at h_9 | rw [n_b00] at h_9 | rw [n_le (by omega) (by omega)] at h_9
      have hh : inB x (cn C) = true := by have := Int32.not_le.mp h_9; simp [inB, this, h_1]
      refine x_iconst (pc := 12) dX0_isStatement_12 (v := nI 1) (by decide) ?_
      refine x_goto (pc := 13) dX0_isStatement_13 (tgt := 17) (by decide) ?_
      refine x_zret (pc := 17) dX0_isStatement_17 rfl (by first | decide | exact bN_lt _ | omega) ?_
      exact pu_n (by rw [hh]; rfl)
/-- is it a NIGHT -/
def ntB (C : Crt) (x : Int32) : Bool := inB x (cn C) && decide (kd C x.toNatClampNeg = 4)
theorem ntB_n {C : Crt} {a : Nat} (h : okC C) (ha : a < cn C) : ntB C (nI a) = decide (kd C a = 4) := by
  have := h.1
  unfold ntB
  rw [inB_n (by omega) (by omega), n_cl (by omega)]
  simp [ha]
theorem c_isNight {w : ax_W} {n k : Nat} {C : Crt} (hC : isC w k C) (ok : okC C) (x : Int32) : Run m_X0_isNight 1 0 0 0 (l_ent m_X0_isNight [.ref k, .int x]) [] w n (Pu (.int (nI (bN (ntB C x)))) w n) := by
  have hC0 := hC
  obtain ⟨hK, f1, f2, f3, f4, f5, g1, g2, g3, g4, g5, g6, g7⟩ := hC
  have hn := ok.1
  rcases inB_cases x (n := cn C) (by omega) with hx | ⟨a, ha, rfl⟩
  · refine x_aload_n (pc := 0) dX0_isNight_0 rfl ?_
    refine x_iload_n (pc := 1) dX0_isNight_1 rfl ?_
    refine x_cv1p (ci := 0) (pc := 2) dX0_isNight_2 ks_X0_51 (by assumption) (by rfl) (by omega) (by rfl) (by rfl) (by rfl) (c_isStatement hC0 _) ?_
    refine x_if_eq (pc := 5) dX0_isNight_5 (tgt := 24) (by decide) (fun h_5 => ?_) (fun h_5 => ?_)
    · skip
      try first | rw [n_b0] at h_5 | rw [n_eq0 (by omega)] at h_5
      refine x_iconst (pc := 24) dX0_isNight_24 (v := nI 0) (by decide) ?_
      refine x_zret (pc := 25) dX0_isNight_25 rfl (by first | decide | exact bN_lt _ | omega) ?_
      exact pu_n (by simp [ntB, hx, bN])
    · skip
      try first | rw [n_b0] at h_5 | rw [n_eq0 (by omega)] at h_5
      rw [hx] at h_5; exact absurd rfl h_5
  · have hx : inB (nI a) (cn C) = true := by rw [inB_n (by omega) (by omega)]; simpa using ha
    have hkd := (ok.2.2.2.1 a ha).1
    refine x_aload_n (pc := 0) dX0_isNight_0 rfl ?_
    refine x_iload_n (pc := 1) dX0_isNight_1 rfl ?_
    refine x_cv1p (ci := 0) (pc := 2) dX0_isNight_2 ks_X0_51 (by assumption) (by rfl) (by omega) (by rfl) (by rfl) (by rfl) (c_isStatement hC0 _) ?_
    refine x_if_eq (pc := 5) dX0_isNight_5 (tgt := 24) (by decide) (fun h_5 => ?_) (fun h_5 => ?_)
    · skip
      try first | rw [n_b0] at h_5 | rw [n_eq0 (by omega)] at h_5
      rw [hx] at h_5; cases h_5
    · skip
      try first | rw [n_b0] at h_5 | rw [n_eq0 (by omega)] at h_5
      refine x_aload_n (pc := 8) dX0_isNight_8 rfl ?_
      refine x_getf (pc := 9) dX0_isNight_9 kf_X0_9 (by assumption) (by rfl) ?_
      refine x_iload_n (pc := 12) dX0_isNight_12 rfl ?_
      refine x_cs2p (pc := 13) dX0_isNight_13 ks_X0_62 (by omega) (by rfl) (by rfl) (by rfl) (c_at (by assumption) (by omega) (by omega)) ?_
      rw [(g6 a ha).1]
      refine x_iconst (pc := 16) dX0_isNight_16 (v := nI 4) (by decide) ?_
      refine x_icmp_ne (pc := 17) dX0_isNight_17 (tgt := 24) (by decide) (fun h_17 => ?_) (fun h_17 => ?_)
      · skip
        try first | rw [n_b1] at h_17 | rw [n_b00] at h_17 | rw [n_eq (by omega) (by omega)] at h_17
        refine x_iconst (pc := 24) dX0_isNight_24 (v := nI 0) (by decide) ?_
        refine x_zret (pc := 25) dX0_isNight_25 rfl (by first | decide | exact bN_lt _ | omega) ?_
        exact pu_n (by rw [ntB_n ok ha]; simp [h_17, bN])
      · replace h_17 := Classical.not_not.mp h_17
        try first | rw [n_b1] at h_17 | rw [n_b00] at h_17 | rw [n_eq (by omega) (by omega)] at h_17
        refine x_iconst (pc := 20) dX0_isNight_20 (v := nI 1) (by decide) ?_
        refine x_goto (pc := 21) dX0_isNight_21 (tgt := 25) (by decide) ?_
        refine x_zret (pc := 25) dX0_isNight_25 rfl (by first | decide | exact bN_lt _ | omega) ?_
        exact pu_n (by rw [ntB_n ok ha]; simp [h_17, bN])
/-- is it a VERDICT -/
def vtB (C : Crt) (x : Int32) : Bool := inB x (cn C) && (vd C).testBit x.toNatClampNeg
theorem vtB_n {C : Crt} {a : Nat} (h : okC C) (ha : a < cn C) : vtB C (nI a) = (vd C).testBit a := by
  have := h.1
  unfold vtB
  rw [inB_n (by omega) (by omega), n_cl (by omega)]
  simp [ha]
theorem c_isVerdict {w : ax_W} {n k : Nat} {C : Crt} (hC : isC w k C) (ok : okC C) (x : Int32) : Run m_X0_isVerdict 1 0 0 0 (l_ent m_X0_isVerdict [.ref k, .int x]) [] w n (Pu (.int (nI (bN (vtB C x)))) w n) := by
  have hC0 := hC
  obtain ⟨hK, f1, f2, f3, f4, f5, g1, g2, g3, g4, g5, g6, g7⟩ := hC
  have hn := ok.1
  have hv := ok.vd
  rcases inB_cases x (n := cn C) (by omega) with hx | ⟨a, ha, rfl⟩
  · refine x_aload_n (pc := 0) dX0_isVerdict_0 rfl ?_
    refine x_iload_n (pc := 1) dX0_isVerdict_1 rfl ?_
    refine x_cv1p (ci := 0) (pc := 2) dX0_isVerdict_2 ks_X0_51 (by assumption) (by rfl) (by omega) (by rfl) (by rfl) (by rfl) (c_isStatement hC0 _) ?_
    refine x_if_eq (pc := 5) dX0_isVerdict_5 (tgt := 23) (by decide) (fun h_5 => ?_) (fun h_5 => ?_)
    · skip
      try first | rw [n_b0] at h_5 | rw [n_eq0 (by omega)] at h_5
      refine x_iconst (pc := 23) dX0_isVerdict_23 (v := nI 0) (by decide) ?_
      refine x_zret (pc := 24) dX0_isVerdict_24 rfl (by first | decide | exact bN_lt _ | omega) ?_
      exact pu_n (by simp [vtB, hx, bN])
    · skip
      try first | rw [n_b0] at h_5 | rw [n_eq0 (by omega)] at h_5
      rw [hx] at h_5; exact absurd rfl h_5
  · have hx : inB (nI a) (cn C) = true := by rw [inB_n (by omega) (by omega)]; simpa using ha
    refine x_aload_n (pc := 0) dX0_isVerdict_0 rfl ?_
    refine x_iload_n (pc := 1) dX0_isVerdict_1 rfl ?_
    refine x_cv1p (ci := 0) (pc := 2) dX0_isVerdict_2 ks_X0_51 (by assumption) (by rfl) (by omega) (by rfl) (by rfl) (by rfl) (c_isStatement hC0 _) ?_
    refine x_if_eq (pc := 5) dX0_isVerdict_5 (tgt := 23) (by decide) (fun h_5 => ?_) (fun h_5 => ?_)
    · skip
      try first | rw [n_b0] at h_5 | rw [n_eq0 (by omega)] at h_5
      rw [hx] at h_5; cases h_5
    · skip
      try first | rw [n_b0] at h_5 | rw [n_eq0 (by omega)] at h_5
      refine x_aload_n (pc := 8) dX0_isVerdict_8 rfl ?_
      refine x_getf (pc := 9) dX0_isVerdict_9 kf_X0_31 (by assumption) (by rfl) ?_
      refine x_iload_n (pc := 12) dX0_isVerdict_12 rfl ?_
      refine x_cs2p (pc := 13) dX0_isVerdict_13 ks_X0_66 (by omega) (by rfl) (by rfl) (by rfl) (c_has (by omega) (by omega)) ?_
      refine x_if_eq (pc := 16) dX0_isVerdict_16 (tgt := 23) (by decide) (fun h_16 => ?_) (fun h_16 => ?_)
      · skip
        try first | rw [n_b0] at h_16 | rw [n_eq0 (by omega)] at h_16
        have hh : (vd C).testBit a = false := h_16
        refine x_iconst (pc := 23) dX0_isVerdict_23 (v := nI 0) (by decide) ?_
        refine x_zret (pc := 24) dX0_isVerdict_24 rfl (by first | decide | exact bN_lt _ | omega) ?_
        exact pu_n (by rw [vtB_n ok ha, hh]; rfl)
      · skip
        try first | rw [n_b0] at h_16 | rw [n_eq0 (by omega)] at h_16
        have hh : (vd C).testBit a = true := by simpa using h_16
        refine x_iconst (pc := 19) dX0_isVerdict_19 (v := nI 1) (by decide) ?_
        refine x_goto (pc := 20) dX0_isVerdict_20 (tgt := 24) (by decide) ?_
        refine x_zret (pc := 24) dX0_isVerdict_24 rfl (by first | decide | exact bN_lt _ | omega) ?_
        exact pu_n (by rw [vtB_n ok ha, hh]; rfl)
theorem c_all {w : ax_W} {n k : Nat} {C : Crt} (hC : isC w k C) (ok : okC C) : Run m_X0_all 0 0 0 0 (l_ent m_X0_all [.ref k]) [] w n (Pu (.int (nI (2 ^ cn C - 1))) w n) := by
  obtain ⟨hK, -⟩ := hC
  have hn := ok.1
  have hp : 1 ≤ 2 ^ cn C := Nat.one_le_two_pow
  refine x_iconst (pc := 0) dX0_all_0 (v := nI 1) (by decide) ?_
  refine x_aload_n (pc := 1) dX0_all_1 rfl ?_
  refine x_getf (pc := 2) dX0_all_2 kf_X0_27 (by assumption) (by rfl) ?_
  first | refine xn_shl1 (pc := 5) dX0_all_5 (by omega) ?_ | refine xn_ishl (pc := 5) dX0_all_5 (by omega) (by omega) ?_ | refine x_ishl (pc := 5) dX0_all_5 ?_
  refine x_iconst (pc := 6) dX0_all_6 (v := nI 1) (by decide) ?_
  first | refine xn_isub (pc := 7) dX0_all_7 (by omega) ?_ | refine x_isub (pc := 7) dX0_all_7 ?_
  refine x_iret (pc := 8) dX0_all_8 rfl rfl ?_
  exact pu_n rfl
/-- those of the first n numbers of which f is true, as bits -/
def mkM (f : Nat → Bool) : Nat → Nat
  | 0 => 0
  | n + 1 => mkM f n ||| (if f n then 2 ^ n else 0)
theorem mkM_lt (f : Nat → Bool) : ∀ n, mkM f n < 2 ^ n
  | 0 => by simp [mkM]
  | n + 1 => by
    have h := mkM_lt f n
    have h2 : 2 ^ n < 2 ^ (n + 1) := pow_lt (by omega)
    simp only [mkM]
    refine Nat.or_lt_two_pow (by omega) ?_
    split <;> omega
theorem mkM_bit (f : Nat → Bool) (a : Nat) : ∀ n, (mkM f n).testBit a = (decide (a < n) && f a)
  | 0 => by simp [mkM]
  | n + 1 => by
    simp only [mkM]
    rw [Nat.testBit_or, mkM_bit f a n]
    by_cases hf : f n
    · rw [if_pos hf, b_pow]
      by_cases ha : n = a
      · subst ha; simp [hf]
      · have : (a < n + 1) ↔ a < n := by omega
        simp [ha, this]
    · rw [if_neg hf]
      by_cases ha : n = a
      · subst ha; simp [hf]
      · have : (a < n + 1) ↔ a < n := by omega
        simp [this]
/-- WHO could have done the NIGHT a -/
def whoS (C : Crt) (a : Nat) : Nat := mkM (fun p => (de C p).testBit a) (np C)
theorem whoS_lt {C : Crt} (ok : okC C) (a : Nat) : whoS C a < 32 := Nat.lt_of_lt_of_le (mkM_lt _ _) (Nat.pow_le_pow_right (by decide : 0 < 2) (show np C ≤ 5 from ok.2.1))
theorem c_doers {w : ax_W} {n k : Nat} {C : Crt} (hC : isC w k C) (ok : okC C) {a : Nat} (ha : a < 10) : Run m_X0_doers 1 0 0 0 (l_ent m_X0_doers [.ref k, .int (nI a)]) [] w n (Pu (.int (nI (whoS C a))) w n) := by
  obtain ⟨hK, f1, f2, f3, f4, f5, g1, g2, g3, g4, g5, g6, g7⟩ := hC
  have hn := ok.1
  have hp5 := ok.2.1
  have loop : ∀ m p, p + m = np C → Run m_X0_doers 1 0 0 4 [some (.ref k), some (.int (nI a)), some (.int (nI (mkM (fun p => (de C p).testBit a) p))), some (.int (nI p))] [] w n (Pu (.int (nI (whoS C a))) w n) := by
    intro m
    induction m with
    | zero =>
      intro p hp
      have hpp : p = np C := by omega
      subst hpp
      refine x_iload_n (pc := 4) dX0_doers_4 rfl ?_
      refine x_aload_n (pc := 5) dX0_doers_5 rfl ?_
      refine x_getf (pc := 6) dX0_doers_6 kf_X0_34 (by assumption) (by rfl) ?_
      refine x_icmp_ge_t (pc := 9) dX0_doers_9 (tgt := 39) (by decide) (nI_le (by omega) (by omega)) ?_
      refine x_iload_n (pc := 39) dX0_doers_39 rfl ?_
      refine x_iret (pc := 40) dX0_doers_40 rfl rfl ?_
      exact pu_n rfl
    | succ m ih =>
      intro p hp
      have hd := ok.de (show p < np C by omega)
      refine x_iload_n (pc := 4) dX0_doers_4 rfl ?_
      refine x_aload_n (pc := 5) dX0_doers_5 rfl ?_
      refine x_getf (pc := 6) dX0_doers_6 kf_X0_34 (by assumption) (by rfl) ?_
      refine x_icmp_ge_f (pc := 9) dX0_doers_9 (tgt := 39) (by decide) (nI_ge (by omega) (by omega)) ?_
      refine x_aload_n (pc := 12) dX0_doers_12 rfl ?_
      refine x_getf (pc := 13) dX0_doers_13 kf_X0_24 (by assumption) (by rfl) ?_
      refine x_iload_n (pc := 16) dX0_doers_16 rfl ?_
      refine x_cs2p (pc := 17) dX0_doers_17 ks_X0_62 (by omega) (by rfl) (by rfl) (by rfl) (c_at (by assumption) (by omega) (by omega)) ?_
      rw [g7 p (by omega)]
      refine x_iload_n (pc := 20) dX0_doers_20 rfl ?_
      refine x_cs2p (pc := 21) dX0_doers_21 ks_X0_66 (by omega) (by rfl) (by rfl) (by rfl) (c_has (by omega) (by omega)) ?_
      refine x_if_eq (pc := 24) dX0_doers_24 (tgt := 33) (by decide) (fun h_24 => ?_) (fun h_24 => ?_)
      · skip
        try first | rw [n_b0] at h_24 | rw [n_eq0 (by omega)] at h_24
        have hs : mkM (fun p => (de C p).testBit a) (p + 1) = mkM (fun p => (de C p).testBit a) p := by simp [mkM, h_24]
        refine xn_iinc (pc := 33) dX0_doers_33 rfl rfl ?_
        refine x_goto (pc := 36) dX0_doers_36 (tgt := 4) (by decide) ?_
        exact (by rw [← hs]; exact ih (p + 1) (by omega))
      · skip
        try first | rw [n_b0] at h_24 | rw [n_eq0 (by omega)] at h_24
        have hs : mkM (fun p => (de C p).testBit a) (p + 1) = mkM (fun p => (de C p).testBit a) p ||| 2 ^ p := by simp only [Bool.not_eq_false] at h_24; simp [mkM, h_24]
        refine x_iload_n (pc := 27) dX0_doers_27 rfl ?_
        refine x_iconst (pc := 28) dX0_doers_28 (v := nI 1) (by decide) ?_
        refine x_iload_n (pc := 29) dX0_doers_29 rfl ?_
        first | refine xn_shl1 (pc := 30) dX0_doers_30 (by omega) ?_ | refine xn_ishl (pc := 30) dX0_doers_30 (by omega) (by omega) ?_ | refine x_ishl (pc := 30) dX0_doers_30 ?_
        first | refine xn_ior (pc := 31) dX0_doers_31 ?_ | refine x_ior (pc := 31) dX0_doers_31 ?_
        refine x_istore_n (pc := 32) dX0_doers_32 rfl ?_
        refine xn_iinc (pc := 33) dX0_doers_33 rfl rfl ?_
        refine x_goto (pc := 36) dX0_doers_36 (tgt := 4) (by decide) ?_
        exact (by rw [← hs]; exact ih (p + 1) (by omega))
  refine x_iconst (pc := 0) dX0_doers_0 (v := nI 0) (by decide) ?_
  refine x_istore_n (pc := 1) dX0_doers_1 rfl ?_
  refine x_iconst (pc := 2) dX0_doers_2 (v := nI 0) (by decide) ?_
  refine x_istore_n (pc := 3) dX0_doers_3 rfl ?_
  exact loop (np C) 0 (by omega)
/-! COST and days of a row -/
/-- what the STATEMENT a costs, so far from the VERDICT, behind z -/
def cst (C : Crt) (z : Option Nat) (far a : Nat) : Nat := if kd C a = 1 then (if z.map (kd C) = some 1 then co C a + 2 else co C a) else if kd C a = 2 then 2 * co C a else if kd C a = 3 then co C a + far else co C a
theorem cst_le {C : Crt} (ok : okC C) {a : Nat} (ha : a < cn C) (z : Option Nat) (far : Nat) : cst C z far a ≤ 40 + far := by
  have h := (ok.2.2.2.1 a ha).2.1
  unfold cst
  split
  · split <;> omega
  · split
    · omega
    · split <;> omega
def prv (row : Nat → Nat) : Nat → Option Nat
  | 0 => none
  | k + 1 => some (row k)
/-- COST of the first k of a row -/
def cosA (C : Crt) (row : Nat → Nat) : Nat → Nat
  | 0 => 0
  | k + 1 => cosA C row k + cst C (prv row k) k (row k)
theorem cosA_le {C : Crt} (ok : okC C) {row : Nat → Nat} : ∀ {m}, (∀ j, j < m → row j < cn C) → m ≤ 10 → cosA C row m ≤ 50 * m
  | 0, _, _ => by simp [cosA]
  | m + 1, h, hm => by
    have h1 := cosA_le ok (row := row) (m := m) (fun j hj => h j (by omega)) (by omega)
    have h2 := cst_le ok (h m (by omega)) (prv row m) m
    simp only [cosA]
    omega
def dayA (C : Crt) (row : Nat → Nat) : Nat → Nat
  | 0 => 0
  | k + 1 => dayA C row k + sp C (row k)
theorem dayA_le {C : Crt} (ok : okC C) {row : Nat → Nat} : ∀ {m}, (∀ j, j < m → row j < cn C) → dayA C row m ≤ 20 * m
  | 0, _ => by simp [dayA]
  | m + 1, h => by
    have h1 := dayA_le ok (row := row) (m := m) (fun j hj => h j (by omega))
    have h2 := (ok.2.2.2.1 _ (h m (by omega))).2.2.1
    simp only [dayA]
    omega
theorem c_daysOf {w : ax_W} {n k : Nat} {C : Crt} (hC : isC w k C) (ok : okC C) {r : Nat} {fr : Nat → Int32} {row : Nat → Nat} {len : Nat} (hr : w r = ai 10 fr) (hlen : len ≤ 10) (hrow : ∀ j, j < len → fr j = nI (row j) ∧ row j < cn C) : Run m_X0_daysOf 1 0 0 0 (l_ent m_X0_daysOf [.ref k, .ref r, .int (nI len)]) [] w n (Pu (.int (nI (dayA C row len))) w n) := by
  obtain ⟨hK, f1, f2, f3, f4, f5, g1, g2, g3, g4, g5, g6, g7⟩ := hC
  have hn := ok.1
  have loop : ∀ m p, p + m = len → Run m_X0_daysOf 1 0 0 5 [some (.ref k), some (.ref r), some (.int (nI len)), some (.int (nI (dayA C row p))), some (.int (nI p))] [] w n (Pu (.int (nI (dayA C row len))) w n) := by
    intro m
    induction m with
    | zero =>
      intro p hp
      have hpp : p = len := by omega
      subst hpp
      refine x_iload (pc := 5) dX0_daysOf_5 rfl ?_
      refine x_iload_n (pc := 7) dX0_daysOf_7 rfl ?_
      refine x_icmp_ge_t (pc := 8) dX0_daysOf_8 (tgt := 33) (by decide) (nI_le (by omega) (by omega)) ?_
      refine x_iload_n (pc := 33) dX0_daysOf_33 rfl ?_
      refine x_iret (pc := 34) dX0_daysOf_34 rfl rfl ?_
      exact pu_n rfl
    | succ m ih =>
      intro p hp
      have hpr := hrow p (by omega)
      refine x_iload (pc := 5) dX0_daysOf_5 rfl ?_
      refine x_iload_n (pc := 7) dX0_daysOf_7 rfl ?_
      refine x_icmp_ge_f (pc := 8) dX0_daysOf_8 (tgt := 33) (by decide) (nI_ge (by omega) (by omega)) ?_
      refine x_iload_n (pc := 11) dX0_daysOf_11 rfl ?_
      refine x_aload_n (pc := 12) dX0_daysOf_12 rfl ?_
      refine x_getf (pc := 13) dX0_daysOf_13 kf_X0_18 (by assumption) (by rfl) ?_
      refine x_aload_n (pc := 16) dX0_daysOf_16 rfl ?_
      refine x_iload (pc := 17) dX0_daysOf_17 rfl ?_
      refine x_cs2p (pc := 19) dX0_daysOf_19 ks_X0_62 (by omega) (by rfl) (by rfl) (by rfl) (c_at (by assumption) (by omega) (by omega)) ?_
      rw [hpr.1]
      refine x_cs2p (pc := 22) dX0_daysOf_22 ks_X0_62 (by omega) (by rfl) (by rfl) (by rfl) (c_at (by assumption) (by omega) (by omega)) ?_
      rw [(g6 _ hpr.2).2.2.1]
      first | refine xn_iadd (pc := 25) dX0_daysOf_25 ?_ | refine x_iadd (pc := 25) dX0_daysOf_25 ?_
      refine x_istore_n (pc := 26) dX0_daysOf_26 rfl ?_
      refine xn_iinc (pc := 27) dX0_daysOf_27 rfl rfl ?_
      refine x_goto (pc := 30) dX0_daysOf_30 (tgt := 5) (by decide) ?_
      exact ih (p + 1) (by omega)
  refine x_iconst (pc := 0) dX0_daysOf_0 (v := nI 0) (by decide) ?_
  refine x_istore_n (pc := 1) dX0_daysOf_1 rfl ?_
  refine x_iconst (pc := 2) dX0_daysOf_2 (v := nI 0) (by decide) ?_
  refine x_istore (pc := 3) dX0_daysOf_3 rfl ?_
  exact loop len 0 (by omega)
def ahS (C : Crt) (row : Nat → Nat) : Nat → Int32
  | 0 => -4
  | q + 1 => nI (kd C (row q))
theorem ahS_1 {C : Crt} (ok : okC C) {row : Nat → Nat} {p : Nat} (h : ∀ j, j < p → row j < cn C) : ahS C row p = nI 1 ↔ (prv row p).map (kd C) = some 1 := by
  cases p with
  | zero => simp only [ahS, prv]; exact ⟨fun h => absurd h (by decide +kernel), fun h => by cases h⟩
  | succ q =>
    have h1 := (ok.2.2.2.1 _ (h q (by omega))).1
    simp only [ahS, prv, Option.map_some, Option.some.injEq]
    exact n_eq (by omega) (by omega)
theorem c_costOf {w : ax_W} {n k : Nat} {C : Crt} (hC : isC w k C) (ok : okC C) {r : Nat} {fr : Nat → Int32} {row : Nat → Nat} {len : Nat} (hr : w r = ai 10 fr) (hlen : len ≤ 10) (hrow : ∀ j, j < len → fr j = nI (row j) ∧ row j < cn C) : Run m_X0_costOf 1 0 0 0 (l_ent m_X0_costOf [.ref k, .ref r, .int (nI len)]) [] w n (Pu (.int (nI (cosA C row len))) w n) := by
  obtain ⟨hK, f1, f2, f3, f4, f5, g1, g2, g3, g4, g5, g6, g7⟩ := hC
  have hn := ok.1
  have loop : ∀ m p z6 z7, p + m = len → Run m_X0_costOf 1 0 0 9 [some (.ref k), some (.ref r), some (.int (nI len)), some (.int (nI (cosA C row p))), some (.int (ahS C row p)), some (.int (nI p)), z6, z7] [] w n (Pu (.int (nI (cosA C row len))) w n) := by
    intro m
    induction m with
    | zero =>
      intro p z6 z7 hp
      have hpp : p = len := by omega
      subst hpp
      refine x_iload (pc := 9) dX0_costOf_9 rfl ?_
      refine x_iload_n (pc := 11) dX0_costOf_11 rfl ?_
      refine x_icmp_ge_t (pc := 12) dX0_costOf_12 (tgt := 106) (by decide) (nI_le (by omega) (by omega)) ?_
      refine x_iload_n (pc := 106) dX0_costOf_106 rfl ?_
      refine x_iret (pc := 107) dX0_costOf_107 rfl rfl ?_
      exact pu_n rfl
    | succ m ih =>
      intro p z6 z7 hp
      have hpr := hrow p (by omega)
      have hkd := (ok.2.2.2.1 _ hpr.2).1
      have hah := ahS_1 ok (row := row) (p := p) (fun j hj => (hrow j (by omega)).2)
      refine x_iload (pc := 9) dX0_costOf_9 rfl ?_
      refine x_iload_n (pc := 11) dX0_costOf_11 rfl ?_
      refine x_icmp_ge_f (pc := 12) dX0_costOf_12 (tgt := 106) (by decide) (nI_ge (by omega) (by omega)) ?_
      refine x_aload_n (pc := 15) dX0_costOf_15 rfl ?_
      refine x_iload (pc := 16) dX0_costOf_16 rfl ?_
      refine x_cs2p (pc := 18) dX0_costOf_18 ks_X0_62 (by omega) (by rfl) (by rfl) (by rfl) (c_at (by assumption) (by omega) (by omega)) ?_
      rw [hpr.1]
      refine x_istore (pc := 21) dX0_costOf_21 rfl ?_
      refine x_aload_n (pc := 23) dX0_costOf_23 rfl ?_
      refine x_getf (pc := 24) dX0_costOf_24 kf_X0_9 (by assumption) (by rfl) ?_
      refine x_iload (pc := 27) dX0_costOf_27 rfl ?_
      refine x_cs2p (pc := 29) dX0_costOf_29 ks_X0_62 (by omega) (by rfl) (by rfl) (by rfl) (c_at (by assumption) (by omega) (by omega)) ?_
      rw [(g6 _ hpr.2).1]
      refine x_istore (pc := 32) dX0_costOf_32 rfl ?_
      refine x_iload_n (pc := 34) dX0_costOf_34 rfl ?_
      refine x_aload_n (pc := 35) dX0_costOf_35 rfl ?_
      refine x_getf (pc := 36) dX0_costOf_36 kf_X0_15 (by assumption) (by rfl) ?_
      refine x_iload (pc := 39) dX0_costOf_39 rfl ?_
      refine x_cs2p (pc := 41) dX0_costOf_41 ks_X0_62 (by omega) (by rfl) (by rfl) (by rfl) (c_at (by assumption) (by omega) (by omega)) ?_
      rw [(g6 _ hpr.2).2.1]
      first | refine xn_iadd (pc := 44) dX0_costOf_44 ?_ | refine x_iadd (pc := 44) dX0_costOf_44 ?_
      refine x_istore_n (pc := 45) dX0_costOf_45 rfl ?_
      refine x_iload (pc := 46) dX0_costOf_46 rfl ?_
      refine x_iconst (pc := 48) dX0_costOf_48 (v := nI 1) (by decide) ?_
      refine x_icmp_ne (pc := 49) dX0_costOf_49 (tgt := 64) (by decide) (fun h_49 => ?_) (fun h_49 => ?_)
      · skip
        try first | rw [n_b1] at h_49 | rw [n_b00] at h_49 | rw [n_eq (by omega) (by omega)] at h_49
        refine x_iload (pc := 64) dX0_costOf_64 rfl ?_
        refine x_iconst (pc := 66) dX0_costOf_66 (v := nI 2) (by decide) ?_
        refine x_icmp_ne (pc := 67) dX0_costOf_67 (tgt := 85) (by decide) (fun h_67 => ?_) (fun h_67 => ?_)
        · skip
          try first | rw [n_b1] at h_67 | rw [n_b00] at h_67 | rw [n_eq (by omega) (by omega)] at h_67
          refine x_iload (pc := 85) dX0_costOf_85 rfl ?_
          refine x_iconst (pc := 87) dX0_costOf_87 (v := nI 3) (by decide) ?_
          refine x_icmp_ne (pc := 88) dX0_costOf_88 (tgt := 96) (by decide) (fun h_88 => ?_) (fun h_88 => ?_)
          · skip
            try first | rw [n_b1] at h_88 | rw [n_b00] at h_88 | rw [n_eq (by omega) (by omega)] at h_88
            have e : cosA C row (p + 1) = cosA C row p + co C (row p) := by first | assumption | simp [cosA, cst, h_49, h_67, h_88]
            refine x_iload (pc := 96) dX0_costOf_96 rfl ?_
            refine x_istore (pc := 98) dX0_costOf_98 rfl ?_
            refine xn_iinc (pc := 100) dX0_costOf_100 rfl rfl ?_
            refine x_goto (pc := 103) dX0_costOf_103 (tgt := 9) (by decide) ?_
            exact (by rw [← e]; exact ih (p + 1) _ _ (by omega))
          · replace h_88 := Classical.not_not.mp h_88
            try first | rw [n_b1] at h_88 | rw [n_b00] at h_88 | rw [n_eq (by omega) (by omega)] at h_88
            have e : cosA C row (p + 1) = cosA C row p + co C (row p) + p := by simp only [cosA, cst]; rw [if_neg (by omega), if_neg (by omega), if_pos (by omega)]; omega
            refine x_iload_n (pc := 91) dX0_costOf_91 rfl ?_
            refine x_iload (pc := 92) dX0_costOf_92 rfl ?_
            first | refine xn_iadd (pc := 94) dX0_costOf_94 ?_ | refine x_iadd (pc := 94) dX0_costOf_94 ?_
            refine x_istore_n (pc := 95) dX0_costOf_95 rfl ?_
            refine x_iload (pc := 96) dX0_costOf_96 rfl ?_
            refine x_istore (pc := 98) dX0_costOf_98 rfl ?_
            refine xn_iinc (pc := 100) dX0_costOf_100 rfl rfl ?_
            refine x_goto (pc := 103) dX0_costOf_103 (tgt := 9) (by decide) ?_
            exact (by rw [← e]; exact ih (p + 1) _ _ (by omega))
        · replace h_67 := Classical.not_not.mp h_67
          try first | rw [n_b1] at h_67 | rw [n_b00] at h_67 | rw [n_eq (by omega) (by omega)] at h_67
          have e : cosA C row (p + 1) = cosA C row p + co C (row p) + co C (row p) := by simp only [cosA, cst]; rw [if_neg (by omega), if_pos (by omega)]; omega
          refine x_iload_n (pc := 70) dX0_costOf_70 rfl ?_
          refine x_aload_n (pc := 71) dX0_costOf_71 rfl ?_
          refine x_getf (pc := 72) dX0_costOf_72 kf_X0_15 (by assumption) (by rfl) ?_
          refine x_iload (pc := 75) dX0_costOf_75 rfl ?_
          refine x_cs2p (pc := 77) dX0_costOf_77 ks_X0_62 (by omega) (by rfl) (by rfl) (by rfl) (c_at (by assumption) (by omega) (by omega)) ?_
          rw [(g6 _ hpr.2).2.1]
          first | refine xn_iadd (pc := 80) dX0_costOf_80 ?_ | refine x_iadd (pc := 80) dX0_costOf_80 ?_
          refine x_istore_n (pc := 81) dX0_costOf_81 rfl ?_
          refine x_goto (pc := 82) dX0_costOf_82 (tgt := 96) (by decide) ?_
          refine x_iload (pc := 96) dX0_costOf_96 rfl ?_
          refine x_istore (pc := 98) dX0_costOf_98 rfl ?_
          refine xn_iinc (pc := 100) dX0_costOf_100 rfl rfl ?_
          refine x_goto (pc := 103) dX0_costOf_103 (tgt := 9) (by decide) ?_
          exact (by rw [← e]; exact ih (p + 1) _ _ (by omega))
      · replace h_49 := Classical.not_not.mp h_49
        try first | rw [n_b1] at h_49 | rw [n_b00] at h_49 | rw [n_eq (by omega) (by omega)] at h_49
        refine x_iload (pc := 52) dX0_costOf_52 rfl ?_
        refine x_iconst (pc := 54) dX0_costOf_54 (v := nI 1) (by decide) ?_
        refine x_icmp_ne (pc := 55) dX0_costOf_55 (tgt := 64) (by decide) (fun h_55 => ?_) (fun h_55 => ?_)
        · skip
          try first | rw [n_b1] at h_55 | rw [n_b00] at h_55 | rw [n_eq (by omega) (by omega)] at h_55
          rw [hah] at h_55
          have e : cosA C row (p + 1) = cosA C row p + co C (row p) := by simp [cosA, cst, h_49, h_55]
          refine x_iload (pc := 64) dX0_costOf_64 rfl ?_
          refine x_iconst (pc := 66) dX0_costOf_66 (v := nI 2) (by decide) ?_
          refine x_icmp_ne (pc := 67) dX0_costOf_67 (tgt := 85) (by decide) (fun h_67 => ?_) (fun h_67 => ?_)
          · skip
            try first | rw [n_b1] at h_67 | rw [n_b00] at h_67 | rw [n_eq (by omega) (by omega)] at h_67
            refine x_iload (pc := 85) dX0_costOf_85 rfl ?_
            refine x_iconst (pc := 87) dX0_costOf_87 (v := nI 3) (by decide) ?_
            refine x_icmp_ne (pc := 88) dX0_costOf_88 (tgt := 96) (by decide) (fun h_88 => ?_) (fun h_88 => ?_)
            · skip
              try first | rw [n_b1] at h_88 | rw [n_b00] at h_88 | rw [n_eq (by omega) (by omega)] at h_88
              have e : cosA C row (p + 1) = cosA C row p + co C (row p) := by first | assumption | simp [cosA, cst, h_49, h_67, h_88]
              refine x_iload (pc := 96) dX0_costOf_96 rfl ?_
              refine x_istore (pc := 98) dX0_costOf_98 rfl ?_
              refine xn_iinc (pc := 100) dX0_costOf_100 rfl rfl ?_
              refine x_goto (pc := 103) dX0_costOf_103 (tgt := 9) (by decide) ?_
              exact (by rw [← e]; exact ih (p + 1) _ _ (by omega))
            · replace h_88 := Classical.not_not.mp h_88
              try first | rw [n_b1] at h_88 | rw [n_b00] at h_88 | rw [n_eq (by omega) (by omega)] at h_88
              have e : cosA C row (p + 1) = cosA C row p + co C (row p) + p := by simp only [cosA, cst]; rw [if_neg (by omega), if_neg (by omega), if_pos (by omega)]; omega
              refine x_iload_n (pc := 91) dX0_costOf_91 rfl ?_
              refine x_iload (pc := 92) dX0_costOf_92 rfl ?_
              first | refine xn_iadd (pc := 94) dX0_costOf_94 ?_ | refine x_iadd (pc := 94) dX0_costOf_94 ?_
              refine x_istore_n (pc := 95) dX0_costOf_95 rfl ?_
              refine x_iload (pc := 96) dX0_costOf_96 rfl ?_
              refine x_istore (pc := 98) dX0_costOf_98 rfl ?_
              refine xn_iinc (pc := 100) dX0_costOf_100 rfl rfl ?_
              refine x_goto (pc := 103) dX0_costOf_103 (tgt := 9) (by decide) ?_
              exact (by rw [← e]; exact ih (p + 1) _ _ (by omega))
          · replace h_67 := Classical.not_not.mp h_67
            try first | rw [n_b1] at h_67 | rw [n_b00] at h_67 | rw [n_eq (by omega) (by omega)] at h_67
            have e : cosA C row (p + 1) = cosA C row p + co C (row p) + co C (row p) := by simp only [cosA, cst]; rw [if_neg (by omega), if_pos (by omega)]; omega
            refine x_iload_n (pc := 70) dX0_costOf_70 rfl ?_
            refine x_aload_n (pc := 71) dX0_costOf_71 rfl ?_
            refine x_getf (pc := 72) dX0_costOf_72 kf_X0_15 (by assumption) (by rfl) ?_
            refine x_iload (pc := 75) dX0_costOf_75 rfl ?_
            refine x_cs2p (pc := 77) dX0_costOf_77 ks_X0_62 (by omega) (by rfl) (by rfl) (by rfl) (c_at (by assumption) (by omega) (by omega)) ?_
            rw [(g6 _ hpr.2).2.1]
            first | refine xn_iadd (pc := 80) dX0_costOf_80 ?_ | refine x_iadd (pc := 80) dX0_costOf_80 ?_
            refine x_istore_n (pc := 81) dX0_costOf_81 rfl ?_
            refine x_goto (pc := 82) dX0_costOf_82 (tgt := 96) (by decide) ?_
            refine x_iload (pc := 96) dX0_costOf_96 rfl ?_
            refine x_istore (pc := 98) dX0_costOf_98 rfl ?_
            refine xn_iinc (pc := 100) dX0_costOf_100 rfl rfl ?_
            refine x_goto (pc := 103) dX0_costOf_103 (tgt := 9) (by decide) ?_
            exact (by rw [← e]; exact ih (p + 1) _ _ (by omega))
        · replace h_55 := Classical.not_not.mp h_55
          try first | rw [n_b1] at h_55 | rw [n_b00] at h_55 | rw [n_eq (by omega) (by omega)] at h_55
          rw [hah] at h_55
          have e : cosA C row (p + 1) = cosA C row p + co C (row p) + 2 := by simp only [cosA, cst]; rw [if_pos (by omega), if_pos (by simpa using h_55)]; omega
          refine xn_iinck (pc := 58) dX0_costOf_58 (y := 2) (by decide) rfl rfl ?_
          refine x_goto (pc := 61) dX0_costOf_61 (tgt := 96) (by decide) ?_
          refine x_iload (pc := 96) dX0_costOf_96 rfl ?_
          refine x_istore (pc := 98) dX0_costOf_98 rfl ?_
          refine xn_iinc (pc := 100) dX0_costOf_100 rfl rfl ?_
          refine x_goto (pc := 103) dX0_costOf_103 (tgt := 9) (by decide) ?_
          exact (by rw [← e]; exact ih (p + 1) _ _ (by omega))
  refine x_iconst (pc := 0) dX0_costOf_0 (v := nI 0) (by decide) ?_
  refine x_istore_n (pc := 1) dX0_costOf_1 rfl ?_
  refine x_bipush (pc := 2) dX0_costOf_2 (v := -4) (by decide) ?_
  refine x_istore (pc := 4) dX0_costOf_4 rfl ?_
  refine x_iconst (pc := 6) dX0_costOf_6 (v := nI 0) (by decide) ?_
  refine x_istore (pc := 7) dX0_costOf_7 rfl ?_
  exact loop len 0 _ _ (by omega)
