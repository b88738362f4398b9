/-! THE TEXT, and how it is read -/
def isT (w : ax_W) (k : Nat) (T : List Nat) : Prop := w k = ao 3 [.ref (k + 1), .int (nI T.length)] ∧ ∃ f : Nat → Int32, w (k + 1) = ai 200 f ∧ ∀ i, i < T.length → f i = nI (T.getD i 0)
def okT (T : List Nat) : Prop := T.length ≤ 200 ∧ ∀ i, i < T.length → 32 ≤ T.getD i 0 ∧ T.getD i 0 ≤ 126
theorem isT.go {w w' : ax_W} {k : Nat} {T : List Nat} (h : isT w k T) (hq : ∀ j, k ≤ j → j < k + 2 → w' j = w j) : isT w' k T := by
  obtain ⟨h0, f, h1, h2⟩ := h
  exact ⟨by rw [hq _ (by omega) (by omega)]; exact h0, f, by rw [hq _ (by omega) (by omega)]; exact h1, h2⟩
/-- the letter at a place, as an int -/
def ltI (T : List Nat) (p : Nat) : Int32 := if p < T.length then nI (T.getD p 0) else -4
/-- is a figure there -/
def dgB (T : List Nat) (p : Nat) : Bool := decide (p < T.length ∧ 48 ≤ T.getD p 0 ∧ T.getD p 0 ≤ 57)
theorem ltI_dg {T : List Nat} {p : Nat} (h : dgB T p = true) : ltI T p = nI (T.getD p 0) := if_pos (of_decide_eq_true h).1
theorem c_letterAt {w : ax_W} {n k : Nat} {T : List Nat} (hT : isT w k T) (ok : okT T) {p : Nat} (hp : p < 100000) : Run m_X3_letterAt 1 0 0 0 (l_ent m_X3_letterAt [.ref k, .int (nI p)]) [] w n (Pu (.int (ltI T p)) w n) := by
  obtain ⟨hK, f, g1, g2⟩ := hT
  have hl := ok.1
  refine x_iload_n (pc := 0) dX3_letterAt_0 rfl ?_
  refine x_aload_n (pc := 1) dX3_letterAt_1 rfl ?_
  refine x_getf (pc := 2) dX3_letterAt_2 kf_X3_15 (by assumption) (by rfl) ?_
  refine x_icmp_ge (pc := 5) dX3_letterAt_5 (tgt := 19) (by decide) (fun h_5 => ?_) (fun h_5 => ?_)
  · skip
    try first | rw [n_b1] at h_5 | rw [n_b00] at h_5 | rw [n_le (by omega) (by omega)] at h_5
    refine x_bipush (pc := 19) dX3_letterAt_19 (v := -4) (by decide) ?_
    refine x_iret (pc := 21) dX3_letterAt_21 rfl rfl ?_
    first | exact pu_i (by rw [ltI, if_pos (by omega)]; exact g2 _ (by omega)) | exact pu_i (by rw [ltI, if_neg (by omega)])
  · skip
    try first | rw [n_b1] at h_5 | rw [n_b00] at h_5 | rw [n_le (by omega) (by omega)] at h_5
    refine x_aload_n (pc := 8) dX3_letterAt_8 rfl ?_
    refine x_getf (pc := 9) dX3_letterAt_9 kf_X3_9 (by assumption) (by rfl) ?_
    refine x_iload_n (pc := 12) dX3_letterAt_12 rfl ?_
    refine x_cs2p (pc := 13) dX3_letterAt_13 ks_X3_36 (by omega) (by rfl) (by rfl) (by rfl) (c_at (by assumption) (by omega) (by omega)) ?_
    refine x_goto (pc := 16) dX3_letterAt_16 (tgt := 21) (by decide) ?_
    refine x_iret (pc := 21) dX3_letterAt_21 rfl rfl ?_
    first | exact pu_i (by rw [ltI, if_pos (by omega)]; exact g2 _ (by omega)) | exact pu_i (by rw [ltI, if_neg (by omega)])
def figI (x : Int32) : Bool := decide (¬ x < nI 48 ∧ ¬ nI 57 < x)
theorem figI_lt {T : List Nat} (ok : okT T) (p : Nat) : figI (ltI T p) = dgB T p := by
  unfold figI dgB ltI
  by_cases hp : p < T.length
  · have := ok.2 p hp
    simp only [if_pos hp]
    refine decide_eq_decide.mpr ?_
    rw [n_lt (by omega) (by omega), n_lt (by omega) (by omega)]
    exact ⟨fun h => by omega, fun h => by omega⟩
  · simp only [if_neg hp]
    refine (decide_eq_decide.mpr ?_ : _ = decide (p < T.length ∧ 48 ≤ T.getD p 0 ∧ T.getD p 0 ≤ 57))
    exact ⟨fun h => absurd h.1 (by decide +kernel), fun h => absurd h.1 hp⟩
theorem c_isFigure {w : ax_W} {n : Nat} (x : Int32) : Run m_X2_isFigure 0 0 0 0 (l_ent m_X2_isFigure [.int x]) [] w n (Pu (.int (nI (bN (figI x)))) w n) := by
  refine x_iload_n (pc := 0) dX2_isFigure_0 rfl ?_
  refine x_bipush (pc := 1) dX2_isFigure_1 (v := nI 48) (by decide) ?_
  refine x_icmp_lt (pc := 3) dX2_isFigure_3 (tgt := 16) (by decide) (fun h_3 => ?_) (fun h_3 => ?_)
  · skip
    try first | rw [n_b1] at h_3 | rw [n_b00] at h_3 | rw [n_lt (by omega) (by omega)] at h_3
    have hh : figI x = false := by simp [figI, h_3]
    refine x_iconst (pc := 16) dX2_isFigure_16 (v := nI 0) (by decide) ?_
    refine x_zret (pc := 17) dX2_isFigure_17 rfl (by first | decide | exact bN_lt _ | omega) ?_
    exact pu_n (by rw [hh]; rfl)
  · skip
    try first | rw [n_b1] at h_3 | rw [n_b00] at h_3 | rw [n_lt (by omega) (by omega)] at h_3
    refine x_iload_n (pc := 6) dX2_isFigure_6 rfl ?_
    refine x_bipush (pc := 7) dX2_isFigure_7 (v := nI 57) (by decide) ?_
    refine x_icmp_gt (pc := 9) dX2_isFigure_9 (tgt := 16) (by decide) (fun h_9 => ?_) (fun h_9 => ?_)
    · skip
      try first | rw [n_b1] at h_9 | rw [n_b00] at h_9 | rw [n_lt (by omega) (by omega)] at h_9
      have hh : figI x = false := by simp [figI, h_9]
      refine x_iconst (pc := 16) dX2_isFigure_16 (v := nI 0) (by decide) ?_
      refine x_zret (pc := 17) dX2_isFigure_17 rfl (by first | decide | exact bN_lt _ | omega) ?_
      exact pu_n (by rw [hh]; rfl)
    · skip
      try first | rw [n_b1] at h_9 | rw [n_b00] at h_9 | rw [n_lt (by omega) (by omega)] at h_9
      have hh : figI x = true := by simp only [figI]; exact decide_eq_true ⟨h_3, h_9⟩
      refine x_iconst (pc := 12) dX2_isFigure_12 (v := nI 1) (by decide) ?_
      refine x_goto (pc := 13) dX2_isFigure_13 (tgt := 17) (by decide) ?_
      refine x_zret (pc := 17) dX2_isFigure_17 rfl (by first | decide | exact bN_lt _ | omega) ?_
      exact pu_n (by rw [hh]; rfl)
/-- how many figures of a number stand there -/
def fgS (T : List Nat) (p : Nat) : Nat := if dgB T p then (if dgB T (p + 1) then 2 else 1) else 0
theorem fgS_le (T : List Nat) (p : Nat) : fgS T p ≤ 2 := by unfold fgS; split <;> (try split) <;> omega
theorem fgS_dg {T : List Nat} {p i : Nat} (h : i < fgS T p) : dgB T (p + i) = true := by
  unfold fgS at h
  by_cases h1 : dgB T p
  · rw [if_pos h1] at h
    by_cases h2 : dgB T (p + 1)
    · rw [if_pos h2] at h
      rcases (by omega : i = 0 ∨ i = 1) with rfl | rfl
      · exact h1
      · exact h2
    · rw [if_neg h2] at h
      rw [show i = 0 by omega]
      exact h1
  · rw [if_neg h1] at h
    omega
theorem c_figuresFrom {w : ax_W} {n k : Nat} {T : List Nat} (hT : isT w k T) (ok : okT T) {p : Nat} (hp : p < 10000) : Run m_X2_figuresFrom 2 0 0 0 (l_ent m_X2_figuresFrom [.ref k, .int (nI p)]) [] w n (Pu (.int (nI (fgS T p))) w n) := by
  have hT0 := hT
  obtain ⟨hK, f, g1, g2⟩ := hT
  refine x_aload_n (pc := 0) dX2_figuresFrom_0 rfl ?_
  refine x_iload_n (pc := 1) dX2_figuresFrom_1 rfl ?_
  refine x_cv1p (ci := 3) (pc := 2) dX2_figuresFrom_2 ks_X2_30 (by assumption) (by rfl) (by omega) (by rfl) (by rfl) (by rfl) (c_letterAt hT0 ok (by omega)) ?_
  refine x_cs1p (pc := 5) dX2_figuresFrom_5 ks_X2_52 (by omega) (by rfl) (by rfl) (by rfl) (c_isFigure _) ?_
  rw [figI_lt ok]
  refine x_if_ne (pc := 8) dX2_figuresFrom_8 (tgt := 13) (by decide) (fun h_8 => ?_) (fun h_8 => ?_)
  · skip
    try first | rw [n_b0] at h_8 | rw [n_eq0 (by omega)] at h_8
    refine x_aload_n (pc := 13) dX2_figuresFrom_13 rfl ?_
    refine x_iload_n (pc := 14) dX2_figuresFrom_14 rfl ?_
    refine x_iconst (pc := 15) dX2_figuresFrom_15 (v := nI 1) (by decide) ?_
    first | refine xn_iadd (pc := 16) dX2_figuresFrom_16 ?_ | refine x_iadd (pc := 16) dX2_figuresFrom_16 ?_
    refine x_cv1p (ci := 3) (pc := 17) dX2_figuresFrom_17 ks_X2_30 (by assumption) (by rfl) (by omega) (by rfl) (by rfl) (by rfl) (c_letterAt hT0 ok (by omega)) ?_
    refine x_cs1p (pc := 20) dX2_figuresFrom_20 ks_X2_52 (by omega) (by rfl) (by rfl) (by rfl) (c_isFigure _) ?_
    rw [figI_lt ok]
    refine x_if_eq (pc := 23) dX2_figuresFrom_23 (tgt := 30) (by decide) (fun h_23 => ?_) (fun h_23 => ?_)
    · skip
      try first | rw [n_b0] at h_23 | rw [n_eq0 (by omega)] at h_23
      have hh : fgS T p = 1 := by simp [fgS, h_8, h_23]
      refine x_iconst (pc := 30) dX2_figuresFrom_30 (v := nI 1) (by decide) ?_
      refine x_iret (pc := 31) dX2_figuresFrom_31 rfl rfl ?_
      exact pu_n hh.symm
    · skip
      try first | rw [n_b0] at h_23 | rw [n_eq0 (by omega)] at h_23
      have hh : fgS T p = 2 := by simp [fgS, h_8, h_23]
      refine x_iconst (pc := 26) dX2_figuresFrom_26 (v := nI 2) (by decide) ?_
      refine x_goto (pc := 27) dX2_figuresFrom_27 (tgt := 31) (by decide) ?_
      refine x_iret (pc := 31) dX2_figuresFrom_31 rfl rfl ?_
      exact pu_n hh.symm
  · replace h_8 := Classical.not_not.mp h_8
    try first | rw [n_b0] at h_8 | rw [n_eq0 (by omega)] at h_8
    have hh : fgS T p = 0 := by simp [fgS, h_8]
    refine x_iconst (pc := 11) dX2_figuresFrom_11 (v := nI 0) (by decide) ?_
    refine x_iret (pc := 12) dX2_figuresFrom_12 rfl rfl ?_
    exact pu_n hh.symm
/-- the number that these figures are -/
def numS (T : List Nat) (p : Nat) : Nat → Nat
  | 0 => 0
  | i + 1 => numS T p i * 10 + (T.getD (p + i) 0 - 48)
theorem numS_lt {T : List Nat} {p : Nat} : ∀ {g}, (∀ i, i < g → dgB T (p + i) = true) → numS T p g < 10 ^ g
  | 0, _ => by simp [numS]
  | g + 1, h => by
    have h1 := numS_lt (T := T) (p := p) (g := g) (fun i hi => h i (by omega))
    have h2 := of_decide_eq_true (h g (by omega))
    simp only [numS, Nat.pow_succ]
    omega
theorem num_100 {T : List Nat} {p : Nat} : numS T p (fgS T p) < 100 := by
  have h := numS_lt (T := T) (p := p) (g := fgS T p) (fun i hi => fgS_dg hi)
  have h2 : 10 ^ fgS T p ≤ 10 ^ 2 := Nat.pow_le_pow_right (by decide : 0 < 10) (fgS_le T p)
  omega
theorem c_numberFrom {w : ax_W} {n k : Nat} {T : List Nat} (hT : isT w k T) (ok : okT T) {p g : Nat} (hp : p < 10000) (hg : g ≤ 2) (hd : ∀ i, i < g → dgB T (p + i) = true) : Run m_X2_numberFrom 2 0 0 0 (l_ent m_X2_numberFrom [.ref k, .int (nI p), .int (nI g)]) [] w n (Pu (.int (nI (numS T p g))) w n) := by
  have hT0 := hT
  obtain ⟨hK, f, g1, g2⟩ := hT
  have loop : ∀ m i, i + m = g → Run m_X2_numberFrom 2 0 0 5 [some (.ref k), some (.int (nI p)), some (.int (nI g)), some (.int (nI (numS T p i))), some (.int (nI i))] [] w n (Pu (.int (nI (numS T p g))) w n) := by
    intro m
    induction m with
    | zero =>
      intro i hi
      have hii : i = g := by omega
      subst hii
      refine x_iload (pc := 5) dX2_numberFrom_5 rfl ?_
      refine x_iload_n (pc := 7) dX2_numberFrom_7 rfl ?_
      refine x_icmp_ge_t (pc := 8) dX2_numberFrom_8 (tgt := 34) (by decide) (nI_le (by omega) (by omega)) ?_
      refine x_iload_n (pc := 34) dX2_numberFrom_34 rfl ?_
      refine x_iret (pc := 35) dX2_numberFrom_35 rfl rfl ?_
      exact pu_n rfl
    | succ m ih =>
      intro i hi
      have hdi := hd i (by omega)
      have hdd := of_decide_eq_true hdi
      refine x_iload (pc := 5) dX2_numberFrom_5 rfl ?_
      refine x_iload_n (pc := 7) dX2_numberFrom_7 rfl ?_
      refine x_icmp_ge_f (pc := 8) dX2_numberFrom_8 (tgt := 34) (by decide) (nI_ge (by omega) (by omega)) ?_
      refine x_iload_n (pc := 11) dX2_numberFrom_11 rfl ?_
      refine x_bipush (pc := 12) dX2_numberFrom_12 (v := nI 10) (by decide) ?_
      first | refine xn_imul (pc := 14) dX2_numberFrom_14 ?_ | refine x_imul (pc := 14) dX2_numberFrom_14 ?_
      refine x_aload_n (pc := 15) dX2_numberFrom_15 rfl ?_
      refine x_iload_n (pc := 16) dX2_numberFrom_16 rfl ?_
      refine x_iload (pc := 17) dX2_numberFrom_17 rfl ?_
      first | refine xn_iadd (pc := 19) dX2_numberFrom_19 ?_ | refine x_iadd (pc := 19) dX2_numberFrom_19 ?_
      refine x_cv1p (ci := 3) (pc := 20) dX2_numberFrom_20 ks_X2_30 (by assumption) (by rfl) (by omega) (by rfl) (by rfl) (by rfl) (c_letterAt hT0 ok (by omega)) ?_
      rw [ltI_dg hdi]
      first | refine xn_iadd (pc := 23) dX2_numberFrom_23 ?_ | refine x_iadd (pc := 23) dX2_numberFrom_23 ?_
      refine x_bipush (pc := 24) dX2_numberFrom_24 (v := nI 48) (by decide) ?_
      first | refine xn_isub (pc := 26) dX2_numberFrom_26 (by omega) ?_ | refine x_isub (pc := 26) dX2_numberFrom_26 ?_
      refine x_istore_n (pc := 27) dX2_numberFrom_27 rfl ?_
      refine xn_iinc (pc := 28) dX2_numberFrom_28 rfl rfl ?_
      refine x_goto (pc := 31) dX2_numberFrom_31 (tgt := 5) (by decide) ?_
      have e : numS T p (i + 1) = numS T p i * 10 + T.getD (p + i) 0 - 48 := by simp only [numS]; omega
      exact (by rw [← e]; exact ih (i + 1) (by omega))
  refine x_iconst (pc := 0) dX2_numberFrom_0 (v := nI 0) (by decide) ?_
  refine x_istore_n (pc := 1) dX2_numberFrom_1 rfl ?_
  refine x_iconst (pc := 2) dX2_numberFrom_2 (v := nI 0) (by decide) ?_
  refine x_istore (pc := 3) dX2_numberFrom_3 rfl ?_
  exact loop g 0 (by omega)
/-- numbers parted by , with a ; behind the last: the numbers, and the place behind -/
def rdF (T : List Nat) : Nat → Nat → Option (List Nat × Nat)
  | 0, _ => none
  | m + 1, p => if fgS T p = 0 then none else if ltI T (p + fgS T p) = nI 59 then some ([numS T p (fgS T p)], p + fgS T p + 1)
    else if ltI T (p + fgS T p) = nI 44 then (rdF T m (p + fgS T p + 1)).map (fun q => (numS T p (fgS T p) :: q.1, q.2)) else none
theorem rdF_lt {T : List Nat} : ∀ {m p l e}, rdF T m p = some (l, e) → l.length ≤ m ∧ p < e ∧ e ≤ p + 3 * m ∧ ∀ x ∈ l, x < 100
  | 0, _, _, _, h => by simp [rdF] at h
  | m + 1, p, l, e, h => by
    have hg := fgS_le T p
    simp only [rdF] at h
    split at h
    · cases h
    · split at h
      · cases h
        exact ⟨by simp, by omega, by omega, fun x hx => by rw [List.mem_singleton.mp hx]; exact num_100⟩
      · split at h
        · cases hr : rdF T m (p + fgS T p + 1) with
          | none => rw [hr] at h; cases h
          | some q =>
            obtain ⟨l2, e2⟩ := q
            rw [hr] at h
            cases h
            obtain ⟨a1, a2, a3, a4⟩ := rdF_lt hr
            refine ⟨by simp; omega, by omega, by omega, fun x hx => ?_⟩
            rcases List.mem_cons.mp hx with rfl | hx
            · exact num_100
            · exact a4 x hx
        · cases h
def isR (w : ax_W) (k : Nat) (l : List Nat) : Prop := ∃ f : Nat → Int32, w k = ao 2 [.ref (k + 1), .int (nI l.length)] ∧ w (k + 1) = ai 3 f ∧ ∀ i, i < l.length → f i = nI (l.getD i 0)
def anyR (w : ax_W) (k : Nat) : Prop := ∃ (a : Int32) (f : Nat → Int32), w k = ao 2 [.ref (k + 1), .int a] ∧ w (k + 1) = ai 3 f
theorem isR.any {w : ax_W} {k : Nat} {l : List Nat} (h : isR w k l) : anyR w k := by
  obtain ⟨f, h1, h2, -⟩ := h
  exact ⟨_, f, h1, h2⟩
theorem c_readNumbers {w : ax_W} {n k s : Nat} {T : List Nat} (hR : anyR w k) (hT : isT w s T) (ok : okT T) (hks : k + 2 ≤ s ∨ s + 2 ≤ k) {p : Nat} (hp : p < 1000) : Run m_X2_readNumbers 3 0 0 0 (l_ent m_X2_readNumbers [.ref k, .ref s, .int (nI p)]) [] w n (Va (fun v w' => v = .int (match rdF T 3 p with | some q => nI q.2 | none => -4) ∧ anyR w' k ∧ (∀ q, rdF T 3 p = some q → isR w' k q.1) ∧ sameW w w' k 2) n) := by
  obtain ⟨a0, f0, hR1, hR2⟩ := hR
  have loop : ∀ m i pre p0 z5 z6 (wi : ax_W) (a : Int32) (f : Nat → Int32), i + m = 3 → pre.length = i → p0 < 5000 - 10 * m → (∀ j, (j < k ∨ k + 2 ≤ j) → wi j = w j) → wi k = ao 2 [.ref (k + 1), .int a] → wi (k + 1) = ai 3 f → (∀ j, j < i → f j = nI (pre.getD j 0)) →
      Run m_X2_readNumbers 3 0 0 5 [some (.ref k), some (.ref s), some (.int (nI p)), some (.int (nI p0)), some (.int (nI i)), z5, z6] [] wi n (Va (fun v w' => v = .int (match rdF T m p0 with | some q => nI q.2 | none => -4) ∧ anyR w' k ∧ (∀ q, rdF T m p0 = some q → isR w' k (pre ++ q.1)) ∧ sameW w w' k 2) n) := by
    intro m
    induction m with
    | zero =>
      intro i pre p0 z5 z6 w a f hi hpre hp0 hfr hK g1 g2
      refine x_iload (pc := 5) dX2_readNumbers_5 rfl ?_
      refine x_iconst (pc := 7) dX2_readNumbers_7 (v := nI 3) (by decide) ?_
      refine x_icmp_ge_t (pc := 8) dX2_readNumbers_8 (tgt := 96) (by decide) (nI_le (by omega) (by omega)) ?_
      refine x_bipush (pc := 96) dX2_readNumbers_96 (v := -4) (by decide) ?_
      refine x_iret (pc := 98) dX2_readNumbers_98 rfl rfl ?_
      exact va_i ⟨rfl, ⟨a, f, hK, g1⟩, fun q hq => by simp [rdF] at hq, hfr⟩
    | succ m ih =>
      intro i pre p0 z5 z6 w a f hi hpre hp0 hfr hK g1 g2
      have hT0 : isT w s T := hT.go fun j h1 h2 => hfr j (by omega)
      have hgl := fgS_le T p0
      have hn100 := num_100 (T := T) (p := p0)
      refine x_iload (pc := 5) dX2_readNumbers_5 rfl ?_
      refine x_iconst (pc := 7) dX2_readNumbers_7 (v := nI 3) (by decide) ?_
      refine x_icmp_ge_f (pc := 8) dX2_readNumbers_8 (tgt := 96) (by decide) (nI_ge (by omega) (by omega)) ?_
      refine x_aload_n (pc := 11) dX2_readNumbers_11 rfl ?_
      refine x_iload_n (pc := 12) dX2_readNumbers_12 rfl ?_
      refine x_cs2p (pc := 13) dX2_readNumbers_13 ks_X2_38 (by omega) (by rfl) (by rfl) (by rfl) (c_figuresFrom hT0 ok (by omega)) ?_
      refine x_istore (pc := 16) dX2_readNumbers_16 rfl ?_
      refine x_aload_n (pc := 18) dX2_readNumbers_18 rfl ?_
      refine x_getf (pc := 19) dX2_readNumbers_19 kf_X2_9 (by assumption) (by rfl) ?_
      refine x_iload (pc := 22) dX2_readNumbers_22 rfl ?_
      refine x_aload_n (pc := 24) dX2_readNumbers_24 rfl ?_
      refine x_iload_n (pc := 25) dX2_readNumbers_25 rfl ?_
      refine x_iload (pc := 26) dX2_readNumbers_26 rfl ?_
      refine x_cs3p (pc := 28) dX2_readNumbers_28 ks_X2_41 (by omega) (by rfl) (by rfl) (by rfl) (c_numberFrom hT0 ok (by omega) hgl (fun i hi => fgS_dg hi)) ?_
      refine x_cs3 (q1 := 0) (q2 := 0) (pc := 31) dX2_readNumbers_31 ks_X2_45 (by omega) (by rfl) (by rfl) (by rfl) (c_put (by assumption) (by omega) (by omega)) (vo_kk fun w hP => ?_)
      obtain ⟨hnew, hne⟩ := hP
      replace hK := (hne _ (by omega)).trans hK
      replace g1 := hnew
      replace hfr := fun j (hj : j < k ∨ k + 2 ≤ j) => (hne j (by omega)).trans (hfr j hj)
      clear hne
      refine x_aload_n (pc := 34) dX2_readNumbers_34 rfl ?_
      refine x_iload (pc := 35) dX2_readNumbers_35 rfl ?_
      refine x_iconst (pc := 37) dX2_readNumbers_37 (v := nI 1) (by decide) ?_
      first | refine xn_iadd (pc := 38) dX2_readNumbers_38 ?_ | refine x_iadd (pc := 38) dX2_readNumbers_38 ?_
      refine xw_puti (pc := 39) dX2_readNumbers_39 kf_X2_49 (by assumption) (by rfl) (by rfl) rfl rfl (fun w hnew hne => ?_)
      replace hK := hnew
      replace g1 := (hne _ (by omega)).trans g1
      replace hfr := fun j (hj : j < k ∨ k + 2 ≤ j) => (hne j (by omega)).trans (hfr j hj)
      clear hne
      have hT0 : isT w s T := hT.go fun j h1 h2 => hfr j (by omega)
      refine x_aload_n (pc := 42) dX2_readNumbers_42 rfl ?_
      refine x_iload_n (pc := 43) dX2_readNumbers_43 rfl ?_
      refine x_iload (pc := 44) dX2_readNumbers_44 rfl ?_
      first | refine xn_iadd (pc := 46) dX2_readNumbers_46 ?_ | refine x_iadd (pc := 46) dX2_readNumbers_46 ?_
      refine x_cv1p (ci := 3) (pc := 47) dX2_readNumbers_47 ks_X2_30 hT0.1 (by rfl) (by omega) (by rfl) (by rfl) (by rfl) (c_letterAt hT0 ok (by omega)) ?_
      refine x_istore (pc := 50) dX2_readNumbers_50 rfl ?_
      refine x_iload (pc := 52) dX2_readNumbers_52 rfl ?_
      refine x_if_eq (pc := 54) dX2_readNumbers_54 (tgt := 71) (by decide) (fun h_54 => ?_) (fun h_54 => ?_)
      · skip
        try first | rw [n_b0] at h_54 | rw [n_eq0 (by omega)] at h_54
        have hh : rdF T (m + 1) p0 = none := by simp [rdF, h_54]
        refine x_bipush (pc := 71) dX2_readNumbers_71 (v := -4) (by decide) ?_
        refine x_iret (pc := 73) dX2_readNumbers_73 rfl rfl ?_
        exact va_i ⟨by rw [hh], ⟨_, _, hK, g1⟩, fun q hq => (by rw [hh] at hq; cases hq), hfr⟩
      · skip
        try first | rw [n_b0] at h_54 | rw [n_eq0 (by omega)] at h_54
        refine x_iload (pc := 57) dX2_readNumbers_57 rfl ?_
        refine x_bipush (pc := 59) dX2_readNumbers_59 (v := nI 44) (by decide) ?_
        refine x_icmp_eq (pc := 61) dX2_readNumbers_61 (tgt := 74) (by decide) (fun h_61 => ?_) (fun h_61 => ?_)
        · skip
          try first | rw [n_b1] at h_61 | rw [n_b00] at h_61 | rw [n_eq (by omega) (by omega)] at h_61
          have h59 : ¬ ltI T (p0 + fgS T p0) = nI 59 := by rw [h_61]; decide +kernel
          refine x_iload_n (pc := 74) dX2_readNumbers_74 rfl ?_
          refine x_iload (pc := 75) dX2_readNumbers_75 rfl ?_
          refine x_iconst (pc := 77) dX2_readNumbers_77 (v := nI 1) (by decide) ?_
          first | refine xn_iadd (pc := 78) dX2_readNumbers_78 ?_ | refine x_iadd (pc := 78) dX2_readNumbers_78 ?_
          first | refine xn_iadd (pc := 79) dX2_readNumbers_79 ?_ | refine x_iadd (pc := 79) dX2_readNumbers_79 ?_
          refine x_istore_n (pc := 80) dX2_readNumbers_80 rfl ?_
          refine x_iload (pc := 81) dX2_readNumbers_81 rfl ?_
          refine x_bipush (pc := 83) dX2_readNumbers_83 (v := nI 59) (by decide) ?_
          refine x_icmp_ne_t (pc := 85) dX2_readNumbers_85 (tgt := 90) (by decide) h59 ?_
          refine xn_iinc (pc := 90) dX2_readNumbers_90 rfl rfl ?_
          refine x_goto (pc := 93) dX2_readNumbers_93 (tgt := 5) (by decide) ?_
          refine (ih (i + 1) (pre ++ [numS T p0 (fgS T p0)]) _ _ _ w _ _ (by omega) (by simp [hpre]) (by omega) hfr hK g1 ?_).mono ?_
          · intro j hj
            by_cases hji : j = i
            · subst hji
              rw [upd_same, ← hpre]
              simp
            · rw [upd_ne _ _ hji, g2 j (by omega)]
              congr 1
              rw [List.getD_eq_getElem?_getD, List.getD_eq_getElem?_getD, List.getElem?_append_left (by omega)]
          · intro r w' n' hq
            obtain ⟨v, e1, e2, e3, e4, e5, e6⟩ := hq
            refine ⟨v, e1, e2, ?_, e4, ?_, e6⟩
            · rw [e3]
              simp only [rdF, h_54, if_false, if_neg h59, h_61, if_true]
              rw [show p0 + (fgS T p0 + 1) = p0 + fgS T p0 + 1 by omega]
              cases rdF T m (p0 + fgS T p0 + 1) <;> rfl
            · intro q hq
              simp only [rdF, h_54, if_false, if_neg h59, h_61, if_true] at hq
              rw [show p0 + fgS T p0 + 1 = p0 + (fgS T p0 + 1) by omega] at hq
              cases hr : rdF T m (p0 + (fgS T p0 + 1)) with
              | none => rw [hr] at hq; cases hq
              | some q2 =>
                rw [hr] at hq
                cases hq
                have := e5 q2 hr
                rw [List.append_assoc] at this
                exact this
        · skip
          try first | rw [n_b1] at h_61 | rw [n_b00] at h_61 | rw [n_eq (by omega) (by omega)] at h_61
          refine x_iload (pc := 64) dX2_readNumbers_64 rfl ?_
          refine x_bipush (pc := 66) dX2_readNumbers_66 (v := nI 59) (by decide) ?_
          refine x_icmp_eq (pc := 68) dX2_readNumbers_68 (tgt := 74) (by decide) (fun h_68 => ?_) (fun h_68 => ?_)
          · skip
            try first | rw [n_b1] at h_68 | rw [n_b00] at h_68 | rw [n_eq (by omega) (by omega)] at h_68
            have hh : rdF T (m + 1) p0 = some ([numS T p0 (fgS T p0)], p0 + (fgS T p0 + 1)) := by simp [rdF, h_54, h_68]; omega
            refine x_iload_n (pc := 74) dX2_readNumbers_74 rfl ?_
            refine x_iload (pc := 75) dX2_readNumbers_75 rfl ?_
            refine x_iconst (pc := 77) dX2_readNumbers_77 (v := nI 1) (by decide) ?_
            first | refine xn_iadd (pc := 78) dX2_readNumbers_78 ?_ | refine x_iadd (pc := 78) dX2_readNumbers_78 ?_
            first | refine xn_iadd (pc := 79) dX2_readNumbers_79 ?_ | refine x_iadd (pc := 79) dX2_readNumbers_79 ?_
            refine x_istore_n (pc := 80) dX2_readNumbers_80 rfl ?_
            refine x_iload (pc := 81) dX2_readNumbers_81 rfl ?_
            refine x_bipush (pc := 83) dX2_readNumbers_83 (v := nI 59) (by decide) ?_
            refine x_icmp_ne_f (pc := 85) dX2_readNumbers_85 (tgt := 90) (by decide) (fun q => q h_68) ?_
            refine x_iload_n (pc := 88) dX2_readNumbers_88 rfl ?_
            refine x_iret (pc := 89) dX2_readNumbers_89 rfl rfl ?_
            refine va_i ⟨by rw [hh], ⟨_, _, hK, g1⟩, fun q hq => ?_, hfr⟩
            rw [hh] at hq
            cases hq
            refine ⟨_, ?_, g1, fun j hj => ?_⟩
            · rw [show (pre ++ [numS T p0 (fgS T p0)]).length = i + 1 by simp [hpre]]
              exact hK
            · have hj' : j < i + 1 := by simpa [hpre] using hj
              by_cases hji : j = i
              · subst hji
                rw [upd_same, ← hpre]
                simp
              · rw [upd_ne _ _ hji, g2 j (by omega)]
                congr 1
                rw [List.getD_eq_getElem?_getD, List.getD_eq_getElem?_getD, List.getElem?_append_left (by omega)]
          · skip
            try first | rw [n_b1] at h_68 | rw [n_b00] at h_68 | rw [n_eq (by omega) (by omega)] at h_68
            have hh : rdF T (m + 1) p0 = none := by simp [rdF, h_54, h_61, h_68]
            refine x_bipush (pc := 71) dX2_readNumbers_71 (v := -4) (by decide) ?_
            refine x_iret (pc := 73) dX2_readNumbers_73 rfl rfl ?_
            exact va_i ⟨by rw [hh], ⟨_, _, hK, g1⟩, fun q hq => (by rw [hh] at hq; cases hq), hfr⟩
  refine x_iload_n (pc := 0) dX2_readNumbers_0 rfl ?_
  refine x_istore_n (pc := 1) dX2_readNumbers_1 rfl ?_
  refine x_iconst (pc := 2) dX2_readNumbers_2 (v := nI 0) (by decide) ?_
  refine x_istore (pc := 3) dX2_readNumbers_3 rfl ?_
  exact loop 3 0 [] p _ _ w _ _ (by omega) rfl (by omega) (fun _ _ => rfl) hR1 hR2 (fun j hj => absurd hj (Nat.not_lt_zero j))
/-- an ITEM told to a court: none, if it is not so -/
def tlS (C : Crt) (c : Int32) (l : List Nat) : Option Crt :=
  if c = nI 115 then (if l.length = 3 ∧ okSt C (l.getD 0 0) (l.getD 1 0) (l.getD 2 0) = true then some (adS C (l.getD 0 0) (l.getD 1 0) (l.getD 2 0)) else none)
  else if c = nI 118 then (if l.length = 1 ∧ okVd C (l.getD 0 0) = true then some (adV C (l.getD 0 0)) else none)
  else if c = nI 114 then (if l.length = 2 ∧ okHg C (l.getD 0 0) (l.getD 1 0) = true then some (adH C (l.getD 0 0) (l.getD 1 0)) else none)
  else if c = nI 112 then (if l.length = 2 ∧ okPn C (l.getD 0 0) (l.getD 1 0) = true then some (adP C (l.getD 0 0) (l.getD 1 0)) else none)
  else none
theorem okC_tlS {C C' : Crt} (ok : okC C) {c : Int32} {l : List Nat} (h : tlS C c l = some C') : okC C' := by
  unfold tlS at h
  split at h
  · split at h
    · next q => cases h; exact okC_adS ok q.2
    · cases h
  · split at h
    · split at h
      · next q => cases h; exact okC_adV ok q.2
      · cases h
    · split at h
      · split at h
        · next q => cases h; exact okC_adH ok q.2
        · cases h
      · split at h
        · split at h
          · next q => cases h; exact okC_adP ok q.2
          · cases h
        · cases h
theorem tl_s (C : Crt) (l : List Nat) : tlS C (nI 115) l = if l.length = 3 ∧ okSt C (l.getD 0 0) (l.getD 1 0) (l.getD 2 0) = true then some (adS C (l.getD 0 0) (l.getD 1 0) (l.getD 2 0)) else none := if_pos rfl
theorem tl_v (C : Crt) (l : List Nat) : tlS C (nI 118) l = if l.length = 1 ∧ okVd C (l.getD 0 0) = true then some (adV C (l.getD 0 0)) else none := by
  unfold tlS
  rw [if_neg (by decide +kernel), if_pos rfl]
theorem tl_r (C : Crt) (l : List Nat) : tlS C (nI 114) l = if l.length = 2 ∧ okHg C (l.getD 0 0) (l.getD 1 0) = true then some (adH C (l.getD 0 0) (l.getD 1 0)) else none := by
  unfold tlS
  rw [if_neg (by decide +kernel), if_neg (by decide +kernel), if_pos rfl]
theorem tl_p (C : Crt) (l : List Nat) : tlS C (nI 112) l = if l.length = 2 ∧ okPn C (l.getD 0 0) (l.getD 1 0) = true then some (adP C (l.getD 0 0) (l.getD 1 0)) else none := by
  unfold tlS
  rw [if_neg (by decide +kernel), if_neg (by decide +kernel), if_neg (by decide +kernel), if_pos rfl]
theorem tl_no {C : Crt} {l : List Nat} {c : Int32} (h1 : ¬ c = nI 115) (h2 : ¬ c = nI 118) (h3 : ¬ c = nI 114) (h4 : ¬ c = nI 112) : tlS C c l = none := by
  unfold tlS
  rw [if_neg h1, if_neg h2, if_neg h3, if_neg h4]
theorem c_tell {w : ax_W} {n k s : Nat} {C : Crt} {l : List Nat} (hR : isR w k l) (hC : isC w s C) (ok : okC C) (hl : ∀ x ∈ l, x < 100) (hl3 : l.length ≤ 3) (hks : k + 2 ≤ s ∨ s + 6 ≤ k) (c : Int32) : Run m_X2_tell 3 0 0 0 (l_ent m_X2_tell [.ref k, .int c, .ref s]) [] w n (Va (fun v w' => v = .int (nI (bN (tlS C c l).isSome)) ∧ isC w' s ((tlS C c l).getD C) ∧ sameW w w' s 6) n) := by
  obtain ⟨f, hK, g1, g2⟩ := hR
  have hC0 := hC
  obtain ⟨hKs, -⟩ := hC
  have hx : ∀ i, l.getD i 0 < 100 := by
    intro i
    by_cases hi : i < l.length
    · rw [List.getD_eq_getElem?_getD, List.getElem?_eq_getElem hi]
      exact hl _ (List.getElem_mem hi)
    · rw [List.getD_eq_getElem?_getD, List.getElem?_eq_none (by omega)]
      decide
  refine x_aload_n (pc := 0) dX2_tell_0 rfl ?_
  refine x_getf (pc := 1) dX2_tell_1 kf_X2_9 (by assumption) (by rfl) ?_
  refine x_iconst (pc := 4) dX2_tell_4 (v := nI 0) (by decide) ?_
  refine x_cs2p (pc := 5) dX2_tell_5 ks_X2_56 (by omega) (by rfl) (by rfl) (by rfl) (c_at (by assumption) (by omega) (by omega)) ?_
  refine x_istore_n (pc := 8) dX2_tell_8 rfl ?_
  refine x_aload_n (pc := 9) dX2_tell_9 rfl ?_
  refine x_getf (pc := 10) dX2_tell_10 kf_X2_9 (by assumption) (by rfl) ?_
  refine x_iconst (pc := 13) dX2_tell_13 (v := nI 1) (by decide) ?_
  refine x_cs2p (pc := 14) dX2_tell_14 ks_X2_56 (by omega) (by rfl) (by rfl) (by rfl) (c_at (by assumption) (by omega) (by omega)) ?_
  refine x_istore (pc := 17) dX2_tell_17 rfl ?_
  refine x_aload_n (pc := 19) dX2_tell_19 rfl ?_
  refine x_getf (pc := 20) dX2_tell_20 kf_X2_9 (by assumption) (by rfl) ?_
  refine x_iconst (pc := 23) dX2_tell_23 (v := nI 2) (by decide) ?_
  refine x_cs2p (pc := 24) dX2_tell_24 ks_X2_56 (by omega) (by rfl) (by rfl) (by rfl) (c_at (by assumption) (by omega) (by omega)) ?_
  refine x_istore (pc := 27) dX2_tell_27 rfl ?_
  refine x_iload_n (pc := 29) dX2_tell_29 rfl ?_
  by_cases h115 : c = nI 115
  · subst h115
    refine x_tableIn (pc := 30) dX2_tell_30 (tgt := 72) (off := 42) (by decide +kernel) (by decide +kernel) (by decide +kernel) (by decide) ?_
    refine x_aload_n (pc := 72) dX2_tell_72 rfl ?_
    refine x_getf (pc := 73) dX2_tell_73 kf_X2_49 (by assumption) (by rfl) ?_
    refine x_iconst (pc := 76) dX2_tell_76 (v := nI 3) (by decide) ?_
    refine x_icmp_ne (pc := 77) dX2_tell_77 (tgt := 96) (by decide) (fun h_77 => ?_) (fun h_77 => ?_)
    · skip
      try first | rw [n_b1] at h_77 | rw [n_b00] at h_77 | rw [n_eq (by omega) (by omega)] at h_77
      have hh : tlS C (nI 115) l = none := by rw [tl_s, if_neg (fun q => h_77 q.1)]
      refine x_iconst (pc := 96) dX2_tell_96 (v := nI 0) (by decide) ?_
      refine x_zret (pc := 97) dX2_tell_97 rfl (by first | decide | exact bN_lt _ | omega) ?_
      first | exact va_i ⟨by rw [hh]; rfl, by rw [hh]; exact hC2, hfr⟩ | exact va_i ⟨by rw [hh]; rfl, by rw [hh]; exact hC0, fun _ _ => rfl⟩
    · replace h_77 := Classical.not_not.mp h_77
      try first | rw [n_b1] at h_77 | rw [n_b00] at h_77 | rw [n_eq (by omega) (by omega)] at h_77
      rw [g2 0 (by omega), g2 1 (by omega), g2 2 (by omega)]
      refine x_aload_n (pc := 80) dX2_tell_80 rfl ?_
      refine x_iload_n (pc := 81) dX2_tell_81 rfl ?_
      refine x_iload (pc := 82) dX2_tell_82 rfl ?_
      refine x_iload (pc := 84) dX2_tell_84 rfl ?_
      refine x_cv3 (q1 := 0) (q2 := 0) (ci := 0) (pc := 86) dX2_tell_86 ks_X2_60 (by assumption) (by rfl) (by omega) (by rfl) (by rfl) (by rfl) (c_addStatement hC0 ok (hx 0) (hx 1) (hx 2)) (va_kk fun v w hP => ?_)
      obtain ⟨rfl, hC2, hfr⟩ := hP
      refine x_if_eq (pc := 89) dX2_tell_89 (tgt := 96) (by decide) (fun h_89 => ?_) (fun h_89 => ?_)
      · skip
        try first | rw [n_b0] at h_89 | rw [n_eq0 (by omega)] at h_89
        have hh : tlS C (nI 115) l = none := by rw [tl_s, if_neg (fun q => by rw [h_89] at q; cases q.2)]
        rw [h_89] at hC2
        refine x_iconst (pc := 96) dX2_tell_96 (v := nI 0) (by decide) ?_
        refine x_zret (pc := 97) dX2_tell_97 rfl (by first | decide | exact bN_lt _ | omega) ?_
        first | exact va_i ⟨by rw [hh]; rfl, by rw [hh]; exact hC2, hfr⟩ | exact va_i ⟨by rw [hh]; rfl, by rw [hh]; exact hC0, fun _ _ => rfl⟩
      · skip
        try first | rw [n_b0] at h_89 | rw [n_eq0 (by omega)] at h_89
        simp only [Bool.not_eq_false] at h_89
        have hh := tl_s C l
        rw [if_pos ⟨h_77, h_89⟩] at hh
        rw [h_89] at hC2
        refine x_iconst (pc := 92) dX2_tell_92 (v := nI 1) (by decide) ?_
        refine x_goto (pc := 93) dX2_tell_93 (tgt := 97) (by decide) ?_
        refine x_zret (pc := 97) dX2_tell_97 rfl (by first | decide | exact bN_lt _ | omega) ?_
        first | exact va_i ⟨by rw [hh]; rfl, by rw [hh]; exact hC2, hfr⟩ | exact va_i ⟨by rw [hh]; rfl, by rw [hh]; exact hC0, fun _ _ => rfl⟩
  by_cases h118 : c = nI 118
  · subst h118
    refine x_tableIn (pc := 30) dX2_tell_30 (tgt := 98) (off := 68) (by decide +kernel) (by decide +kernel) (by decide +kernel) (by decide) ?_
    refine x_aload_n (pc := 98) dX2_tell_98 rfl ?_
    refine x_getf (pc := 99) dX2_tell_99 kf_X2_49 (by assumption) (by rfl) ?_
    refine x_iconst (pc := 102) dX2_tell_102 (v := nI 1) (by decide) ?_
    refine x_icmp_ne (pc := 103) dX2_tell_103 (tgt := 118) (by decide) (fun h_103 => ?_) (fun h_103 => ?_)
    · skip
      try first | rw [n_b1] at h_103 | rw [n_b00] at h_103 | rw [n_eq (by omega) (by omega)] at h_103
      have hh : tlS C (nI 118) l = none := by rw [tl_v, if_neg (fun q => h_103 q.1)]
      refine x_iconst (pc := 118) dX2_tell_118 (v := nI 0) (by decide) ?_
      refine x_zret (pc := 119) dX2_tell_119 rfl (by first | decide | exact bN_lt _ | omega) ?_
      first | exact va_i ⟨by rw [hh]; rfl, by rw [hh]; exact hC2, hfr⟩ | exact va_i ⟨by rw [hh]; rfl, by rw [hh]; exact hC0, fun _ _ => rfl⟩
    · replace h_103 := Classical.not_not.mp h_103
      try first | rw [n_b1] at h_103 | rw [n_b00] at h_103 | rw [n_eq (by omega) (by omega)] at h_103
      rw [g2 0 (by omega)]
      refine x_aload_n (pc := 106) dX2_tell_106 rfl ?_
      refine x_iload_n (pc := 107) dX2_tell_107 rfl ?_
      refine x_cv1 (q1 := 0) (q2 := 0) (ci := 0) (pc := 108) dX2_tell_108 ks_X2_64 (by assumption) (by rfl) (by omega) (by rfl) (by rfl) (by rfl) (c_addVerdict hC0 ok (hx 0)) (va_kk fun v w hP => ?_)
      obtain ⟨rfl, hC2, hfr⟩ := hP
      refine x_if_eq (pc := 111) dX2_tell_111 (tgt := 118) (by decide) (fun h_111 => ?_) (fun h_111 => ?_)
      · skip
        try first | rw [n_b0] at h_111 | rw [n_eq0 (by omega)] at h_111
        have hh : tlS C (nI 118) l = none := by rw [tl_v, if_neg (fun q => by rw [h_111] at q; cases q.2)]
        rw [h_111] at hC2
        refine x_iconst (pc := 118) dX2_tell_118 (v := nI 0) (by decide) ?_
        refine x_zret (pc := 119) dX2_tell_119 rfl (by first | decide | exact bN_lt _ | omega) ?_
        first | exact va_i ⟨by rw [hh]; rfl, by rw [hh]; exact hC2, hfr⟩ | exact va_i ⟨by rw [hh]; rfl, by rw [hh]; exact hC0, fun _ _ => rfl⟩
      · skip
        try first | rw [n_b0] at h_111 | rw [n_eq0 (by omega)] at h_111
        simp only [Bool.not_eq_false] at h_111
        have hh := tl_v C l
        rw [if_pos ⟨h_103, h_111⟩] at hh
        rw [h_111] at hC2
        refine x_iconst (pc := 114) dX2_tell_114 (v := nI 1) (by decide) ?_
        refine x_goto (pc := 115) dX2_tell_115 (tgt := 119) (by decide) ?_
        refine x_zret (pc := 119) dX2_tell_119 rfl (by first | decide | exact bN_lt _ | omega) ?_
        first | exact va_i ⟨by rw [hh]; rfl, by rw [hh]; exact hC2, hfr⟩ | exact va_i ⟨by rw [hh]; rfl, by rw [hh]; exact hC0, fun _ _ => rfl⟩
  by_cases h114 : c = nI 114
  · subst h114
    refine x_tableIn (pc := 30) dX2_tell_30 (tgt := 120) (off := 90) (by decide +kernel) (by decide +kernel) (by decide +kernel) (by decide) ?_
    refine x_aload_n (pc := 120) dX2_tell_120 rfl ?_
    refine x_getf (pc := 121) dX2_tell_121 kf_X2_49 (by assumption) (by rfl) ?_
    refine x_iconst (pc := 124) dX2_tell_124 (v := nI 2) (by decide) ?_
    refine x_icmp_ne (pc := 125) dX2_tell_125 (tgt := 142) (by decide) (fun h_125 => ?_) (fun h_125 => ?_)
    · skip
      try first | rw [n_b1] at h_125 | rw [n_b00] at h_125 | rw [n_eq (by omega) (by omega)] at h_125
      have hh : tlS C (nI 114) l = none := by rw [tl_r, if_neg (fun q => h_125 q.1)]
      refine x_iconst (pc := 142) dX2_tell_142 (v := nI 0) (by decide) ?_
      refine x_zret (pc := 143) dX2_tell_143 rfl (by first | decide | exact bN_lt _ | omega) ?_
      first | exact va_i ⟨by rw [hh]; rfl, by rw [hh]; exact hC2, hfr⟩ | exact va_i ⟨by rw [hh]; rfl, by rw [hh]; exact hC0, fun _ _ => rfl⟩
    · replace h_125 := Classical.not_not.mp h_125
      try first | rw [n_b1] at h_125 | rw [n_b00] at h_125 | rw [n_eq (by omega) (by omega)] at h_125
      rw [g2 0 (by omega), g2 1 (by omega)]
      refine x_aload_n (pc := 128) dX2_tell_128 rfl ?_
      refine x_iload_n (pc := 129) dX2_tell_129 rfl ?_
      refine x_iload (pc := 130) dX2_tell_130 rfl ?_
      refine x_cv2 (q1 := 0) (q2 := 0) (ci := 0) (pc := 132) dX2_tell_132 ks_X2_67 (by assumption) (by rfl) (by omega) (by rfl) (by rfl) (by rfl) (c_addHang hC0 ok (hx 0) (hx 1)) (va_kk fun v w hP => ?_)
      obtain ⟨rfl, hC2, hfr⟩ := hP
      refine x_if_eq (pc := 135) dX2_tell_135 (tgt := 142) (by decide) (fun h_135 => ?_) (fun h_135 => ?_)
      · skip
        try first | rw [n_b0] at h_135 | rw [n_eq0 (by omega)] at h_135
        have hh : tlS C (nI 114) l = none := by rw [tl_r, if_neg (fun q => by rw [h_135] at q; cases q.2)]
        rw [h_135] at hC2
        refine x_iconst (pc := 142) dX2_tell_142 (v := nI 0) (by decide) ?_
        refine x_zret (pc := 143) dX2_tell_143 rfl (by first | decide | exact bN_lt _ | omega) ?_
        first | exact va_i ⟨by rw [hh]; rfl, by rw [hh]; exact hC2, hfr⟩ | exact va_i ⟨by rw [hh]; rfl, by rw [hh]; exact hC0, fun _ _ => rfl⟩
      · skip
        try first | rw [n_b0] at h_135 | rw [n_eq0 (by omega)] at h_135
        simp only [Bool.not_eq_false] at h_135
        have hh := tl_r C l
        rw [if_pos ⟨h_125, h_135⟩] at hh
        rw [h_135] at hC2
        refine x_iconst (pc := 138) dX2_tell_138 (v := nI 1) (by decide) ?_
        refine x_goto (pc := 139) dX2_tell_139 (tgt := 143) (by decide) ?_
        refine x_zret (pc := 143) dX2_tell_143 rfl (by first | decide | exact bN_lt _ | omega) ?_
        first | exact va_i ⟨by rw [hh]; rfl, by rw [hh]; exact hC2, hfr⟩ | exact va_i ⟨by rw [hh]; rfl, by rw [hh]; exact hC0, fun _ _ => rfl⟩
  by_cases h112 : c = nI 112
  · subst h112
    refine x_tableIn (pc := 30) dX2_tell_30 (tgt := 144) (off := 114) (by decide +kernel) (by decide +kernel) (by decide +kernel) (by decide) ?_
    refine x_aload_n (pc := 144) dX2_tell_144 rfl ?_
    refine x_getf (pc := 145) dX2_tell_145 kf_X2_49 (by assumption) (by rfl) ?_
    refine x_iconst (pc := 148) dX2_tell_148 (v := nI 2) (by decide) ?_
    refine x_icmp_ne (pc := 149) dX2_tell_149 (tgt := 166) (by decide) (fun h_149 => ?_) (fun h_149 => ?_)
    · skip
      try first | rw [n_b1] at h_149 | rw [n_b00] at h_149 | rw [n_eq (by omega) (by omega)] at h_149
      have hh : tlS C (nI 112) l = none := by rw [tl_p, if_neg (fun q => h_149 q.1)]
      refine x_iconst (pc := 166) dX2_tell_166 (v := nI 0) (by decide) ?_
      refine x_zret (pc := 167) dX2_tell_167 rfl (by first | decide | exact bN_lt _ | omega) ?_
      first | exact va_i ⟨by rw [hh]; rfl, by rw [hh]; exact hC2, hfr⟩ | exact va_i ⟨by rw [hh]; rfl, by rw [hh]; exact hC0, fun _ _ => rfl⟩
    · replace h_149 := Classical.not_not.mp h_149
      try first | rw [n_b1] at h_149 | rw [n_b00] at h_149 | rw [n_eq (by omega) (by omega)] at h_149
      rw [g2 0 (by omega), g2 1 (by omega)]
      refine x_aload_n (pc := 152) dX2_tell_152 rfl ?_
      refine x_iload_n (pc := 153) dX2_tell_153 rfl ?_
      refine x_iload (pc := 154) dX2_tell_154 rfl ?_
      refine x_cv2 (q1 := 0) (q2 := 0) (ci := 0) (pc := 156) dX2_tell_156 ks_X2_71 (by assumption) (by rfl) (by omega) (by rfl) (by rfl) (by rfl) (c_addPerson hC0 ok (hx 0) (hx 1)) (va_kk fun v w hP => ?_)
      obtain ⟨rfl, hC2, hfr⟩ := hP
      refine x_if_eq (pc := 159) dX2_tell_159 (tgt := 166) (by decide) (fun h_159 => ?_) (fun h_159 => ?_)
      · skip
        try first | rw [n_b0] at h_159 | rw [n_eq0 (by omega)] at h_159
        have hh : tlS C (nI 112) l = none := by rw [tl_p, if_neg (fun q => by rw [h_159] at q; cases q.2)]
        rw [h_159] at hC2
        refine x_iconst (pc := 166) dX2_tell_166 (v := nI 0) (by decide) ?_
        refine x_zret (pc := 167) dX2_tell_167 rfl (by first | decide | exact bN_lt _ | omega) ?_
        first | exact va_i ⟨by rw [hh]; rfl, by rw [hh]; exact hC2, hfr⟩ | exact va_i ⟨by rw [hh]; rfl, by rw [hh]; exact hC0, fun _ _ => rfl⟩
      · skip
        try first | rw [n_b0] at h_159 | rw [n_eq0 (by omega)] at h_159
        simp only [Bool.not_eq_false] at h_159
        have hh := tl_p C l
        rw [if_pos ⟨h_149, h_159⟩] at hh
        rw [h_159] at hC2
        refine x_iconst (pc := 162) dX2_tell_162 (v := nI 1) (by decide) ?_
        refine x_goto (pc := 163) dX2_tell_163 (tgt := 167) (by decide) ?_
        refine x_zret (pc := 167) dX2_tell_167 rfl (by first | decide | exact bN_lt _ | omega) ?_
        first | exact va_i ⟨by rw [hh]; rfl, by rw [hh]; exact hC2, hfr⟩ | exact va_i ⟨by rw [hh]; rfl, by rw [hh]; exact hC0, fun _ _ => rfl⟩
  have hh : tlS C c l = none := tl_no h115 h118 h114 h112
  have hret : Run m_X2_tell 3 0 0 168 [some (.ref k), some (.int c), some (.ref s), some (.int (f 0)), some (.int (f 1)), some (.int (f 2))] [] w n (Va (fun v w' => v = .int (nI (bN (tlS C c l).isSome)) ∧ isC w' s ((tlS C c l).getD C) ∧ sameW w w' s 6) n) := by
    refine x_iconst (pc := 168) dX2_tell_168 (v := nI 0) (by decide) ?_
    refine x_zret (pc := 169) dX2_tell_169 rfl (by first | decide | exact bN_lt _ | omega) ?_
    exact va_i ⟨by rw [hh]; rfl, by rw [hh]; exact hC0, fun _ _ => rfl⟩
  have key : ∀ v : Int, 112 ≤ v → v ≤ 118 → c.toInt = v → (v = 113 ∨ v = 116 ∨ v = 117) := by
    intro v v1 v2 hv
    have hne : ∀ m : Nat, m < 1000 → ¬ c = nI m → ¬ c.toInt = (m : Int) := fun m hm h q => h (Int32.toInt_inj.mp (q.trans (nI_toInt (by omega)).symm))
    have a1 := hne 115 (by decide) h115
    have a2 := hne 118 (by decide) h118
    have a3 := hne 114 (by decide) h114
    have a4 := hne 112 (by decide) h112
    omega
  by_cases hlo : c.toInt < 112 ∨ 118 < c.toInt
  · exact x_tableOut (pc := 30) dX2_tell_30 (tgt := 168) hlo (by decide) hret
  · have hv := key c.toInt (by omega) (by omega) rfl
    rcases hv with hv | hv | hv
    · exact x_tableIn (pc := 30) dX2_tell_30 (tgt := 168) (off := 138) (by omega) (by omega) (by rw [hv]; rfl) (by decide) hret
    · exact x_tableIn (pc := 30) dX2_tell_30 (tgt := 168) (off := 138) (by omega) (by omega) (by rw [hv]; rfl) (by decide) hret
    · exact x_tableIn (pc := 30) dX2_tell_30 (tgt := 168) (off := 138) (by omega) (by omega) (by rw [hv]; rfl) (by decide) hret
/-- reading on from a place: where the FAULT is, and what is told up to it -/
def raF (T : List Nat) : Nat → Crt → Nat → Option Nat × Crt
  | 0, C, _ => (none, C)
  | m + 1, C, p => if p < T.length then (match rdF T 3 (p + 1) with
    | none => (some p, C)
    | some q => match tlS C (ltI T p) q.1 with
      | none => (some p, C)
      | some C' => raF T m C' q.2) else (none, C)
def raS (T : List Nat) : Option Nat × Crt := raF T 200 noC 0
theorem okC_raF (T : List Nat) : ∀ m C p, okC C → okC (raF T m C p).2
  | 0, C, p, h => h
  | m + 1, C, p, h => by
    simp only [raF]
    split
    · split
      · exact h
      · split
        · exact h
        · next h2 => exact okC_raF T m _ _ (okC_tlS h h2)
    · exact h
theorem raF_lt (T : List Nat) : ∀ m C p a, (raF T m C p).1 = some a → a < T.length
  | 0, C, p, a, h => by simp [raF] at h
  | m + 1, C, p, a, h => by
    simp only [raF] at h
    split at h
    · next hp =>
      split at h
      · cases h; exact hp
      · split at h
        · cases h; exact hp
        · exact raF_lt T m _ _ a h
    · cases h
def rsI (o : Option Nat) : Int32 := match o with
  | some a => nI a
  | none => -4
theorem c_readAll {w : ax_W} {n k t s : Nat} {T : List Nat} {C0 : Crt} (hR : anyR w k) (hT : isT w t T) (okt : okT T) (hC : isC w s C0) (h1 : k + 2 ≤ t ∨ t + 2 ≤ k) (h2 : k + 2 ≤ s ∨ s + 6 ≤ k) (h3 : t + 2 ≤ s ∨ s + 6 ≤ t) : Run m_X2_readAll 4 0 0 0 (l_ent m_X2_readAll [.ref k, .ref t, .ref s]) [] w n (Va (fun v w' => v = .int (rsI (raS T).1) ∧ isC w' s (raS T).2 ∧ anyR w' k ∧ ∀ j, (j < k ∨ k + 2 ≤ j) → (j < s ∨ s + 6 ≤ j) → w' j = w j) n) := by
  have hT0 := hT
  have hlen := okt.1
  have loop : ∀ m i p C z5 (wi : ax_W), i + m = 200 → p < 1000 → okC C → anyR wi k → isC wi s C → (∀ j, (j < k ∨ k + 2 ≤ j) → (j < s ∨ s + 6 ≤ j) → wi j = w j) →
      Run m_X2_readAll 4 0 0 9 [some (.ref k), some (.ref t), some (.ref s), some (.int (nI p)), some (.int (nI i)), z5] [] wi n (Va (fun v w' => v = .int (rsI (raF T m C p).1) ∧ isC w' s (raF T m C p).2 ∧ anyR w' k ∧ ∀ j, (j < k ∨ k + 2 ≤ j) → (j < s ∨ s + 6 ≤ j) → w' j = w j) n) := by
    intro m
    induction m with
    | zero =>
      intro i p C z5 w hi hp ok hR hC hfr
      refine x_iload (pc := 9) dX2_readAll_9 rfl ?_
      refine x_sipush (pc := 11) dX2_readAll_11 (v := nI 200) (by decide) ?_
      refine x_icmp_ge_t (pc := 14) dX2_readAll_14 (tgt := 66) (by decide) (nI_le (by omega) (by omega)) ?_
      refine x_bipush (pc := 66) dX2_readAll_66 (v := -4) (by decide) ?_
      refine x_iret (pc := 68) dX2_readAll_68 rfl rfl ?_
      exact va_i ⟨rfl, hC, hR, hfr⟩
    | succ m ih =>
      intro i p C z5 w hi hp ok hR hC hfr
      have hT : isT w t T := hT0.go fun j g1 g2 => hfr j (by omega) (by omega)
      have hTk := hT.1
      obtain ⟨aR, fR, hRk, hRk1⟩ := id hR
      refine x_iload (pc := 9) dX2_readAll_9 rfl ?_
      refine x_sipush (pc := 11) dX2_readAll_11 (v := nI 200) (by decide) ?_
      refine x_icmp_ge_f (pc := 14) dX2_readAll_14 (tgt := 66) (by decide) (nI_ge (by omega) (by omega)) ?_
      refine x_iload_n (pc := 17) dX2_readAll_17 rfl ?_
      refine x_aload_n (pc := 18) dX2_readAll_18 rfl ?_
      refine x_getf (pc := 19) dX2_readAll_19 kf_X2_20 (by assumption) (by rfl) ?_
      refine x_icmp_ge (pc := 22) dX2_readAll_22 (tgt := 66) (by decide) (fun h_22 => ?_) (fun h_22 => ?_)
      · skip
        try first | rw [n_b1] at h_22 | rw [n_b00] at h_22 | rw [n_le (by omega) (by omega)] at h_22
        have hh : raF T (m + 1) C p = (none, C) := by simp only [raF]; rw [if_neg (by omega)]
        refine x_bipush (pc := 66) dX2_readAll_66 (v := -4) (by decide) ?_
        refine x_iret (pc := 68) dX2_readAll_68 rfl rfl ?_
        exact va_i ⟨by rw [hh]; rfl, by rw [hh]; exact hC, hR, hfr⟩
      · skip
        try first | rw [n_b1] at h_22 | rw [n_b00] at h_22 | rw [n_le (by omega) (by omega)] at h_22
        refine x_aload_n (pc := 25) dX2_readAll_25 rfl ?_
        refine x_aload_n (pc := 26) dX2_readAll_26 rfl ?_
        refine x_iload_n (pc := 27) dX2_readAll_27 rfl ?_
        refine x_iconst (pc := 28) dX2_readAll_28 (v := nI 1) (by decide) ?_
        first | refine xn_iadd (pc := 29) dX2_readAll_29 ?_ | refine x_iadd (pc := 29) dX2_readAll_29 ?_
        refine x_cv2 (q1 := 0) (q2 := 0) (ci := 2) (pc := 30) dX2_readAll_30 ks_X2_26 (by assumption) (by rfl) (by omega) (by rfl) (by rfl) (by rfl) (c_readNumbers hR hT okt h1 (by omega)) (va_kk fun v w hP => ?_)
        obtain ⟨rfl, hR1, hR2, hfr1⟩ := hP
        have hC : isC w s C := hC.go fun j g1 g2 => hfr1 j (by omega)
        have hT : isT w t T := hT.go fun j g1 g2 => hfr1 j (by omega)
        replace hfr := fun j (g1 : j < k ∨ k + 2 ≤ j) (g2 : j < s ∨ s + 6 ≤ j) => (hfr1 j (by omega)).trans (hfr j g1 g2)
        clear hR hRk hRk1 hTk hfr1
        cases hr : rdF T 3 (p + 1) with
        | none =>
          have hh : raF T (m + 1) C p = (some p, C) := by simp only [raF]; rw [if_pos (by omega), hr]
          refine x_istore (pc := 33) dX2_readAll_33 rfl ?_
          refine x_iload (pc := 35) dX2_readAll_35 rfl ?_
          refine x_bipush (pc := 37) dX2_readAll_37 (v := -4) (by decide) ?_
          refine x_icmp_eq_t (pc := 39) dX2_readAll_39 (tgt := 55) (by decide) rfl ?_
          refine x_iload_n (pc := 55) dX2_readAll_55 rfl ?_
          refine x_iret (pc := 56) dX2_readAll_56 rfl rfl ?_
          exact va_i ⟨by rw [hh]; rfl, by rw [hh]; exact hC, hR1, hfr⟩
        | some q =>
          obtain ⟨l, e⟩ := q
          obtain ⟨b1, b2, b3, b4⟩ := rdF_lt hr
          have hR3 := hR2 _ hr
          obtain ⟨fR, hRk, hRk1, -⟩ := id hR3
          have hTk := hT.1
          have hne : ¬ nI e = -4 := by rw [show (-4 : Int32) = nI 4294967292 from by decide +kernel]; intro q; have := congrArg (fun x : Int32 => x.toInt) q; rw [show (nI e).toInt = (e : Int) from nI_toInt (by omega)] at this; revert this; rw [show (nI 4294967292).toInt = -4 from by decide +kernel]; omega
          refine x_istore (pc := 33) dX2_readAll_33 rfl ?_
          refine x_iload (pc := 35) dX2_readAll_35 rfl ?_
          refine x_bipush (pc := 37) dX2_readAll_37 (v := -4) (by decide) ?_
          refine x_icmp_eq_f (pc := 39) dX2_readAll_39 (tgt := 55) (by decide) hne ?_
          refine x_aload_n (pc := 42) dX2_readAll_42 rfl ?_
          refine x_aload_n (pc := 43) dX2_readAll_43 rfl ?_
          refine x_iload_n (pc := 44) dX2_readAll_44 rfl ?_
          refine x_cv1p (ci := 3) (pc := 45) dX2_readAll_45 ks_X2_30 (by assumption) (by rfl) (by omega) (by rfl) (by rfl) (by rfl) (c_letterAt hT okt (by omega)) ?_
          refine x_aload_n (pc := 48) dX2_readAll_48 rfl ?_
          refine x_cv2 (q1 := 0) (q2 := 0) (ci := 2) (pc := 49) dX2_readAll_49 ks_X2_34 (by assumption) (by rfl) (by omega) (by rfl) (by rfl) (by rfl) (c_tell hR3 hC ok b4 b1 h2 _) (va_kk fun v w hP => ?_)
          obtain ⟨rfl, hC2, hfr2⟩ := hP
          refine x_if_ne (pc := 52) dX2_readAll_52 (tgt := 57) (by decide) (fun h_52 => ?_) (fun h_52 => ?_)
          · skip
            try first | rw [n_b0] at h_52 | rw [n_eq0 (by omega)] at h_52
            cases ht : tlS C (ltI T p) l with
            | none => rw [ht] at h_52; exact absurd rfl h_52
            | some C' =>
              rw [ht] at hC2
              have hh : raF T (m + 1) C p = raF T m C' e := by simp only [raF]; rw [if_pos (by omega), hr]; simp only [ht]
              rw [hh]
              refine x_iload (pc := 57) dX2_readAll_57 rfl ?_
              refine x_istore_n (pc := 59) dX2_readAll_59 rfl ?_
              refine xn_iinc (pc := 60) dX2_readAll_60 rfl rfl ?_
              refine x_goto (pc := 63) dX2_readAll_63 (tgt := 9) (by decide) ?_
              exact ih (i + 1) e C' _ _ (by omega) (by omega) (okC_tlS ok ht) ⟨_, fR, (hfr2 _ (by omega)).trans hRk, (hfr2 _ (by omega)).trans hRk1⟩ hC2 (fun j g1 g2 => (hfr2 j g2).trans (hfr j g1 g2))
          · replace h_52 := Classical.not_not.mp h_52
            try first | rw [n_b0] at h_52 | rw [n_eq0 (by omega)] at h_52
            have ht : tlS C (ltI T p) l = none := by cases ht : tlS C (ltI T p) l with
              | none => rfl
              | some C' => rw [ht] at h_52; cases h_52
            rw [ht] at hC2
            have hh : raF T (m + 1) C p = (some p, C) := by simp only [raF]; rw [if_pos (by omega), hr]; simp only [ht]
            refine x_iload_n (pc := 55) dX2_readAll_55 rfl ?_
            refine x_iret (pc := 56) dX2_readAll_56 rfl rfl ?_
            exact va_i ⟨by rw [hh]; rfl, by rw [hh]; exact hC2, ⟨_, fR, (hfr2 _ (by omega)).trans hRk, (hfr2 _ (by omega)).trans hRk1⟩, fun j g1 g2 => (hfr2 j g2).trans (hfr j g1 g2)⟩
  obtain ⟨hCk, -⟩ := id hC
  refine x_aload_n (pc := 0) dX2_readAll_0 rfl ?_
  refine x_cv0 (q1 := 0) (q2 := 0) (ci := 0) (pc := 1) dX2_readAll_1 ks_X2_15 (by assumption) (by rfl) (by omega) (by rfl) (by rfl) (by rfl) (c_clearC hC) (vo_kk fun w hP => ?_)
  obtain ⟨hC1, hfr1⟩ := hP
  obtain ⟨aR, fR, hRk, hRk1⟩ := hR
  refine x_iconst (pc := 4) dX2_readAll_4 (v := nI 0) (by decide) ?_
  refine x_istore_n (pc := 5) dX2_readAll_5 rfl ?_
  refine x_iconst (pc := 6) dX2_readAll_6 (v := nI 0) (by decide) ?_
  refine x_istore (pc := 7) dX2_readAll_7 rfl ?_
  exact loop 200 0 0 noC _ w (by omega) (by omega) okC_no ⟨aR, fR, (hfr1 _ (by omega)).trans hRk, (hfr1 _ (by omega)).trans hRk1⟩ hC1 (fun j _ g2 => hfr1 j g2)
theorem c_scriptAdd {w : ax_W} {n k : Nat} {T : List Nat} (hT : isT w k T) (ok : okT T) {c : Nat} (hc : c < 200) : Run m_X3_add 1 0 0 0 (l_ent m_X3_add [.ref k, .int (nI c)]) [] w n (Va (fun v w' => v = .int (nI (bN (decide (T.length < 200)))) ∧ isT w' k (if T.length < 200 then T ++ [c] else T) ∧ sameW w w' k 2) n) := by
  have hT0 := hT
  obtain ⟨hK, f, g1, g2⟩ := hT
  have hl := ok.1
  have hfr : ∀ j, (j < k ∨ k + 2 ≤ j) → w j = w j := fun _ _ => rfl
  refine x_aload_n (pc := 0) dX3_add_0 rfl ?_
  refine x_getf (pc := 1) dX3_add_1 kf_X3_15 (by assumption) (by rfl) ?_
  refine x_sipush (pc := 4) dX3_add_4 (v := nI 200) (by decide) ?_
  refine x_icmp_lt (pc := 7) dX3_add_7 (tgt := 12) (by decide) (fun h_7 => ?_) (fun h_7 => ?_)
  · skip
    try first | rw [n_b1] at h_7 | rw [n_b00] at h_7 | rw [n_lt (by omega) (by omega)] at h_7
    refine x_aload_n (pc := 12) dX3_add_12 rfl ?_
    refine x_getf (pc := 13) dX3_add_13 kf_X3_9 (by assumption) (by rfl) ?_
    refine x_aload_n (pc := 16) dX3_add_16 rfl ?_
    refine x_getf (pc := 17) dX3_add_17 kf_X3_15 (by assumption) (by rfl) ?_
    refine x_iload_n (pc := 20) dX3_add_20 rfl ?_
    refine x_cs3 (q1 := 0) (q2 := 0) (pc := 21) dX3_add_21 ks_X3_19 (by omega) (by rfl) (by rfl) (by rfl) (c_put (by assumption) (by omega) (by omega)) (vo_kk fun w hP => ?_)
    obtain ⟨hnew, hne⟩ := hP
    replace hK := (hne _ (by omega)).trans hK
    replace g1 := hnew
    replace hfr := fun j (hj : j < k ∨ k + 2 ≤ j) => (hne j (by omega)).trans (hfr j hj)
    clear hne
    refine x_aload_n (pc := 24) dX3_add_24 rfl ?_
    refine x_dup (pc := 25) dX3_add_25 rfl ?_
    refine x_getf (pc := 26) dX3_add_26 kf_X3_15 (by assumption) (by rfl) ?_
    refine x_iconst (pc := 29) dX3_add_29 (v := nI 1) (by decide) ?_
    first | refine xn_iadd (pc := 30) dX3_add_30 ?_ | refine x_iadd (pc := 30) dX3_add_30 ?_
    refine xw_puti (pc := 31) dX3_add_31 kf_X3_15 (by assumption) (by rfl) (by rfl) rfl rfl (fun w hnew hne => ?_)
    replace hK := hnew
    replace g1 := (hne _ (by omega)).trans g1
    replace hfr := fun j (hj : j < k ∨ k + 2 ≤ j) => (hne j (by omega)).trans (hfr j hj)
    clear hne
    refine x_iconst (pc := 34) dX3_add_34 (v := nI 1) (by decide) ?_
    refine x_zret (pc := 35) dX3_add_35 rfl (by first | decide | exact bN_lt _ | omega) ?_
    refine va_i ⟨by rw [decide_eq_true h_7]; rfl, ?_, hfr⟩
    rw [if_pos h_7]
    refine ⟨?_, _, g1, fun i hi => ?_⟩
    · rw [show (T ++ [c]).length = T.length + 1 by simp]
      exact hK
    · have hi' : i < T.length + 1 := by simpa using hi
      by_cases hit : i = T.length
      · subst hit
        rw [upd_same]
        simp
      · rw [upd_ne _ _ hit, g2 i (by omega), List.getD_eq_getElem?_getD, List.getD_eq_getElem?_getD, List.getElem?_append_left (by omega)]
  · skip
    try first | rw [n_b1] at h_7 | rw [n_b00] at h_7 | rw [n_lt (by omega) (by omega)] at h_7
    refine x_iconst (pc := 10) dX3_add_10 (v := nI 0) (by decide) ?_
    refine x_zret (pc := 11) dX3_add_11 rfl (by first | decide | exact bN_lt _ | omega) ?_
    exact va_i ⟨by rw [decide_eq_false h_7]; rfl, by rw [if_neg h_7]; exact hT0, fun _ _ => rfl⟩
theorem c_scriptClear {w : ax_W} {n k : Nat} {T : List Nat} (hT : isT w k T) : Run m_X3_clear 0 0 0 0 (l_ent m_X3_clear [.ref k]) [] w n (Vo (fun w' => isT w' k [] ∧ sameW w w' k 2) n) := by
  obtain ⟨hK, f, g1, g2⟩ := hT
  have hfr : ∀ j, (j < k ∨ k + 2 ≤ j) → w j = w j := fun _ _ => rfl
  refine x_aload_n (pc := 0) dX3_clear_0 rfl ?_
  refine x_iconst (pc := 1) dX3_clear_1 (v := nI 0) (by decide) ?_
  refine xw_puti (pc := 2) dX3_clear_2 kf_X3_15 (by assumption) (by rfl) (by rfl) rfl rfl (fun w hnew hne => ?_)
  replace hK := hnew
  replace g1 := (hne _ (by omega)).trans g1
  replace hfr := fun j (hj : j < k ∨ k + 2 ≤ j) => (hne j (by omega)).trans (hfr j hj)
  clear hne
  refine x_vret (pc := 5) dX3_clear_5 rfl ?_
  exact vo_i ⟨⟨hK, f, g1, fun i hi => absurd hi (Nat.not_lt_zero i)⟩, hfr⟩
