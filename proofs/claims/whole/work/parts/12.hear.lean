/-! a TRIAL and what is STRUCK OUT; copies of them -/
abbrev Hrg : Type := List Nat × Nat
def noH : Hrg := ([], 0)
def isH (w : ax_W) (k : Nat) (h : Hrg) : Prop := w k = ao 1 [.ref (k + 1), .int (nI h.1.length), .int (nI h.2)] ∧ ∃ f : Nat → Int32, w (k + 1) = ai 10 f ∧ ∀ i, i < h.1.length → f i = nI (h.1.getD i 0)
def okH (C : Crt) (h : Hrg) : Prop := h.1.Nodup ∧ (∀ x ∈ h.1, x < cn C) ∧ h.2 < 2 ^ cn C
theorem okH_no (C : Crt) : okH C noH := ⟨List.nodup_nil, fun x hx => (by cases hx), Nat.two_pow_pos _⟩
theorem isH.go {w w' : ax_W} {k : Nat} {h : Hrg} (hh : isH w k h) (hq : ∀ j, k ≤ j → j < k + 2 → w' j = w j) : isH w' k h := by
  obtain ⟨h0, f, h1, h2⟩ := hh
  exact ⟨by rw [hq _ (by omega) (by omega)]; exact h0, f, by rw [hq _ (by omega) (by omega)]; exact h1, h2⟩
theorem nodup_len : ∀ (n : Nat) (l : List Nat), l.Nodup → (∀ x ∈ l, x < n) → l.length ≤ n
  | 0, [], _, _ => Nat.le_refl 0
  | 0, x :: l, _, h => absurd (h x List.mem_cons_self) (Nat.not_lt_zero x)
  | n + 1, l, hn, h => by
    have h2 : (l.filter (fun x => decide (x ≠ n))).length ≤ n := by
      refine nodup_len n _ (hn.filter _) fun x hx => ?_
      obtain ⟨a, b⟩ := List.mem_filter.mp hx
      have h3 := h x a
      have h4 : x ≠ n := of_decide_eq_true b
      omega
    have h5 : ∀ (l : List Nat), l.Nodup → l.length ≤ (l.filter (fun x => decide (x ≠ n))).length + 1 := by
      intro l
      induction l with
      | nil => intro _; simp
      | cons y l ih =>
        intro hn
        obtain ⟨hy, hn2⟩ := List.nodup_cons.mp hn
        have ih := ih hn2
        by_cases hyn : y = n
        · subst hyn
          have e : l.filter (fun x => decide (x ≠ y)) = l := List.filter_eq_self.mpr fun x hx => decide_eq_true fun q => hy (q ▸ hx)
          rw [List.filter_cons_of_neg (by simp), e]
          simp
        · rw [List.filter_cons_of_pos (by simpa using hyn)]
          simp only [List.length_cons]
          omega
    have := h5 l hn
    omega
theorem okH.len {C : Crt} (ok : okC C) {h : Hrg} (hh : okH C h) : h.1.length ≤ 10 := Nat.le_trans (nodup_len _ _ hh.1 hh.2.1) ok.1
theorem okH.sk {C : Crt} (ok : okC C) {h : Hrg} (hh : okH C h) : h.2 < 1024 := Nat.lt_of_lt_of_le hh.2.2 ok.lt
theorem getD_mem {l : List Nat} {i : Nat} (h : i < l.length) : l.getD i 0 ∈ l := by
  rw [List.getD_eq_getElem?_getD, List.getElem?_eq_getElem h]
  exact List.getElem_mem h
theorem getD_app {l : List Nat} {x i : Nat} (h : i < l.length) : (l ++ [x]).getD i 0 = l.getD i 0 := by
  rw [List.getD_eq_getElem?_getD, List.getD_eq_getElem?_getD, List.getElem?_append_left h]
theorem getD_last {l : List Nat} {x : Nat} : (l ++ [x]).getD l.length 0 = x := by simp
theorem okH.at {C : Crt} {h : Hrg} (hh : okH C h) {i : Nat} (hi : i < h.1.length) : h.1.getD i 0 < cn C := hh.2.1 _ (getD_mem hi)
/-- the members of a row, as bits -/
def mbP (row : Nat → Nat) : Nat → Nat
  | 0 => 0
  | k + 1 => mbP row k ||| 2 ^ row k
def mbL (l : List Nat) : Nat := mbP (fun i => l.getD i 0) l.length
theorem mbP_lt {row : Nat → Nat} {n : Nat} : ∀ {k}, (∀ i, i < k → row i < n) → mbP row k < 2 ^ n
  | 0, _ => Nat.two_pow_pos _
  | k + 1, h => Nat.or_lt_two_pow (mbP_lt fun i hi => h i (by omega)) (pow_lt (h k (by omega)))
theorem mbP_bit {row : Nat → Nat} {a : Nat} : ∀ {k}, (mbP row k).testBit a = true ↔ ∃ i, i < k ∧ row i = a
  | 0 => by simp [mbP]
  | k + 1 => by
    simp only [mbP]
    rw [Nat.testBit_or, Bool.or_eq_true, mbP_bit, b_pow, decide_eq_true_iff]
    constructor
    · rintro (⟨i, h1, h2⟩ | h)
      · exact ⟨i, by omega, h2⟩
      · exact ⟨k, by omega, h⟩
    · rintro ⟨i, h1, h2⟩
      by_cases hik : i = k
      · subst hik; exact Or.inr h2
      · exact Or.inl ⟨i, by omega, h2⟩
theorem mbP_congr {row row' : Nat → Nat} : ∀ {k}, (∀ i, i < k → row i = row' i) → mbP row k = mbP row' k
  | 0, _ => rfl
  | k + 1, h => by simp only [mbP]; rw [mbP_congr (fun i hi => h i (by omega)), h k (by omega)]
theorem mbL_app (l : List Nat) (x : Nat) : mbL (l ++ [x]) = mbL l ||| 2 ^ x := by
  unfold mbL
  rw [List.length_append, List.length_singleton]
  simp only [mbP]
  rw [mbP_congr (fun i hi => getD_app hi), getD_last]
theorem mbL_bit (l : List Nat) (a : Nat) : (mbL l).testBit a = true ↔ a ∈ l := by
  unfold mbL
  rw [mbP_bit]
  constructor
  · rintro ⟨i, h1, h2⟩
    rw [← h2]
    exact getD_mem h1
  · intro h
    obtain ⟨i, hi, e⟩ := List.getElem_of_mem h
    exact ⟨i, hi, by rw [List.getD_eq_getElem?_getD, List.getElem?_eq_getElem hi]; exact e⟩
theorem mbL_lt {C : Crt} {h : Hrg} (hh : okH C h) : mbL h.1 < 2 ^ cn C := mbP_lt fun _ hi => hh.at hi
/-- what can come next -/
def nxS (C : Crt) (h : Hrg) : Nat := if h.1.length = 0 then nd (vd C) h.2 else opn C (h.1.getD (h.1.length - 1) 0) (mbL h.1) h.2
theorem nxS_lt {C : Crt} (ok : okC C) {h : Hrg} (hh : okH C h) : nxS C h < 2 ^ cn C := by
  unfold nxS
  split
  · exact nd_lt ok.2.2.1
  · exact opn_lt ok (hh.at (by omega))
theorem nxS_1024 {C : Crt} (ok : okC C) {h : Hrg} (hh : okH C h) : nxS C h < 1024 := Nat.lt_of_lt_of_le (nxS_lt ok hh) ok.lt
def enS (C : Crt) (h : Hrg) : Bool := decide (0 < h.1.length ∧ kd C (h.1.getD (h.1.length - 1) 0) = 4)
def suS (C : Crt) (h : Hrg) : Bool := decide (0 < h.1.length ∧ enS C h = false ∧ nxS C h = 0)
theorem c_members {w : ax_W} {n k : Nat} {C : Crt} {h : Hrg} (ok : okC C) (hH : isH w k h) (hh : okH C h) : Run m_X1_members 1 0 0 0 (l_ent m_X1_members [.ref k]) [] w n (Pu (.int (nI (mbL h.1))) w n) := by
  obtain ⟨hK, f, g1, g2⟩ := hH
  have hn := ok.1
  have hl := hh.len ok
  have loop : ∀ m i, i + m = h.1.length → Run m_X1_members 1 0 0 4 [some (.ref k), some (.int (nI (mbP (fun i => h.1.getD i 0) i))), some (.int (nI i))] [] w n (Pu (.int (nI (mbL h.1))) w n) := by
    intro m
    induction m with
    | zero =>
      intro i hi
      have hii : i = h.1.length := by omega
      subst hii
      refine x_iload_n (pc := 4) dX1_members_4 rfl ?_
      refine x_aload_n (pc := 5) dX1_members_5 rfl ?_
      refine x_getf (pc := 6) dX1_members_6 kf_X1_15 (by assumption) (by rfl) ?_
      refine x_icmp_ge_t (pc := 9) dX1_members_9 (tgt := 32) (by decide) (nI_le (by omega) (by omega)) ?_
      refine x_iload_n (pc := 32) dX1_members_32 rfl ?_
      refine x_iret (pc := 33) dX1_members_33 rfl rfl ?_
      exact pu_n rfl
    | succ m ih =>
      intro i hi
      have hr := hh.at (i := i) (by omega)
      refine x_iload_n (pc := 4) dX1_members_4 rfl ?_
      refine x_aload_n (pc := 5) dX1_members_5 rfl ?_
      refine x_getf (pc := 6) dX1_members_6 kf_X1_15 (by assumption) (by rfl) ?_
      refine x_icmp_ge_f (pc := 9) dX1_members_9 (tgt := 32) (by decide) (nI_ge (by omega) (by omega)) ?_
      refine x_iload_n (pc := 12) dX1_members_12 rfl ?_
      refine x_aload_n (pc := 13) dX1_members_13 rfl ?_
      refine x_getf (pc := 14) dX1_members_14 kf_X1_9 (by assumption) (by rfl) ?_
      refine x_iload_n (pc := 17) dX1_members_17 rfl ?_
      refine x_cs2p (pc := 18) dX1_members_18 ks_X1_32 (by omega) (by rfl) (by rfl) (by rfl) (c_at (by assumption) (by omega) (by omega)) ?_
      rw [g2 i (by omega)]
      refine x_cs1p (pc := 21) dX1_members_21 ks_X1_36 (by omega) (by rfl) (by rfl) (by rfl) (c_bit (by omega)) ?_
      first | refine xn_ior (pc := 24) dX1_members_24 ?_ | refine x_ior (pc := 24) dX1_members_24 ?_
      refine x_istore_n (pc := 25) dX1_members_25 rfl ?_
      refine xn_iinc (pc := 26) dX1_members_26 rfl rfl ?_
      refine x_goto (pc := 29) dX1_members_29 (tgt := 4) (by decide) ?_
      exact ih (i + 1) (by omega)
  refine x_iconst (pc := 0) dX1_members_0 (v := nI 0) (by decide) ?_
  refine x_istore_n (pc := 1) dX1_members_1 rfl ?_
  refine x_iconst (pc := 2) dX1_members_2 (v := nI 0) (by decide) ?_
  refine x_istore_n (pc := 3) dX1_members_3 rfl ?_
  exact loop h.1.length 0 (by omega)
theorem c_open {w : ax_W} {n k s : Nat} {C : Crt} {h : Hrg} (ok : okC C) (hH : isH w k h) (hh : okH C h) (hC : isC w s C) : Run m_X1_open 2 0 0 0 (l_ent m_X1_open [.ref k, .ref s]) [] w n (Pu (.int (nI (nxS C h))) w n) := by
  have hH0 := hH
  have hC0 := hC
  obtain ⟨hK, f, g1, g2⟩ := hH
  obtain ⟨hS, -⟩ := hC
  have hn := ok.1
  have hl := hh.len ok
  refine x_aload_n (pc := 0) dX1_open_0 rfl ?_
  refine x_getf (pc := 1) dX1_open_1 kf_X1_15 (by assumption) (by rfl) ?_
  refine x_if_ne (pc := 4) dX1_open_4 (tgt := 19) (by decide) (fun h_4 => ?_) (fun h_4 => ?_)
  · skip
    try first | rw [n_b0] at h_4 | rw [n_eq0 (by omega)] at h_4
    have hr := hh.at (i := h.1.length - 1) (by omega)
    refine x_aload_n (pc := 19) dX1_open_19 rfl ?_
    refine x_aload_n (pc := 20) dX1_open_20 rfl ?_
    refine x_getf (pc := 21) dX1_open_21 kf_X1_9 (by assumption) (by rfl) ?_
    refine x_aload_n (pc := 24) dX1_open_24 rfl ?_
    refine x_getf (pc := 25) dX1_open_25 kf_X1_15 (by assumption) (by rfl) ?_
    refine x_iconst (pc := 28) dX1_open_28 (v := nI 1) (by decide) ?_
    first | refine xn_isub (pc := 29) dX1_open_29 (by omega) ?_ | refine x_isub (pc := 29) dX1_open_29 ?_
    refine x_cs2p (pc := 30) dX1_open_30 ks_X1_32 (by omega) (by rfl) (by rfl) (by rfl) (c_at (by assumption) (by omega) (by omega)) ?_
    rw [g2 _ (by omega)]
    refine x_aload_n (pc := 33) dX1_open_33 rfl ?_
    refine x_cv0p (ci := 1) (pc := 34) dX1_open_34 ks_X1_45 (by assumption) (by rfl) (by omega) (by rfl) (by rfl) (by rfl) (c_members ok hH0 hh) ?_
    refine x_aload_n (pc := 37) dX1_open_37 rfl ?_
    refine x_getf (pc := 38) dX1_open_38 kf_X1_19 (by assumption) (by rfl) ?_
    refine x_cs4p (pc := 41) dX1_open_41 ks_X1_49 (by omega) (by rfl) (by rfl) (by rfl) (c_openBehind hC0 ok hr) ?_
    refine x_iret (pc := 44) dX1_open_44 rfl rfl ?_
    exact pu_n (by rw [nxS, if_neg h_4])
  · replace h_4 := Classical.not_not.mp h_4
    try first | rw [n_b0] at h_4 | rw [n_eq0 (by omega)] at h_4
    refine x_aload_n (pc := 7) dX1_open_7 rfl ?_
    refine x_getf (pc := 8) dX1_open_8 kf_X1_40 (by assumption) (by rfl) ?_
    refine x_aload_n (pc := 11) dX1_open_11 rfl ?_
    refine x_getf (pc := 12) dX1_open_12 kf_X1_19 (by assumption) (by rfl) ?_
    refine x_iconst (pc := 15) dX1_open_15 (v := nI 4294967295) (by decide) ?_
    first | refine xn_ixor (pc := 16) dX1_open_16 ?_ | refine x_ixor (pc := 16) dX1_open_16 ?_
    first | refine xn_bit (pc := 17) dX1_open_17 ?_ | refine xn_nd (pc := 17) dX1_open_17 ?_ | refine xn_iand (pc := 17) dX1_open_17 ?_ | refine x_iand (pc := 17) dX1_open_17 ?_
    refine x_iret (pc := 18) dX1_open_18 rfl rfl ?_
    exact pu_n (by rw [nxS, if_pos h_4])
theorem c_isEnded {w : ax_W} {n k s : Nat} {C : Crt} {h : Hrg} (ok : okC C) (hH : isH w k h) (hh : okH C h) (hC : isC w s C) : Run m_X1_isEnded 2 0 0 0 (l_ent m_X1_isEnded [.ref k, .ref s]) [] w n (Pu (.int (nI (bN (enS C h)))) w n) := by
  have hC0 := hC
  obtain ⟨hK, f, g1, g2⟩ := hH
  obtain ⟨hS, -⟩ := hC
  have hn := ok.1
  have hl := hh.len ok
  refine x_aload_n (pc := 0) dX1_isEnded_0 rfl ?_
  refine x_getf (pc := 1) dX1_isEnded_1 kf_X1_15 (by assumption) (by rfl) ?_
  refine x_if_le (pc := 4) dX1_isEnded_4 (tgt := 31) (by decide) (fun h_4 => ?_) (fun h_4 => ?_)
  · skip
    try first | rw [n_b0] at h_4 | rw [n_le0 (by omega)] at h_4
    have he : enS C h = false := by simp [enS, h_4]
    refine x_iconst (pc := 31) dX1_isEnded_31 (v := nI 0) (by decide) ?_
    refine x_zret (pc := 32) dX1_isEnded_32 rfl (by first | decide | exact bN_lt _ | omega) ?_
    exact pu_n (by rw [he]; rfl)
  · skip
    try first | rw [n_b0] at h_4 | rw [n_le0 (by omega)] at h_4
    have hr := hh.at (i := h.1.length - 1) (by omega)
    refine x_aload_n (pc := 7) dX1_isEnded_7 rfl ?_
    refine x_aload_n (pc := 8) dX1_isEnded_8 rfl ?_
    refine x_getf (pc := 9) dX1_isEnded_9 kf_X1_9 (by assumption) (by rfl) ?_
    refine x_aload_n (pc := 12) dX1_isEnded_12 rfl ?_
    refine x_getf (pc := 13) dX1_isEnded_13 kf_X1_15 (by assumption) (by rfl) ?_
    refine x_iconst (pc := 16) dX1_isEnded_16 (v := nI 1) (by decide) ?_
    first | refine xn_isub (pc := 17) dX1_isEnded_17 (by omega) ?_ | refine x_isub (pc := 17) dX1_isEnded_17 ?_
    refine x_cs2p (pc := 18) dX1_isEnded_18 ks_X1_32 (by omega) (by rfl) (by rfl) (by rfl) (c_at (by assumption) (by omega) (by omega)) ?_
    rw [g2 _ (by omega)]
    refine x_cv1p (ci := 0) (pc := 21) dX1_isEnded_21 ks_X1_53 (by assumption) (by rfl) (by omega) (by rfl) (by rfl) (by rfl) (c_isNight hC0 ok _) ?_
    rw [ntB_n ok hr]
    refine x_if_eq (pc := 24) dX1_isEnded_24 (tgt := 31) (by decide) (fun h_24 => ?_) (fun h_24 => ?_)
    · skip
      try first | rw [n_b0] at h_24 | rw [n_eq0 (by omega)] at h_24
      have he : enS C h = false := by simp only [decide_eq_false_iff_not] at h_24; simp only [enS]; exact decide_eq_false (fun q => h_24 q.2)
      refine x_iconst (pc := 31) dX1_isEnded_31 (v := nI 0) (by decide) ?_
      refine x_zret (pc := 32) dX1_isEnded_32 rfl (by first | decide | exact bN_lt _ | omega) ?_
      exact pu_n (by rw [he]; rfl)
    · skip
      try first | rw [n_b0] at h_24 | rw [n_eq0 (by omega)] at h_24
      have he : enS C h = true := by simp only [Bool.not_eq_false, decide_eq_true_iff] at h_24; simp only [enS]; exact decide_eq_true ⟨by omega, h_24⟩
      refine x_iconst (pc := 27) dX1_isEnded_27 (v := nI 1) (by decide) ?_
      refine x_goto (pc := 28) dX1_isEnded_28 (tgt := 32) (by decide) ?_
      refine x_zret (pc := 32) dX1_isEnded_32 rfl (by first | decide | exact bN_lt _ | omega) ?_
      exact pu_n (by rw [he]; rfl)
theorem c_isStuck {w : ax_W} {n k s : Nat} {C : Crt} {h : Hrg} (ok : okC C) (hH : isH w k h) (hh : okH C h) (hC : isC w s C) : Run m_X1_isStuck 3 0 0 0 (l_ent m_X1_isStuck [.ref k, .ref s]) [] w n (Pu (.int (nI (bN (suS C h)))) w n) := by
  have hH0 := hH
  have hC0 := hC
  obtain ⟨hK, f, g1, g2⟩ := hH
  obtain ⟨hS, -⟩ := hC
  have hl := hh.len ok
  have hx := nxS_1024 ok hh
  refine x_aload_n (pc := 0) dX1_isStuck_0 rfl ?_
  refine x_getf (pc := 1) dX1_isStuck_1 kf_X1_15 (by assumption) (by rfl) ?_
  refine x_if_le (pc := 4) dX1_isStuck_4 (tgt := 27) (by decide) (fun h_4 => ?_) (fun h_4 => ?_)
  · skip
    try first | rw [n_b0] at h_4 | rw [n_le0 (by omega)] at h_4
    have he : suS C h = false := by simp [suS, h_4]
    refine x_iconst (pc := 27) dX1_isStuck_27 (v := nI 0) (by decide) ?_
    refine x_zret (pc := 28) dX1_isStuck_28 rfl (by first | decide | exact bN_lt _ | omega) ?_
    exact pu_n (by rw [he]; rfl)
  · skip
    try first | rw [n_b0] at h_4 | rw [n_le0 (by omega)] at h_4
    refine x_aload_n (pc := 7) dX1_isStuck_7 rfl ?_
    refine x_aload_n (pc := 8) dX1_isStuck_8 rfl ?_
    refine x_cv1p (ci := 1) (pc := 9) dX1_isStuck_9 ks_X1_57 (by assumption) (by rfl) (by omega) (by rfl) (by rfl) (by rfl) (c_isEnded ok hH0 hh hC0) ?_
    refine x_if_ne (pc := 12) dX1_isStuck_12 (tgt := 27) (by decide) (fun h_12 => ?_) (fun h_12 => ?_)
    · skip
      try first | rw [n_b0] at h_12 | rw [n_eq0 (by omega)] at h_12
      have he : suS C h = false := by simp [suS, h_12]
      refine x_iconst (pc := 27) dX1_isStuck_27 (v := nI 0) (by decide) ?_
      refine x_zret (pc := 28) dX1_isStuck_28 rfl (by first | decide | exact bN_lt _ | omega) ?_
      exact pu_n (by rw [he]; rfl)
    · replace h_12 := Classical.not_not.mp h_12
      try first | rw [n_b0] at h_12 | rw [n_eq0 (by omega)] at h_12
      refine x_aload_n (pc := 15) dX1_isStuck_15 rfl ?_
      refine x_aload_n (pc := 16) dX1_isStuck_16 rfl ?_
      refine x_cv1p (ci := 1) (pc := 17) dX1_isStuck_17 ks_X1_61 (by assumption) (by rfl) (by omega) (by rfl) (by rfl) (by rfl) (c_open ok hH0 hh hC0) ?_
      refine x_if_ne (pc := 20) dX1_isStuck_20 (tgt := 27) (by decide) (fun h_20 => ?_) (fun h_20 => ?_)
      · skip
        try first | rw [n_b0] at h_20 | rw [n_eq0 (by omega)] at h_20
        have he : suS C h = false := by simp [suS, h_20]
        refine x_iconst (pc := 27) dX1_isStuck_27 (v := nI 0) (by decide) ?_
        refine x_zret (pc := 28) dX1_isStuck_28 rfl (by first | decide | exact bN_lt _ | omega) ?_
        exact pu_n (by rw [he]; rfl)
      · replace h_20 := Classical.not_not.mp h_20
        try first | rw [n_b0] at h_20 | rw [n_eq0 (by omega)] at h_20
        have he : suS C h = true := by simp only [suS]; exact decide_eq_true ⟨by omega, h_12, h_20⟩
        refine x_iconst (pc := 23) dX1_isStuck_23 (v := nI 1) (by decide) ?_
        refine x_goto (pc := 24) dX1_isStuck_24 (tgt := 28) (by decide) ?_
        refine x_zret (pc := 28) dX1_isStuck_28 rfl (by first | decide | exact bN_lt _ | omega) ?_
        exact pu_n (by rw [he]; rfl)
theorem c_hearClear {w : ax_W} {n k : Nat} {h : Hrg} (hH : isH w k h) : Run m_X1_clear 0 0 0 0 (l_ent m_X1_clear [.ref k]) [] w n (Vo (fun w' => isH w' k noH ∧ sameW w w' k 2) n) := by
  obtain ⟨hK, f, g1, g2⟩ := hH
  have hfr : ∀ j, (j < k ∨ k + 2 ≤ j) → w j = w j := fun _ _ => rfl
  refine x_aload_n (pc := 0) dX1_clear_0 rfl ?_
  refine x_iconst (pc := 1) dX1_clear_1 (v := nI 0) (by decide) ?_
  refine xw_puti (pc := 2) dX1_clear_2 kf_X1_15 (by assumption) (by rfl) (by rfl) rfl rfl (fun w hnew hne => ?_)
  replace hK := hnew
  replace g1 := (hne _ (by omega)).trans g1
  replace hfr := fun j (hj : j < k ∨ k + 2 ≤ j) => (hne j (by omega)).trans (hfr j hj)
  clear hne
  refine x_aload_n (pc := 5) dX1_clear_5 rfl ?_
  refine x_iconst (pc := 6) dX1_clear_6 (v := nI 0) (by decide) ?_
  refine xw_puti (pc := 7) dX1_clear_7 kf_X1_19 (by assumption) (by rfl) (by rfl) rfl rfl (fun w hnew hne => ?_)
  replace hK := hnew
  replace g1 := (hne _ (by omega)).trans g1
  replace hfr := fun j (hj : j < k ∨ k + 2 ≤ j) => (hne j (by omega)).trans (hfr j hj)
  clear hne
  refine x_vret (pc := 10) dX1_clear_10 rfl ?_
  exact vo_i ⟨⟨hK, f, g1, fun i hi => absurd hi (Nat.not_lt_zero i)⟩, hfr⟩
theorem c_hearCopy {w : ax_W} {n k s : Nat} {h h0 : Hrg} (hH : isH w k h0) (hs : isH w s h) (hl : h.1.length ≤ 10) (hks : k + 2 ≤ s ∨ s + 2 ≤ k) : Run m_X1_copyFrom 2 0 0 0 (l_ent m_X1_copyFrom [.ref k, .ref s]) [] w n (Vo (fun w' => isH w' k h ∧ sameW w w' k 2) n) := by
  obtain ⟨hK, f, g1, -⟩ := hH
  obtain ⟨hS, e, s1, s2⟩ := hs
  have hfr : ∀ j, (j < k ∨ k + 2 ≤ j) → w j = w j := fun _ _ => rfl
  refine x_aload_n (pc := 0) dX1_copyFrom_0 rfl ?_
  refine x_getf (pc := 1) dX1_copyFrom_1 kf_X1_9 (by assumption) (by rfl) ?_
  refine x_iconst (pc := 4) dX1_copyFrom_4 (v := nI 0) (by decide) ?_
  refine x_aload_n (pc := 5) dX1_copyFrom_5 rfl ?_
  refine x_getf (pc := 6) dX1_copyFrom_6 kf_X1_9 (by assumption) (by rfl) ?_
  refine x_iconst (pc := 9) dX1_copyFrom_9 (v := nI 0) (by decide) ?_
  refine x_bipush (pc := 10) dX1_copyFrom_10 (v := nI 10) (by decide) ?_
  refine xw_copy (pc := 12) dX1_copyFrom_12 kA_X1_22 (by assumption) (by assumption) (by omega) (by omega) rfl (by omega) rfl (fun w hnew hne => ?_)
  replace hK := (hne _ (by omega)).trans hK
  replace g1 := hnew
  replace hS := (hne _ (by omega)).trans hS
  replace s1 := (hne _ (by omega)).trans s1
  replace hfr := fun j (hj : j < k ∨ k + 2 ≤ j) => (hne j (by omega)).trans (hfr j hj)
  clear hne
  refine x_aload_n (pc := 15) dX1_copyFrom_15 rfl ?_
  refine x_aload_n (pc := 16) dX1_copyFrom_16 rfl ?_
  refine x_getf (pc := 17) dX1_copyFrom_17 kf_X1_15 (by assumption) (by rfl) ?_
  refine xw_puti (pc := 20) dX1_copyFrom_20 kf_X1_15 (by assumption) (by rfl) (by rfl) rfl rfl (fun w hnew hne => ?_)
  replace hK := hnew
  replace g1 := (hne _ (by omega)).trans g1
  replace hS := (hne _ (by omega)).trans hS
  replace s1 := (hne _ (by omega)).trans s1
  replace hfr := fun j (hj : j < k ∨ k + 2 ≤ j) => (hne j (by omega)).trans (hfr j hj)
  clear hne
  refine x_aload_n (pc := 23) dX1_copyFrom_23 rfl ?_
  refine x_aload_n (pc := 24) dX1_copyFrom_24 rfl ?_
  refine x_getf (pc := 25) dX1_copyFrom_25 kf_X1_19 (by assumption) (by rfl) ?_
  refine xw_puti (pc := 28) dX1_copyFrom_28 kf_X1_19 (by assumption) (by rfl) (by rfl) rfl rfl (fun w hnew hne => ?_)
  replace hK := hnew
  replace g1 := (hne _ (by omega)).trans g1
  replace hS := (hne _ (by omega)).trans hS
  replace s1 := (hne _ (by omega)).trans s1
  replace hfr := fun j (hj : j < k ∨ k + 2 ≤ j) => (hne j (by omega)).trans (hfr j hj)
  clear hne
  refine x_vret (pc := 31) dX1_copyFrom_31 rfl ?_
  refine vo_i ⟨⟨hK, _, g1, fun i hi => ?_⟩, hfr⟩
  have hi' : i < 10 := by omega
  simp only [if_pos hi']
  exact s2 i hi
theorem c_hearAdd {w : ax_W} {n k : Nat} {h : Hrg} (hH : isH w k h) (hl : h.1.length < 10) {a : Nat} : Run m_X1_add 1 0 0 0 (l_ent m_X1_add [.ref k, .int (nI a)]) [] w n (Vo (fun w' => isH w' k (h.1 ++ [a], h.2) ∧ sameW w w' k 2) n) := by
  obtain ⟨hK, f, g1, g2⟩ := hH
  have hfr : ∀ j, (j < k ∨ k + 2 ≤ j) → w j = w j := fun _ _ => rfl
  refine x_aload_n (pc := 0) dX1_add_0 rfl ?_
  refine x_getf (pc := 1) dX1_add_1 kf_X1_9 (by assumption) (by rfl) ?_
  refine x_aload_n (pc := 4) dX1_add_4 rfl ?_
  refine x_getf (pc := 5) dX1_add_5 kf_X1_15 (by assumption) (by rfl) ?_
  refine x_iload_n (pc := 8) dX1_add_8 rfl ?_
  refine x_cs3 (q1 := 0) (q2 := 0) (pc := 9) dX1_add_9 ks_X1_28 (by omega) (by rfl) (by rfl) (by rfl) (c_put (by assumption) (by omega) (by omega)) (vo_kk fun w hP => ?_)
  obtain ⟨hnew, hne⟩ := hP
  replace hK := (hne _ (by omega)).trans hK
  replace g1 := hnew
  replace hfr := fun j (hj : j < k ∨ k + 2 ≤ j) => (hne j (by omega)).trans (hfr j hj)
  clear hne
  refine x_aload_n (pc := 12) dX1_add_12 rfl ?_
  refine x_dup (pc := 13) dX1_add_13 rfl ?_
  refine x_getf (pc := 14) dX1_add_14 kf_X1_15 (by assumption) (by rfl) ?_
  refine x_iconst (pc := 17) dX1_add_17 (v := nI 1) (by decide) ?_
  first | refine xn_iadd (pc := 18) dX1_add_18 ?_ | refine x_iadd (pc := 18) dX1_add_18 ?_
  refine xw_puti (pc := 19) dX1_add_19 kf_X1_15 (by assumption) (by rfl) (by rfl) rfl rfl (fun w hnew hne => ?_)
  replace hK := hnew
  replace g1 := (hne _ (by omega)).trans g1
  replace hfr := fun j (hj : j < k ∨ k + 2 ≤ j) => (hne j (by omega)).trans (hfr j hj)
  clear hne
  refine x_vret (pc := 22) dX1_add_22 rfl ?_
  refine vo_i ⟨⟨?_, _, g1, fun i hi => ?_⟩, hfr⟩
  · rw [show (h.1 ++ [a]).length = h.1.length + 1 by simp]
    exact hK
  · have hi' : i < h.1.length + 1 := by simpa using hi
    by_cases hit : i = h.1.length
    · subst hit
      rw [upd_same, getD_last]
    · rw [upd_ne _ _ hit, g2 i (by omega), getD_app (by omega)]
/-! copies, the oldest first; m places -/
def isS (w : ax_W) (k m : Nat) (L : List Hrg) : Prop := ∃ top, top < m ∧ w k = ao 4 [.ref (k + 1), .int (nI top), .int (nI L.length)] ∧ w (k + 1) = aq m (fun i => if i < m then some (k + 2 + 2 * i) else none) ∧
  (∀ i, i < m → ∃ h, isH w (k + 2 + 2 * i) h) ∧ L.length ≤ m ∧ ∀ u, u < L.length → isH w (k + 2 + 2 * ((top + m - L.length + u) % m)) (L.getD u noH)
theorem isS.go {w w' : ax_W} {k m : Nat} {L : List Hrg} (hh : isS w k m L) (hq : ∀ j, k ≤ j → j < k + 2 + 2 * m → w' j = w j) : isS w' k m L := by
  obtain ⟨top, h0, h1, h2, h3, h4, h5⟩ := hh
  refine ⟨top, h0, by rw [hq _ (by omega) (by omega)]; exact h1, by rw [hq _ (by omega) (by omega)]; exact h2, fun i hi => ?_, h4, fun u hu => ?_⟩
  · obtain ⟨h, hh⟩ := h3 i hi
    exact ⟨h, hh.go fun j g1 g2 => hq j (by omega) (by omega)⟩
  · have := Nat.mod_lt (top + m - L.length + u) (show 0 < m by omega)
    exact (h5 u hu).go fun j g1 g2 => hq j (by omega) (by omega)
theorem c_shelfClear {w : ax_W} {n k m : Nat} {L : List Hrg} (hS : isS w k m L) : Run m_X4_clear 0 0 0 0 (l_ent m_X4_clear [.ref k]) [] w n (Vo (fun w' => isS w' k m [] ∧ sameW w w' k (2 + 2 * m)) n) := by
  obtain ⟨top, h0, hK, g1, h3, h4, h5⟩ := hS
  refine x_aload_n (pc := 0) dX4_clear_0 rfl ?_
  refine x_iconst (pc := 1) dX4_clear_1 (v := nI 0) (by decide) ?_
  refine xw_puti (pc := 2) dX4_clear_2 kf_X4_22 (by assumption) (by rfl) (by rfl) rfl rfl (fun w hnew hne => ?_)
  refine x_vret (pc := 5) dX4_clear_5 rfl ?_
  refine vo_i ⟨⟨top, h0, hnew, (hne _ (by omega)).trans g1, fun i hi => ?_, Nat.zero_le _, fun u hu => absurd hu (Nat.not_lt_zero u)⟩, fun j hj => hne j (by omega)⟩
  obtain ⟨h, hh⟩ := h3 i hi
  exact ⟨h, hh.go fun j g1 g2 => hne j (by omega)⟩
theorem c_placeAt {w : ax_W} {n k m i : Nat} {st1 st2 : Value} (hK : w k = ao 4 [.ref (k + 1), st1, st2]) (g1 : w (k + 1) = aq m (fun i => if i < m then some (k + 2 + 2 * i) else none)) (hi : i < m) (hm : m ≤ 100) : Run m_X4_placeAt 0 0 0 0 (l_ent m_X4_placeAt [.ref k, .int (nI i)]) [] w n (Pu (.ref (k + 2 + 2 * i)) w n) := by
  refine x_iload_n (pc := 0) dX4_placeAt_0 rfl ?_
  refine x_if_lt_f (pc := 1) dX4_placeAt_1 (tgt := 22) (by decide) (nI_pos (by omega)) ?_
  refine x_iload_n (pc := 4) dX4_placeAt_4 rfl ?_
  refine x_aload_n (pc := 5) dX4_placeAt_5 rfl ?_
  refine x_getf (pc := 6) dX4_placeAt_6 kf_X4_15 (by assumption) (by rfl) ?_
  first | refine x_alenI (pc := 9) dX4_placeAt_9 (by assumption) ?_ | refine x_alenQ (pc := 9) dX4_placeAt_9 (by assumption) ?_
  refine x_icmp_ge_f (pc := 10) dX4_placeAt_10 (tgt := 22) (by decide) (nI_ge (by omega) (by omega)) ?_
  refine x_aload_n (pc := 13) dX4_placeAt_13 rfl ?_
  refine x_getf (pc := 14) dX4_placeAt_14 kf_X4_15 (by assumption) (by rfl) ?_
  refine x_iload_n (pc := 17) dX4_placeAt_17 rfl ?_
  refine x_aald (pc := 18) dX4_placeAt_18 (by assumption) (n_in hi (by omega)) (by rw [n_cl (by omega)]; exact if_pos hi) ?_
  refine x_goto (pc := 19) dX4_placeAt_19 (tgt := 23) (by decide) ?_
  refine x_aret (pc := 23) dX4_placeAt_23 rfl (Or.inl ⟨_, rfl⟩) ?_
  exact ⟨rfl, rfl, rfl⟩
/-- one more copy; the oldest gives way -/
def shA (m : Nat) (L : List Hrg) (h : Hrg) : List Hrg := (if L.length = m then L.tail else L) ++ [h]
theorem c_shelfAdd {w : ax_W} {n k m s : Nat} {L : List Hrg} {h : Hrg} (hS : isS w k m L) (hm : m = 2 ∨ m = 8) (hH : isH w s h) (hl : h.1.length ≤ 10) (hks : k + 2 + 2 * m ≤ s ∨ s + 2 ≤ k) : Run m_X4_add 3 0 0 0 (l_ent m_X4_add [.ref k, .ref s]) [] w n (Vo (fun w' => isS w' k m (shA m L h) ∧ sameW w w' k (2 + 2 * m)) n) := by
  obtain ⟨top, h0, hK, g1, h3, h4, h5⟩ := hS
  obtain ⟨hp, hhp⟩ := h3 top h0
  have hHs := hH.1
  have hlen : (shA m L h).length = if L.length = m then m else L.length + 1 := by
    unfold shA
    split <;> simp <;> omega
  have hfr : ∀ j, (j < k ∨ k + (2 + 2 * m) ≤ j) → w j = w j := fun _ _ => rfl
  have hfin : ∀ (w' : ax_W) (top' sz : Nat), top' = (if top + 1 < m then top + 1 else 0) → sz = (if L.length = m then m else L.length + 1) → w' k = ao 4 [.ref (k + 1), .int (nI top'), .int (nI sz)] → (∀ j, (j < k + 2 + 2 * top ∨ k + 2 + 2 * top + 2 ≤ j) → j ≠ k → w' j = w j) → isH w' (k + 2 + 2 * top) h → isS w' k m (shA m L h) := by
    intro w' top' sz e1 e2 a1 a2 a3
    subst e1 e2
    refine ⟨if top + 1 < m then top + 1 else 0, by split <;> omega, by rw [hlen]; exact a1, (a2 _ (by omega) (by omega)).trans g1, fun i hi => ?_, by rw [hlen]; split <;> omega, fun u hu => ?_⟩
    · by_cases hit : i = top
      · subst hit
        exact ⟨h, a3⟩
      · obtain ⟨h', hh'⟩ := h3 i hi
        exact ⟨h', hh'.go fun j q1 q2 => a2 j (by omega) (by omega)⟩
    · rw [hlen] at hu ⊢
      by_cases hf : L.length = m
      · rw [if_pos hf] at hu ⊢
        by_cases hu2 : u = m - 1
        · have e : (((if top + 1 < m then top + 1 else 0) + m - m + u) % m) = top := by
            rcases hm with rfl | rfl <;> split <;> omega
          rw [e]
          have e2 : (shA m L h).getD u noH = h := by
            unfold shA
            rw [if_pos hf, List.getD_eq_getElem?_getD, List.getElem?_append_right (by simp; omega)]
            simp [show u - (L.length - 1) = 0 by omega]
          rw [e2]
          exact a3
        · have e : (((if top + 1 < m then top + 1 else 0) + m - m + u) % m) = (top + m - L.length + (u + 1)) % m := by
            rw [hf]
            rcases hm with rfl | rfl <;> split <;> omega
          rw [e]
          have e2 : (shA m L h).getD u noH = L.getD (u + 1) noH := by
            unfold shA
            rw [if_pos hf, List.getD_eq_getElem?_getD, List.getD_eq_getElem?_getD, List.getElem?_append_left (by simp; omega), List.getElem?_tail]
          rw [e2]
          have hne : (top + m - L.length + (u + 1)) % m ≠ top := by
            rw [hf]
            rcases hm with rfl | rfl <;> omega
          have hlt := Nat.mod_lt (top + m - L.length + (u + 1)) (show 0 < m by omega)
          exact (h5 (u + 1) (by omega)).go fun j q1 q2 => a2 j (by omega) (by omega)
      · rw [if_neg hf] at hu ⊢
        by_cases hu2 : u = L.length
        · have e : (((if top + 1 < m then top + 1 else 0) + m - (L.length + 1) + u) % m) = top := by
            rcases hm with rfl | rfl <;> split <;> omega
          rw [e]
          have e2 : (shA m L h).getD u noH = h := by
            unfold shA
            rw [if_neg hf, List.getD_eq_getElem?_getD, List.getElem?_append_right (by omega)]
            simp [show u - L.length = 0 by omega]
          rw [e2]
          exact a3
        · have e : (((if top + 1 < m then top + 1 else 0) + m - (L.length + 1) + u) % m) = (top + m - L.length + u) % m := by
            rcases hm with rfl | rfl <;> split <;> omega
          rw [e]
          have e2 : (shA m L h).getD u noH = L.getD u noH := by
            unfold shA
            rw [if_neg hf, List.getD_eq_getElem?_getD, List.getD_eq_getElem?_getD, List.getElem?_append_left (by omega)]
          rw [e2]
          have hne : (top + m - L.length + u) % m ≠ top := by
            rcases hm with rfl | rfl <;> omega
          have hlt := Nat.mod_lt (top + m - L.length + u) (show 0 < m by omega)
          exact (h5 u (by omega)).go fun j q1 q2 => a2 j (by omega) (by omega)
  have hmm : m ≤ 8 := by omega
  have hmin : (if nI m < nI (L.length + 1) then nI m else nI (L.length + 1)) = nI (if L.length = m then m else L.length + 1) := by
    by_cases hf : L.length = m
    · rw [if_pos hf, if_pos ((n_lt (by omega) (by omega)).mpr (by omega))]
    · rw [if_neg hf, if_neg (fun q => by have := (n_lt (by omega) (by omega)).mp q; omega)]
  refine x_aload_n (pc := 0) dX4_add_0 rfl ?_
  refine x_aload_n (pc := 1) dX4_add_1 rfl ?_
  refine x_getf (pc := 2) dX4_add_2 kf_X4_26 (by assumption) (by rfl) ?_
  refine x_cv1p (ci := 4) (pc := 5) dX4_add_5 ks_X4_29 (by assumption) (by rfl) (by omega) (by rfl) (by rfl) (by rfl) (c_placeAt hK g1 h0 (by omega)) ?_
  refine x_astore_n (pc := 8) dX4_add_8 rfl ?_
  refine x_aload_n (pc := 9) dX4_add_9 rfl ?_
  refine x_ifnonnull (pc := 10) dX4_add_10 (tgt := 14) (by decide) ?_
  refine x_aload_n (pc := 14) dX4_add_14 rfl ?_
  refine x_aload_n (pc := 15) dX4_add_15 rfl ?_
  refine x_cv1 (q1 := 0) (q2 := 0) (ci := 1) (pc := 16) dX4_add_16 ks_X4_33 hhp.1 (by rfl) (by omega) (by rfl) (by rfl) (by rfl) (c_hearCopy hhp hH hl (by omega)) (vo_kk fun w hP => ?_)
  obtain ⟨hc1, hc2⟩ := hP
  replace hK := (hc2 _ (by omega)).trans hK
  replace g1 := (hc2 _ (by omega)).trans g1
  refine x_aload_n (pc := 19) dX4_add_19 rfl ?_
  refine x_aload_n (pc := 20) dX4_add_20 rfl ?_
  refine x_getf (pc := 21) dX4_add_21 kf_X4_26 (by assumption) (by rfl) ?_
  refine x_iconst (pc := 24) dX4_add_24 (v := nI 1) (by decide) ?_
  first | refine xn_iadd (pc := 25) dX4_add_25 ?_ | refine x_iadd (pc := 25) dX4_add_25 ?_
  refine x_aload_n (pc := 26) dX4_add_26 rfl ?_
  refine x_getf (pc := 27) dX4_add_27 kf_X4_15 (by assumption) (by rfl) ?_
  first | refine x_alenI (pc := 30) dX4_add_30 (by assumption) ?_ | refine x_alenQ (pc := 30) dX4_add_30 (by assumption) ?_
  refine x_icmp_ge (pc := 31) dX4_add_31 (tgt := 43) (by decide) (fun h_31 => ?_) (fun h_31 => ?_)
  · skip
    try first | rw [n_b1] at h_31 | rw [n_b00] at h_31 | rw [n_le (by omega) (by omega)] at h_31
    have he : 0 = (if top + 1 < m then top + 1 else 0) := by rw [if_neg (by omega)]
    refine x_iconst (pc := 43) dX4_add_43 (v := nI 0) (by decide) ?_
    refine xw_puti (pc := 44) dX4_add_44 kf_X4_26 (by assumption) (by rfl) (by rfl) rfl rfl (fun w hnew hne => ?_)
    replace hK := hnew
    replace g1 := (hne _ (by omega)).trans g1
    have hne1 := hne
    refine x_aload_n (pc := 47) dX4_add_47 rfl ?_
    refine x_aload_n (pc := 48) dX4_add_48 rfl ?_
    refine x_getf (pc := 49) dX4_add_49 kf_X4_22 (by assumption) (by rfl) ?_
    refine x_iconst (pc := 52) dX4_add_52 (v := nI 1) (by decide) ?_
    first | refine xn_iadd (pc := 53) dX4_add_53 ?_ | refine x_iadd (pc := 53) dX4_add_53 ?_
    refine x_aload_n (pc := 54) dX4_add_54 rfl ?_
    refine x_getf (pc := 55) dX4_add_55 kf_X4_15 (by assumption) (by rfl) ?_
    first | refine x_alenI (pc := 58) dX4_add_58 (by assumption) ?_ | refine x_alenQ (pc := 58) dX4_add_58 (by assumption) ?_
    refine x_mmin (pc := 59) dX4_add_59 kX_min_X4_37 kXs_min kI_J9 kXc_min (by omega) rfl ?_
    rw [hmin]
    refine xw_puti (pc := 62) dX4_add_62 kf_X4_22 (by assumption) (by rfl) (by rfl) rfl rfl (fun w hnew hne => ?_)
    refine x_vret (pc := 65) dX4_add_65 rfl ?_
    have hq : ∀ j, j ≠ k → w j = _ := fun j hj => (hne j hj).trans (hne1 j hj)
    exact vo_i ⟨hfin w _ _ he rfl hnew (fun j q1 q2 => (hq j q2).trans (hc2 j q1)) (hc1.go fun j q1 q2 => hq j (by omega)), fun j hj => (hq j (by omega)).trans (hc2 j (by omega))⟩
  · skip
    try first | rw [n_b1] at h_31 | rw [n_b00] at h_31 | rw [n_le (by omega) (by omega)] at h_31
    have he : top + 1 = (if top + 1 < m then top + 1 else 0) := by rw [if_pos (by omega)]
    refine x_aload_n (pc := 34) dX4_add_34 rfl ?_
    refine x_getf (pc := 35) dX4_add_35 kf_X4_26 (by assumption) (by rfl) ?_
    refine x_iconst (pc := 38) dX4_add_38 (v := nI 1) (by decide) ?_
    first | refine xn_iadd (pc := 39) dX4_add_39 ?_ | refine x_iadd (pc := 39) dX4_add_39 ?_
    refine x_goto (pc := 40) dX4_add_40 (tgt := 44) (by decide) ?_
    refine xw_puti (pc := 44) dX4_add_44 kf_X4_26 (by assumption) (by rfl) (by rfl) rfl rfl (fun w hnew hne => ?_)
    replace hK := hnew
    replace g1 := (hne _ (by omega)).trans g1
    have hne1 := hne
    refine x_aload_n (pc := 47) dX4_add_47 rfl ?_
    refine x_aload_n (pc := 48) dX4_add_48 rfl ?_
    refine x_getf (pc := 49) dX4_add_49 kf_X4_22 (by assumption) (by rfl) ?_
    refine x_iconst (pc := 52) dX4_add_52 (v := nI 1) (by decide) ?_
    first | refine xn_iadd (pc := 53) dX4_add_53 ?_ | refine x_iadd (pc := 53) dX4_add_53 ?_
    refine x_aload_n (pc := 54) dX4_add_54 rfl ?_
    refine x_getf (pc := 55) dX4_add_55 kf_X4_15 (by assumption) (by rfl) ?_
    first | refine x_alenI (pc := 58) dX4_add_58 (by assumption) ?_ | refine x_alenQ (pc := 58) dX4_add_58 (by assumption) ?_
    refine x_mmin (pc := 59) dX4_add_59 kX_min_X4_37 kXs_min kI_J9 kXc_min (by omega) rfl ?_
    rw [hmin]
    refine xw_puti (pc := 62) dX4_add_62 kf_X4_22 (by assumption) (by rfl) (by rfl) rfl rfl (fun w hnew hne => ?_)
    refine x_vret (pc := 65) dX4_add_65 rfl ?_
    have hq : ∀ j, j ≠ k → w j = _ := fun j hj => (hne j hj).trans (hne1 j hj)
    exact vo_i ⟨hfin w _ _ he rfl hnew (fun j q1 q2 => (hq j q2).trans (hc2 j q1)) (hc1.go fun j q1 q2 => hq j (by omega)), fun j hj => (hq j (by omega)).trans (hc2 j (by omega))⟩
theorem c_takeLatest {w : ax_W} {n k m s : Nat} {L : List Hrg} {h0 : Hrg} (hS : isS w k m L) (hm : m = 2 ∨ m = 8) (hH : isH w s h0) (hl : ∀ h ∈ L, h.1.length ≤ 10) (hks : k + 2 + 2 * m ≤ s ∨ s + 2 ≤ k) : Run m_X4_takeLatest 3 0 0 0 (l_ent m_X4_takeLatest [.ref k, .ref s]) [] w n (Va (fun v w' => v = .int (nI (bN (decide (0 < L.length)))) ∧ isS w' k m L.dropLast ∧ isH w' s (if 0 < L.length then L.getD (L.length - 1) noH else h0) ∧ ∀ j, (j < k ∨ k + (2 + 2 * m) ≤ j) → (j < s ∨ s + 2 ≤ j) → w' j = w j) n) := by
  have hS0 := hS
  obtain ⟨top, t0, hK, g1, h3, h4, h5⟩ := hS
  have hHs := hH.1
  have hmm : m ≤ 8 := by omega
  have tail : ∀ top' st, top' = (if 0 < top then top - 1 else m - 1) → st = (none : Option Value) → Run m_X4_takeLatest 3 0 0 24 [some (.ref k), some (.ref s), some (.int (nI top')), st] [] w n (Va (fun v w' => v = .int (nI (bN (decide (0 < L.length)))) ∧ isS w' k m L.dropLast ∧ isH w' s (if 0 < L.length then L.getD (L.length - 1) noH else h0) ∧ ∀ j, (j < k ∨ k + (2 + 2 * m) ≤ j) → (j < s ∨ s + 2 ≤ j) → w' j = w j) n) := by
    intro top' st ht hst
    have htm : top' < m := by rw [ht]; split <;> omega
    obtain ⟨hp, hhp⟩ := h3 top' htm
    refine x_aload_n (pc := 24) dX4_takeLatest_24 rfl ?_
    refine x_iload_n (pc := 25) dX4_takeLatest_25 rfl ?_
    refine x_cv1p (ci := 4) (pc := 26) dX4_takeLatest_26 ks_X4_29 (by assumption) (by rfl) (by omega) (by rfl) (by rfl) (by rfl) (c_placeAt hK g1 htm (by omega)) ?_
    refine x_astore_n (pc := 29) dX4_takeLatest_29 rfl ?_
    refine x_aload_n (pc := 30) dX4_takeLatest_30 rfl ?_
    refine x_getf (pc := 31) dX4_takeLatest_31 kf_X4_22 (by assumption) (by rfl) ?_
    refine x_if_eq (pc := 34) dX4_takeLatest_34 (tgt := 41) (by decide) (fun h_34 => ?_) (fun h_34 => ?_)
    · skip
      try first | rw [n_b0] at h_34 | rw [n_eq0 (by omega)] at h_34
      have hL : L = [] := List.length_eq_zero_iff.mp h_34
      subst hL
      refine x_iconst (pc := 41) dX4_takeLatest_41 (v := nI 0) (by decide) ?_
      refine x_iret (pc := 42) dX4_takeLatest_42 rfl rfl ?_
      exact va_i ⟨rfl, hS0, hH, fun _ _ _ => rfl⟩
    · skip
      try first | rw [n_b0] at h_34 | rw [n_eq0 (by omega)] at h_34
      have hlast : isH w (k + 2 + 2 * top') (L.getD (L.length - 1) noH) := by
        have := h5 (L.length - 1) (by omega)
        have e : (top + m - L.length + (L.length - 1)) % m = top' := by rw [ht]; rcases hm with rfl | rfl <;> split <;> omega
        rw [e] at this
        exact this
      have hmem : L.getD (L.length - 1) noH ∈ L := by
        rw [List.getD_eq_getElem?_getD, List.getElem?_eq_getElem (show L.length - 1 < L.length by omega)]
        exact List.getElem_mem _
      refine x_aload_n (pc := 37) dX4_takeLatest_37 rfl ?_
      refine x_ifnonnull (pc := 38) dX4_takeLatest_38 (tgt := 43) (by decide) ?_
      refine x_aload_n (pc := 43) dX4_takeLatest_43 rfl ?_
      refine x_aload_n (pc := 44) dX4_takeLatest_44 rfl ?_
      refine x_cv1 (q1 := 0) (q2 := 0) (ci := 1) (pc := 45) dX4_takeLatest_45 ks_X4_33 (by assumption) (by rfl) (by omega) (by rfl) (by rfl) (by rfl) (c_hearCopy hH hlast (hl _ hmem) (by omega)) (vo_kk fun w hP => ?_)
      obtain ⟨hc1, hc2⟩ := hP
      replace hK := (hc2 _ (by omega)).trans hK
      refine x_aload_n (pc := 48) dX4_takeLatest_48 rfl ?_
      refine x_iload_n (pc := 49) dX4_takeLatest_49 rfl ?_
      refine xw_puti (pc := 50) dX4_takeLatest_50 kf_X4_26 (by assumption) (by rfl) (by rfl) rfl rfl (fun w hnew hne => ?_)
      replace hK := hnew
      have hne1 := hne
      refine x_aload_n (pc := 53) dX4_takeLatest_53 rfl ?_
      refine x_dup (pc := 54) dX4_takeLatest_54 rfl ?_
      refine x_getf (pc := 55) dX4_takeLatest_55 kf_X4_22 (by assumption) (by rfl) ?_
      refine x_iconst (pc := 58) dX4_takeLatest_58 (v := nI 1) (by decide) ?_
      first | refine xn_isub (pc := 59) dX4_takeLatest_59 (by omega) ?_ | refine x_isub (pc := 59) dX4_takeLatest_59 ?_
      refine xw_puti (pc := 60) dX4_takeLatest_60 kf_X4_22 (by assumption) (by rfl) (by rfl) rfl rfl (fun w hnew hne => ?_)
      refine x_iconst (pc := 63) dX4_takeLatest_63 (v := nI 1) (by decide) ?_
      refine x_iret (pc := 64) dX4_takeLatest_64 rfl rfl ?_
      have hq : ∀ j, j ≠ k → w j = _ := fun j hj => (hne j hj).trans (hne1 j hj)
      have hlp : 0 < L.length := by omega
      refine va_i ⟨by rw [decide_eq_true hlp]; rfl, ⟨top', htm, ?_, ((hq _ (by omega)).trans (hc2 _ (by omega))).trans g1, fun i hi => ?_, by simp; omega, fun u hu => ?_⟩, ?_, fun j q1 q2 => (hq j (by omega)).trans (hc2 j q2)⟩
      · rw [show L.dropLast.length = L.length - 1 by simp]
        exact hnew
      · obtain ⟨h', hh'⟩ := h3 i hi
        exact ⟨h', hh'.go fun j q1 q2 => (hq j (by omega)).trans (hc2 j (by omega))⟩
      · have hu' : u < L.length - 1 := by simpa using hu
        have e : (top' + m - L.dropLast.length + u) % m = (top + m - L.length + u) % m := by rw [ht, show L.dropLast.length = L.length - 1 by simp]; rcases hm with rfl | rfl <;> split <;> omega
        rw [e]
        have hlt := Nat.mod_lt (top + m - L.length + u) (show 0 < m by omega)
        have e2 : L.dropLast.getD u noH = L.getD u noH := by
          rw [List.getD_eq_getElem?_getD, List.getD_eq_getElem?_getD, List.dropLast_eq_take, List.getElem?_take, if_pos hu']
        rw [e2]
        exact (h5 u (by omega)).go fun j q1 q2 => (hq j (by omega)).trans (hc2 j (by omega))
      · rw [if_pos hlp]
        exact hc1.go fun j q1 q2 => hq j (by omega)
  refine x_aload_n (pc := 0) dX4_takeLatest_0 rfl ?_
  refine x_getf (pc := 1) dX4_takeLatest_1 kf_X4_26 (by assumption) (by rfl) ?_
  refine x_if_le (pc := 4) dX4_takeLatest_4 (tgt := 16) (by decide) (fun h_4 => ?_) (fun h_4 => ?_)
  · skip
    try first | rw [n_b0] at h_4 | rw [n_le0 (by omega)] at h_4
    have he : m - 1 = (if 0 < top then top - 1 else m - 1) := by rw [if_neg (by omega)]
    refine x_aload_n (pc := 16) dX4_takeLatest_16 rfl ?_
    refine x_getf (pc := 17) dX4_takeLatest_17 kf_X4_15 (by assumption) (by rfl) ?_
    first | refine x_alenI (pc := 20) dX4_takeLatest_20 (by assumption) ?_ | refine x_alenQ (pc := 20) dX4_takeLatest_20 (by assumption) ?_
    refine x_iconst (pc := 21) dX4_takeLatest_21 (v := nI 1) (by decide) ?_
    first | refine xn_isub (pc := 22) dX4_takeLatest_22 (by omega) ?_ | refine x_isub (pc := 22) dX4_takeLatest_22 ?_
    refine x_istore_n (pc := 23) dX4_takeLatest_23 rfl ?_
    exact tail _ _ he rfl
  · skip
    try first | rw [n_b0] at h_4 | rw [n_le0 (by omega)] at h_4
    have he : top - 1 = (if 0 < top then top - 1 else m - 1) := by rw [if_pos (by omega)]
    refine x_aload_n (pc := 7) dX4_takeLatest_7 rfl ?_
    refine x_getf (pc := 8) dX4_takeLatest_8 kf_X4_26 (by assumption) (by rfl) ?_
    refine x_iconst (pc := 11) dX4_takeLatest_11 (v := nI 1) (by decide) ?_
    first | refine xn_isub (pc := 12) dX4_takeLatest_12 (by omega) ?_ | refine x_isub (pc := 12) dX4_takeLatest_12 ?_
    refine x_goto (pc := 13) dX4_takeLatest_13 (tgt := 23) (by decide) ?_
    refine x_istore_n (pc := 23) dX4_takeLatest_23 rfl ?_
    exact tail _ _ he rfl
