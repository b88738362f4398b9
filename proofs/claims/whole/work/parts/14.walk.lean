/-! all WHOLE CHAINS behind a row, the lowest STATEMENT first -/
def extF (f : Nat → List (List Nat)) (op : Nat) : Nat → Nat → List (List Nat)
  | 0, _ => []
  | k + 1, b => (if op.testBit b then (f b).map (fun p => b :: p) else []) ++ extF f op k (b + 1)
def pthF (C : Crt) (sk : Nat) : Nat → Nat → Nat → List (List Nat)
  | 0, _, last => if kd C last = 4 then [[]] else []
  | m + 1, ch, last => if kd C last = 4 then [[]] else extF (fun b => pthF C sk m (ch ||| 2 ^ b) b) (opn C last ch sk) 10 0
theorem extF_len {f : Nat → List (List Nat)} {op N : Nat} (h : ∀ b, (f b).length ≤ N) : ∀ k b, (extF f op k b).length ≤ k * N
  | 0, _ => by simp [extF]
  | k + 1, b => by
    have h1 := extF_len (f := f) (op := op) h k (b + 1)
    have h2 := h b
    simp only [extF, List.length_append, Nat.succ_mul]
    split
    · rw [List.length_map]; omega
    · simp; omega
theorem pthF_len (C : Crt) (sk : Nat) : ∀ m ch last, (pthF C sk m ch last).length ≤ 10 ^ m
  | 0, ch, last => by simp only [pthF]; split <;> simp
  | m + 1, ch, last => by
    simp only [pthF]
    split
    · exact Nat.one_le_pow _ _ (by decide)
    · have := extF_len (f := fun b => pthF C sk m (ch ||| 2 ^ b) b) (op := opn C last ch sk) (N := 10 ^ m) (fun b => pthF_len C sk m _ b) 10 0
      rw [Nat.pow_succ]
      omega
/-- a row and what comes behind its first L -/
def appR (row : Nat → Nat) (L : Nat) (p : List Nat) : (Nat → Nat) × Nat := (fun i => if i < L then row i else p.getD (i - L) 0, L + p.length)
theorem appR_cons (row : Nat → Nat) (L b : Nat) (p : List Nat) : appR row L (b :: p) = appR (fup row L b) (L + 1) p := by
  unfold appR
  refine Prod.ext (funext fun i => ?_) (by simp; omega)
  show (if i < L then row i else (b :: p).getD (i - L) 0) = if i < L + 1 then fup row L b i else p.getD (i - (L + 1)) 0
  by_cases h : i < L
  · rw [if_pos h, if_pos (by omega), fup_ne _ _ (by omega)]
  · rw [if_neg h]
    by_cases h2 : i = L
    · subst h2
      rw [if_pos (by omega), fup_same]
      simp
    · rw [if_neg (by omega), show i - L = (i - (L + 1)) + 1 by omega]
      simp
def foldN (C : Crt) (v : Srv) (l : List ((Nat → Nat) × Nat)) : Srv := l.foldl (fun v q => noteS C v q.1 q.2) v
theorem foldN_app (C : Crt) (v : Srv) (l l2 : List ((Nat → Nat) × Nat)) : foldN C v (l ++ l2) = foldN C (foldN C v l) l2 := List.foldl_append
theorem foldN_fo (C : Crt) : ∀ (l : List ((Nat → Nat) × Nat)) (v : Srv), v_fo (foldN C v l) = v_fo v + l.length
  | [], v => rfl
  | q :: l, v => by
    show v_fo (foldN C (noteS C v q.1 q.2) l) = _
    rw [foldN_fo C l]
    show v_fo v + 1 + l.length = v_fo v + (l.length + 1)
    omega
theorem mbP_fup {row : Nat → Nat} {L b : Nat} : mbP (fup row L b) (L + 1) = mbP row L ||| 2 ^ b := by
  simp only [mbP]
  rw [fup_same, mbP_congr fun i hi => fup_ne row b (show i ≠ L by omega)]
theorem c_walk {k s : Nat} {C : Crt} (ok : okC C) {sk : Nat} (hks : k + 4 ≤ s ∨ s + 6 ≤ k) {n : Nat} : ∀ (m L : Nat) (row : Nat → Nat) (v : Srv) (w : ax_W) (fr : Nat → Int32), L + m = 10 → 0 < L → isV w k v → okV v → isC w s C → w (k + 1) = ai 10 fr → (∀ i, i < L → fr i = nI (row i) ∧ row i < cn C) → v_fo v + (pthF C sk m (mbP row L) (row (L - 1))).length < 2147483647 →
    Run m_X5_walk (4 + m) 0 0 0 (l_ent m_X5_walk [.ref k, .ref s, .int (nI sk), .int (nI (mbP row L)), .int (nI L)]) [] w n (Vo (fun w' => isV w' k (foldN C v ((pthF C sk m (mbP row L) (row (L - 1))).map (appR row L))) ∧ okV (foldN C v ((pthF C sk m (mbP row L) (row (L - 1))).map (appR row L))) ∧ (∃ fr' : Nat → Int32, w' (k + 1) = ai 10 fr' ∧ ∀ i, i < L → fr' i = fr i) ∧ sameW w w' k 4) n) := by
  have hn := ok.1
  intro m
  induction m with
  | zero =>
    intro L row v w fr hLm h0 hV hv hC hfr0 hrow hb
    have hx := (hrow (L - 1) (by omega)).2
    have hr : ∀ i, i < L → row i < cn C := fun i hi => (hrow i hi).2
    have hVk := hV.1
    have hCk := hC.1
    refine x_aload_n (pc := 0) dX5_walk_0 rfl ?_
    refine x_getf (pc := 1) dX5_walk_1 kf_X5_9 (by assumption) (by rfl) ?_
    refine x_iload (pc := 4) dX5_walk_4 rfl ?_
    refine x_iconst (pc := 6) dX5_walk_6 (v := nI 1) (by decide) ?_
    first | refine xn_isub (pc := 7) dX5_walk_7 (by omega) ?_ | refine x_isub (pc := 7) dX5_walk_7 ?_
    refine x_cs2p (pc := 8) dX5_walk_8 ks_X5_50 (by omega) (by rfl) (by rfl) (by rfl) (c_at hfr0 (by omega) (by omega)) ?_
    rw [(hrow (L - 1) (by omega)).1]
    refine x_istore (pc := 11) dX5_walk_11 rfl ?_
    refine x_aload_n (pc := 13) dX5_walk_13 rfl ?_
    refine x_iload (pc := 14) dX5_walk_14 rfl ?_
    refine x_cv1p (ci := 0) (pc := 16) dX5_walk_16 ks_X5_54 (by assumption) (by rfl) (by omega) (by rfl) (by rfl) (by rfl) (c_isNight hC ok _) ?_
    rw [ntB_n ok hx]
    refine x_if_eq (pc := 19) dX5_walk_19 (tgt := 31) (by decide) (fun h_19 => ?_) (fun h_19 => ?_)
    · skip
      try first | rw [n_b0] at h_19 | rw [n_eq0 (by omega)] at h_19
      simp at h_19
      have hp : pthF C sk 0 (mbP row L) (row (L - 1)) = [] := by simp only [pthF]; rw [if_neg h_19]
      rw [hp]
      refine x_iload (pc := 31) dX5_walk_31 rfl ?_
      refine x_bipush (pc := 33) dX5_walk_33 (v := nI 10) (by decide) ?_
      refine x_icmp_lt_f (pc := 35) dX5_walk_35 (tgt := 39) (by decide) (by rw [n_lt (by omega) (by omega)]; omega) ?_
      refine x_vret (pc := 38) dX5_walk_38 rfl ?_
      exact vo_i ⟨hV, hv, ⟨fr, hfr0, fun _ _ => rfl⟩, fun _ _ => rfl⟩
    · skip
      try first | rw [n_b0] at h_19 | rw [n_eq0 (by omega)] at h_19
      simp at h_19
      have hp : pthF C sk 0 (mbP row L) (row (L - 1)) = [[]] := by simp only [pthF]; rw [if_pos h_19]
      rw [hp] at hb ⊢
      have happ : appR row L [] = (fun i => if i < L then row i else 0, L) := by unfold appR; simp
      have hmb : mbP row L = mbP (appR row L []).1 L := mbP_congr fun i hi => (if_pos hi).symm
      have hrow' : ∀ i, i < L → fr i = nI ((appR row L []).1 i) ∧ (appR row L []).1 i < cn C := fun i hi => by rw [show (appR row L []).1 i = row i from if_pos hi]; exact hrow i hi
      have hcn := c_note (n := n) ok hV hv hC hks h0 (by omega) hfr0 hrow' (by simp at hb; omega)
      rw [← hmb] at hcn
      refine x_aload_n (pc := 22) dX5_walk_22 rfl ?_
      refine x_aload_n (pc := 23) dX5_walk_23 rfl ?_
      refine x_iload_n (pc := 24) dX5_walk_24 rfl ?_
      refine x_iload (pc := 25) dX5_walk_25 rfl ?_
      refine x_cv3 (q1 := 0) (q2 := 0) (ci := 5) (pc := 27) dX5_walk_27 ks_X5_60 (by assumption) (by rfl) (by omega) (by rfl) (by rfl) (by rfl) (hcn) (vo_kk fun w hP => ?_)
      obtain ⟨q1, q2, q3⟩ := hP
      refine x_vret (pc := 30) dX5_walk_30 rfl ?_
      exact vo_i ⟨q1, okV_note ok hv h0 (show L ≤ 10 by omega) (fun i hi => (hrow' i hi).2), ⟨fr, q2.trans hfr0, fun _ _ => rfl⟩, q3⟩
  | succ m ih =>
    intro L row v w fr hLm h0 hV hv hC hfr0 hrow hb
    have hx := (hrow (L - 1) (by omega)).2
    have hr : ∀ i, i < L → row i < cn C := fun i hi => (hrow i hi).2
    have hop := opn_1024 ok (ch := mbP row L) (sk := sk) hx
    have hopn := opn_lt ok (ch := mbP row L) (sk := sk) hx
    have loop : ∀ (kk b : Nat) (v : Srv) (w : ax_W) (fr : Nat → Int32), b + kk = 10 → isV w k v → okV v → isC w s C → w (k + 1) = ai 10 fr → (∀ i, i < L → fr i = nI (row i) ∧ row i < cn C) → v_fo v + (extF (fun b => pthF C sk m (mbP row L ||| 2 ^ b) b) (opn C (row (L - 1)) (mbP row L) sk) kk b).length < 2147483647 →
        Run m_X5_walk (4 + (m + 1)) 0 0 52 [some (.ref k), some (.ref s), some (.int (nI sk)), some (.int (nI (mbP row L))), some (.int (nI L)), some (.int (nI (row (L - 1)))), some (.int (nI (opn C (row (L - 1)) (mbP row L) sk))), some (.int (nI b))] [] w n
          (Vo (fun w' => isV w' k (foldN C v ((extF (fun b => pthF C sk m (mbP row L ||| 2 ^ b) b) (opn C (row (L - 1)) (mbP row L) sk) kk b).map (appR row L))) ∧ okV (foldN C v ((extF (fun b => pthF C sk m (mbP row L ||| 2 ^ b) b) (opn C (row (L - 1)) (mbP row L) sk) kk b).map (appR row L))) ∧ (∃ fr' : Nat → Int32, w' (k + 1) = ai 10 fr' ∧ ∀ i, i < L → fr' i = fr i) ∧ sameW w w' k 4) n) := by
      intro kk
      induction kk with
      | zero =>
        intro b v w fr hbk hV hv hC hfr0 hrow hb
        refine x_iload (pc := 52) dX5_walk_52 rfl ?_
        refine x_bipush (pc := 54) dX5_walk_54 (v := nI 10) (by decide) ?_
        refine x_icmp_ge_t (pc := 56) dX5_walk_56 (tgt := 103) (by decide) (nI_le (by omega) (by omega)) ?_
        refine x_vret (pc := 103) dX5_walk_103 rfl ?_
        exact vo_i ⟨hV, hv, ⟨fr, hfr0, fun _ _ => rfl⟩, fun _ _ => rfl⟩
      | succ kk ihk =>
        intro b v w fr hbk hV hv hC hfr0 hrow hb
        have hVk := hV.1
        refine x_iload (pc := 52) dX5_walk_52 rfl ?_
        refine x_bipush (pc := 54) dX5_walk_54 (v := nI 10) (by decide) ?_
        refine x_icmp_ge_f (pc := 56) dX5_walk_56 (tgt := 103) (by decide) (nI_ge (by omega) (by omega)) ?_
        refine x_iload (pc := 59) dX5_walk_59 rfl ?_
        refine x_iload (pc := 61) dX5_walk_61 rfl ?_
        refine x_cs2p (pc := 63) dX5_walk_63 ks_X5_34 (by omega) (by rfl) (by rfl) (by rfl) (c_has (by omega) (by omega)) ?_
        refine x_if_eq (pc := 66) dX5_walk_66 (tgt := 97) (by decide) (fun h_66 => ?_) (fun h_66 => ?_)
        · skip
          try first | rw [n_b0] at h_66 | rw [n_eq0 (by omega)] at h_66
          have he : extF (fun b => pthF C sk m (mbP row L ||| 2 ^ b) b) (opn C (row (L - 1)) (mbP row L) sk) (kk + 1) b = extF (fun b => pthF C sk m (mbP row L ||| 2 ^ b) b) (opn C (row (L - 1)) (mbP row L) sk) kk (b + 1) := by rw [extF, if_neg (by rw [h_66]; decide)]; rfl
          rw [he] at hb ⊢
          refine xn_iinc (pc := 97) dX5_walk_97 rfl rfl ?_
          refine x_goto (pc := 100) dX5_walk_100 (tgt := 52) (by decide) ?_
          exact ihk (b + 1) v w fr (by omega) hV hv hC hfr0 hrow hb
        · skip
          try first | rw [n_b0] at h_66 | rw [n_eq0 (by omega)] at h_66
          simp only [Bool.not_eq_false] at h_66
          have hbn := bit_in hopn h_66
          have he : extF (fun b => pthF C sk m (mbP row L ||| 2 ^ b) b) (opn C (row (L - 1)) (mbP row L) sk) (kk + 1) b = (pthF C sk m (mbP row L ||| 2 ^ b) b).map (fun p => b :: p) ++ extF (fun b => pthF C sk m (mbP row L ||| 2 ^ b) b) (opn C (row (L - 1)) (mbP row L) sk) kk (b + 1) := by rw [extF, if_pos h_66]
          rw [he] at hb ⊢
          rw [List.length_append, List.length_map] at hb
          refine x_aload_n (pc := 69) dX5_walk_69 rfl ?_
          refine x_getf (pc := 70) dX5_walk_70 kf_X5_9 (by assumption) (by rfl) ?_
          refine x_iload (pc := 73) dX5_walk_73 rfl ?_
          refine x_iload (pc := 75) dX5_walk_75 rfl ?_
          refine x_cs3 (q1 := 0) (q2 := 0) (pc := 77) dX5_walk_77 ks_X5_38 (by omega) (by rfl) (by rfl) (by rfl) (c_put hfr0 (by omega) (by omega)) (vo_kk fun w hP => ?_)
          obtain ⟨hnew, hne⟩ := hP
          have hV1 : isV w k v := by
            obtain ⟨i0, i1, i2, i3, i4, i5, i6, i7, i8⟩ := hV
            exact ⟨(hne _ (by omega)).trans i0, _, i2, i3, hnew, (hne _ (by omega)).trans i5, (hne _ (by omega)).trans i6, i7, i8⟩
          have hC1 : isC w s C := hC.go fun j _ _ => hne j (by omega)
          have hrow1 : ∀ i, i < L + 1 → upd fr L (nI b) i = nI (fup row L b i) ∧ fup row L b i < cn C := by
            intro i hi
            by_cases hiL : i = L
            · subst hiL; rw [upd_same, fup_same]; exact ⟨rfl, hbn⟩
            · rw [upd_ne _ _ hiL, fup_ne _ _ hiL]; exact hrow i (by omega)
          have hih := ih (L + 1) (fup row L b) v w (upd fr L (nI b)) (by omega) (by omega) hV1 hv hC1 hnew hrow1 (by rw [mbP_fup, Nat.add_sub_cancel, fup_same]; omega)
          rw [mbP_fup, Nat.add_sub_cancel, fup_same] at hih
          have hmm : (pthF C sk m (mbP row L ||| 2 ^ b) b).map (appR (fup row L b) (L + 1)) = ((pthF C sk m (mbP row L ||| 2 ^ b) b).map (fun p => b :: p)).map (appR row L) := by
            rw [List.map_map]
            exact List.map_congr_left fun p _ => (appR_cons row L b p).symm
          rw [hmm] at hih
          refine x_aload_n (pc := 80) dX5_walk_80 rfl ?_
          refine x_aload_n (pc := 81) dX5_walk_81 rfl ?_
          refine x_iload_n (pc := 82) dX5_walk_82 rfl ?_
          refine x_iload_n (pc := 83) dX5_walk_83 rfl ?_
          refine x_iload (pc := 84) dX5_walk_84 rfl ?_
          refine x_cs1p (pc := 86) dX5_walk_86 ks_X5_42 (by omega) (by rfl) (by rfl) (by rfl) (c_bit (by omega)) ?_
          first | refine xn_ior (pc := 89) dX5_walk_89 ?_ | refine x_ior (pc := 89) dX5_walk_89 ?_
          refine x_iload (pc := 90) dX5_walk_90 rfl ?_
          refine x_iconst (pc := 92) dX5_walk_92 (v := nI 1) (by decide) ?_
          first | refine xn_iadd (pc := 93) dX5_walk_93 ?_ | refine x_iadd (pc := 93) dX5_walk_93 ?_
          refine x_cs5 (q1 := 0) (q2 := 0) (pc := 94) dX5_walk_94 ks_X5_46 (by omega) (by rfl) (by rfl) (by rfl) (hih) (vo_kk fun w hP => ?_)
          obtain ⟨j1, j2, ⟨fr2, j3, j4⟩, j5⟩ := hP
          refine xn_iinc (pc := 97) dX5_walk_97 rfl rfl ?_
          refine x_goto (pc := 100) dX5_walk_100 (tgt := 52) (by decide) ?_
          refine (ihk (b + 1) _ w fr2 (by omega) j1 j2 (hC1.go fun j _ _ => j5 j (by omega)) j3 (fun i hi => by rw [j4 i (by omega), upd_ne _ _ (by omega)]; exact hrow i hi) (by rw [foldN_fo, List.length_map, List.length_map]; omega)).mono ?_
          intro r w' n' hq
          obtain ⟨z1, z2, z3, z4, ⟨fr3, z5, z6⟩, z7⟩ := hq
          refine ⟨z1, z2, ?_, ?_, ⟨fr3, z5, fun i hi => ?_⟩, fun j hj => (z7 j hj).trans ((j5 j hj).trans (hne j (by omega)))⟩
          · rw [List.map_append, foldN_app]; exact z3
          · rw [List.map_append, foldN_app]; exact z4
          · rw [z6 i hi, j4 i (by omega), upd_ne _ _ (by omega)]
    have hVk := hV.1
    have hCk := hC.1
    refine x_aload_n (pc := 0) dX5_walk_0 rfl ?_
    refine x_getf (pc := 1) dX5_walk_1 kf_X5_9 (by assumption) (by rfl) ?_
    refine x_iload (pc := 4) dX5_walk_4 rfl ?_
    refine x_iconst (pc := 6) dX5_walk_6 (v := nI 1) (by decide) ?_
    first | refine xn_isub (pc := 7) dX5_walk_7 (by omega) ?_ | refine x_isub (pc := 7) dX5_walk_7 ?_
    refine x_cs2p (pc := 8) dX5_walk_8 ks_X5_50 (by omega) (by rfl) (by rfl) (by rfl) (c_at hfr0 (by omega) (by omega)) ?_
    rw [(hrow (L - 1) (by omega)).1]
    refine x_istore (pc := 11) dX5_walk_11 rfl ?_
    refine x_aload_n (pc := 13) dX5_walk_13 rfl ?_
    refine x_iload (pc := 14) dX5_walk_14 rfl ?_
    refine x_cv1p (ci := 0) (pc := 16) dX5_walk_16 ks_X5_54 (by assumption) (by rfl) (by omega) (by rfl) (by rfl) (by rfl) (c_isNight hC ok _) ?_
    rw [ntB_n ok hx]
    refine x_if_eq (pc := 19) dX5_walk_19 (tgt := 31) (by decide) (fun h_19 => ?_) (fun h_19 => ?_)
    · skip
      try first | rw [n_b0] at h_19 | rw [n_eq0 (by omega)] at h_19
      simp at h_19
      have hp : pthF C sk (m + 1) (mbP row L) (row (L - 1)) = extF (fun b => pthF C sk m (mbP row L ||| 2 ^ b) b) (opn C (row (L - 1)) (mbP row L) sk) 10 0 := by simp only [pthF]; rw [if_neg h_19]
      rw [hp] at hb ⊢
      refine x_iload (pc := 31) dX5_walk_31 rfl ?_
      refine x_bipush (pc := 33) dX5_walk_33 (v := nI 10) (by decide) ?_
      refine x_icmp_lt_t (pc := 35) dX5_walk_35 (tgt := 39) (by decide) (by rw [n_lt (by omega) (by omega)]; omega) ?_
      refine x_aload_n (pc := 39) dX5_walk_39 rfl ?_
      refine x_iload (pc := 40) dX5_walk_40 rfl ?_
      refine x_iload_n (pc := 42) dX5_walk_42 rfl ?_
      refine x_iload_n (pc := 43) dX5_walk_43 rfl ?_
      refine x_cs4p (pc := 44) dX5_walk_44 ks_X5_64 (by omega) (by rfl) (by rfl) (by rfl) (c_openBehind hC ok hx) ?_
      refine x_istore (pc := 47) dX5_walk_47 rfl ?_
      refine x_iconst (pc := 49) dX5_walk_49 (v := nI 0) (by decide) ?_
      refine x_istore (pc := 50) dX5_walk_50 rfl ?_
      exact loop 10 0 v w fr (by omega) hV hv hC hfr0 hrow hb
    · skip
      try first | rw [n_b0] at h_19 | rw [n_eq0 (by omega)] at h_19
      simp at h_19
      have hp : pthF C sk (m + 1) (mbP row L) (row (L - 1)) = [[]] := by simp only [pthF]; rw [if_pos h_19]
      rw [hp] at hb ⊢
      have hmb : mbP row L = mbP (appR row L []).1 L := mbP_congr fun i hi => (if_pos hi).symm
      have hrow' : ∀ i, i < L → fr i = nI ((appR row L []).1 i) ∧ (appR row L []).1 i < cn C := fun i hi => by rw [show (appR row L []).1 i = row i from if_pos hi]; exact hrow i hi
      have hcn := c_note (n := n) ok hV hv hC hks h0 (by omega) hfr0 hrow' (by simp at hb; omega)
      rw [← hmb] at hcn
      refine x_aload_n (pc := 22) dX5_walk_22 rfl ?_
      refine x_aload_n (pc := 23) dX5_walk_23 rfl ?_
      refine x_iload_n (pc := 24) dX5_walk_24 rfl ?_
      refine x_iload (pc := 25) dX5_walk_25 rfl ?_
      refine x_cv3 (q1 := 0) (q2 := 0) (ci := 5) (pc := 27) dX5_walk_27 ks_X5_60 (by assumption) (by rfl) (by omega) (by rfl) (by rfl) (by rfl) (hcn) (vo_kk fun w hP => ?_)
      obtain ⟨q1, q2, q3⟩ := hP
      refine x_vret (pc := 30) dX5_walk_30 rfl ?_
      exact vo_i ⟨q1, okV_note ok hv h0 (show L ≤ 10 by omega) (fun i hi => (hrow' i hi).2), ⟨fr, q2.trans hfr0, fun _ _ => rfl⟩, q3⟩
/-- the WHOLE CHAINS of a VERDICT -/
def rowsS (C : Crt) (sk v : Nat) : List (List Nat) := if sk.testBit v then [] else (pthF C sk 9 (2 ^ v) v).map (fun p => v :: p)
theorem rowsS_len (C : Crt) (sk v : Nat) : (rowsS C sk v).length ≤ 1000000000 := by
  unfold rowsS
  split
  · simp
  · rw [List.length_map]
    exact Nat.le_trans (pthF_len C sk 9 _ _) (by decide)
def asR (l : List Nat) : (Nat → Nat) × Nat := (fun i => l.getD i 0, l.length)
/-- what is known of all WHOLE CHAINS of the VERDICT v, whatever the survey held before -/
def surS (C : Crt) (sk v : Nat) (s0 : Srv) : Srv := foldN C (0, v_bc s0, v_bl s0, v_br s0, v_fe s0, 0, 0, 0, v_le s0) ((rowsS C sk v).map asR)
theorem c_walkAll {k s : Nat} {C : Crt} (ok : okC C) {sk v : Nat} (hsk : sk < 1024) (hv : v < cn C) (hks : k + 4 ≤ s ∨ s + 6 ≤ k) {n : Nat} {w : ax_W} {s0 : Srv} (hV : isV w k s0) (h0 : okV s0) (hC : isC w s C) :
    Run m_X5_walkAll 14 0 0 0 (l_ent m_X5_walkAll [.ref k, .ref s, .int (nI v), .int (nI sk)]) [] w n (Vo (fun w' => isV w' k (surS C sk v s0) ∧ okV (surS C sk v s0) ∧ sameW w w' k 4) n) := by
  have hn := ok.1
  obtain ⟨hK, fr, fb, fl, g1, g2, g3, g4, g5⟩ := hV
  obtain ⟨o1, o2, o3, o4, o5, o6, o7⟩ := h0
  have ho : okV (0, v_bc s0, v_bl s0, v_br s0, v_fe s0, 0, 0, 0, v_le s0) := ⟨o1, o2, o3, by show 0 < 1024; decide, by show 0 < 1024; decide, by show 0 < 1024; decide, o7⟩
  have hfr : ∀ j, (j < k ∨ k + 4 ≤ j) → w j = w j := fun _ _ => rfl
  refine x_aload_n (pc := 0) dX5_walkAll_0 rfl ?_
  refine x_iconst (pc := 1) dX5_walkAll_1 (v := nI 0) (by decide) ?_
  refine xw_puti (pc := 2) dX5_walkAll_2 kf_X5_21 (by assumption) (by rfl) (by rfl) rfl rfl (fun w hnew hne => ?_)
  replace hK := hnew
  replace g1 := (hne _ (by omega)).trans g1
  replace g2 := (hne _ (by omega)).trans g2
  replace g3 := (hne _ (by omega)).trans g3
  replace hfr := fun j (hj : j < k ∨ k + 4 ≤ j) => (hne j (by omega)).trans (hfr j hj)
  clear hne
  refine x_aload_n (pc := 5) dX5_walkAll_5 rfl ?_
  refine x_iconst (pc := 6) dX5_walkAll_6 (v := nI 0) (by decide) ?_
  refine xw_puti (pc := 7) dX5_walkAll_7 kf_X5_25 (by assumption) (by rfl) (by rfl) rfl rfl (fun w hnew hne => ?_)
  replace hK := hnew
  replace g1 := (hne _ (by omega)).trans g1
  replace g2 := (hne _ (by omega)).trans g2
  replace g3 := (hne _ (by omega)).trans g3
  replace hfr := fun j (hj : j < k ∨ k + 4 ≤ j) => (hne j (by omega)).trans (hfr j hj)
  clear hne
  refine x_aload_n (pc := 10) dX5_walkAll_10 rfl ?_
  refine x_iconst (pc := 11) dX5_walkAll_11 (v := nI 0) (by decide) ?_
  refine xw_puti (pc := 12) dX5_walkAll_12 kf_X5_28 (by assumption) (by rfl) (by rfl) rfl rfl (fun w hnew hne => ?_)
  replace hK := hnew
  replace g1 := (hne _ (by omega)).trans g1
  replace g2 := (hne _ (by omega)).trans g2
  replace g3 := (hne _ (by omega)).trans g3
  replace hfr := fun j (hj : j < k ∨ k + 4 ≤ j) => (hne j (by omega)).trans (hfr j hj)
  clear hne
  refine x_aload_n (pc := 15) dX5_walkAll_15 rfl ?_
  refine x_iconst (pc := 16) dX5_walkAll_16 (v := nI 0) (by decide) ?_
  refine xw_puti (pc := 17) dX5_walkAll_17 kf_X5_31 (by assumption) (by rfl) (by rfl) rfl rfl (fun w hnew hne => ?_)
  replace hK := hnew
  replace g1 := (hne _ (by omega)).trans g1
  replace g2 := (hne _ (by omega)).trans g2
  replace g3 := (hne _ (by omega)).trans g3
  replace hfr := fun j (hj : j < k ∨ k + 4 ≤ j) => (hne j (by omega)).trans (hfr j hj)
  clear hne
  refine x_iload_n (pc := 20) dX5_walkAll_20 rfl ?_
  refine x_iload_n (pc := 21) dX5_walkAll_21 rfl ?_
  refine x_cs2p (pc := 22) dX5_walkAll_22 ks_X5_34 (by omega) (by rfl) (by rfl) (by rfl) (c_has (by omega) (by omega)) ?_
  refine x_if_ne (pc := 25) dX5_walkAll_25 (tgt := 48) (by decide) (fun h_25 => ?_) (fun h_25 => ?_)
  · skip
    try first | rw [n_b0] at h_25 | rw [n_eq0 (by omega)] at h_25
    have hr : rowsS C sk v = [] := by simp only [Bool.not_eq_false] at h_25; rw [rowsS, if_pos h_25]
    refine x_vret (pc := 48) dX5_walkAll_48 rfl ?_
    first | exact vo_i ⟨q1, q2, fun j hj => (q4 j hj).trans (hfr j hj)⟩ | exact vo_i ⟨by rw [surS, hr]; exact ⟨hK, fr, fb, fl, g1, g2, g3, g4, g5⟩, by rw [surS, hr]; exact ho, hfr⟩
  · replace h_25 := Classical.not_not.mp h_25
    try first | rw [n_b0] at h_25 | rw [n_eq0 (by omega)] at h_25
    have hr : rowsS C sk v = (pthF C sk 9 (2 ^ v) v).map (fun p => v :: p) := by rw [rowsS, if_neg (by rw [h_25]; decide)]
    refine x_aload_n (pc := 28) dX5_walkAll_28 rfl ?_
    refine x_getf (pc := 29) dX5_walkAll_29 kf_X5_9 (by assumption) (by rfl) ?_
    refine x_iconst (pc := 32) dX5_walkAll_32 (v := nI 0) (by decide) ?_
    refine x_iload_n (pc := 33) dX5_walkAll_33 rfl ?_
    refine x_cs3 (q1 := 0) (q2 := 0) (pc := 34) dX5_walkAll_34 ks_X5_38 (by omega) (by rfl) (by rfl) (by rfl) (c_put g1 (by omega) (by omega)) (vo_kk fun w hP => ?_)
    obtain ⟨hnew, hne⟩ := hP
    replace hK := (hne _ (by omega)).trans hK
    replace g1 := hnew
    replace g2 := (hne _ (by omega)).trans g2
    replace g3 := (hne _ (by omega)).trans g3
    replace hfr := fun j (hj : j < k ∨ k + 4 ≤ j) => (hne j (by omega)).trans (hfr j hj)
    clear hne
    have hVn : isV w k (0, v_bc s0, v_bl s0, v_br s0, v_fe s0, 0, 0, 0, v_le s0) := ⟨hK, _, fb, fl, g1, g2, g3, g4, g5⟩
    have hC1 : isC w s C := hC.go fun j _ _ => hfr j (by omega)
    have hlen := pthF_len C sk 9 (2 ^ v) v
    have hmb : mbP (fun _ => v) 1 = 2 ^ v := by simp [mbP]
    have hwk := c_walk (sk := sk) (n := n) ok hks 9 1 (fun _ => v) _ w _ (by omega) (by omega) hVn ho hC1 g1 (fun i hi => by rw [show i = 0 by omega, upd_same]; exact ⟨rfl, hv⟩) (by rw [hmb]; show 0 + _ < _; simp only [Nat.reducePow] at hlen; omega)
    rw [hmb] at hwk
    have hmm : (pthF C sk 9 (2 ^ v) v).map (appR (fun _ => v) 1) = (rowsS C sk v).map asR := by
      rw [hr, List.map_map]
      refine List.map_congr_left fun p _ => ?_
      unfold appR asR
      refine Prod.ext (funext fun i => ?_) (by simp; omega)
      cases i with
      | zero => rfl
      | succ i => simp
    rw [hmm] at hwk
    refine x_aload_n (pc := 37) dX5_walkAll_37 rfl ?_
    refine x_aload_n (pc := 38) dX5_walkAll_38 rfl ?_
    refine x_iload_n (pc := 39) dX5_walkAll_39 rfl ?_
    refine x_iload_n (pc := 40) dX5_walkAll_40 rfl ?_
    refine x_cs1p (pc := 41) dX5_walkAll_41 ks_X5_42 (by omega) (by rfl) (by rfl) (by rfl) (c_bit (by omega)) ?_
    refine x_iconst (pc := 44) dX5_walkAll_44 (v := nI 1) (by decide) ?_
    refine x_cs5 (q1 := 0) (q2 := 0) (pc := 45) dX5_walkAll_45 ks_X5_46 (by omega) (by rfl) (by rfl) (by rfl) (hwk) (vo_kk fun w hP => ?_)
    obtain ⟨q1, q2, -, q4⟩ := hP
    refine x_vret (pc := 48) dX5_walkAll_48 rfl ?_
    first | exact vo_i ⟨q1, q2, fun j hj => (q4 j hj).trans (hfr j hj)⟩ | exact vo_i ⟨by rw [surS, hr]; exact ⟨hK, fr, fb, fl, g1, g2, g3, g4, g5⟩, by rw [surS, hr]; exact ho, hfr⟩
