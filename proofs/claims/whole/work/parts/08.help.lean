/-! the small methods of HeardBackward -/
theorem c_outside {w : ax_W} {n : Nat} (x y z : Int32) : Run m_X6_outside 0 0 0 0 (l_ent m_X6_outside [.int x, .int y, .int z]) [] w n (Pu (.int (nI (bN (decide (x < y ∨ z < x))))) w n) := by
  refine x_iload_n (pc := 0) dX6_outside_0 rfl ?_
  refine x_iload_n (pc := 1) dX6_outside_1 rfl ?_
  refine x_icmp_lt (pc := 2) dX6_outside_2 (tgt := 10) (by decide) (fun h_2 => ?_) (fun h_2 => ?_)
  · skip
    try first | rw [n_b1] at h_2 | rw [n_b00] at h_2 | rw [n_lt (by omega) (by omega)] at h_2
    have hh : decide (x < y ∨ z < x) = true := by simp [h_2]
    refine x_iconst (pc := 10) dX6_outside_10 (v := nI 1) (by decide) ?_
    refine x_goto (pc := 11) dX6_outside_11 (tgt := 15) (by decide) ?_
    refine x_zret (pc := 15) dX6_outside_15 rfl (by first | decide | exact bN_lt _ | omega) ?_
    exact pu_n (by rw [hh]; rfl)
  · skip
    try first | rw [n_b1] at h_2 | rw [n_b00] at h_2 | rw [n_lt (by omega) (by omega)] at h_2
    refine x_iload_n (pc := 5) dX6_outside_5 rfl ?_
    refine x_iload_n (pc := 6) dX6_outside_6 rfl ?_
    refine x_icmp_le (pc := 7) dX6_outside_7 (tgt := 14) (by decide) (fun h_7 => ?_) (fun h_7 => ?_)
    · skip
      try first | rw [n_b1] at h_7 | rw [n_b00] at h_7 | rw [n_le (by omega) (by omega)] at h_7
      have hh : decide (x < y ∨ z < x) = false := by have := Int32.not_lt.mpr h_7; simp [h_2, this]
      refine x_iconst (pc := 14) dX6_outside_14 (v := nI 0) (by decide) ?_
      refine x_zret (pc := 15) dX6_outside_15 rfl (by first | decide | exact bN_lt _ | omega) ?_
      exact pu_n (by rw [hh]; rfl)
    · skip
      try first | rw [n_b1] at h_7 | rw [n_b00] at h_7 | rw [n_le (by omega) (by omega)] at h_7
      have hh : decide (x < y ∨ z < x) = true := by have := Int32.not_le.mp h_7; simp [this]
      refine x_iconst (pc := 10) dX6_outside_10 (v := nI 1) (by decide) ?_
      refine x_goto (pc := 11) dX6_outside_11 (tgt := 15) (by decide) ?_
      refine x_zret (pc := 15) dX6_outside_15 rfl (by first | decide | exact bN_lt _ | omega) ?_
      exact pu_n (by rw [hh]; rfl)
theorem c_asNumber {w : ax_W} {n : Nat} (b : Bool) : Run m_X6_asNumber 0 0 0 0 (l_ent m_X6_asNumber [.int (nI (bN b))]) [] w n (Pu (.int (nI (bN b))) w n) := by
  refine x_iload_n (pc := 0) dX6_asNumber_0 rfl ?_
  refine x_if_eq (pc := 1) dX6_asNumber_1 (tgt := 8) (by decide) (fun h_1 => ?_) (fun h_1 => ?_)
  · skip
    try first | rw [n_b0] at h_1 | rw [n_eq0 (by omega)] at h_1
    refine x_iconst (pc := 8) dX6_asNumber_8 (v := nI 0) (by decide) ?_
    refine x_iret (pc := 9) dX6_asNumber_9 rfl rfl ?_
    exact pu_n (by simp [h_1, bN])
  · skip
    try first | rw [n_b0] at h_1 | rw [n_eq0 (by omega)] at h_1
    refine x_iconst (pc := 4) dX6_asNumber_4 (v := nI 1) (by decide) ?_
    refine x_goto (pc := 5) dX6_asNumber_5 (tgt := 9) (by decide) ?_
    refine x_iret (pc := 9) dX6_asNumber_9 rfl rfl ?_
    exact pu_n (by simp [h_1, bN])
theorem c_bit {w : ax_W} {n : Nat} {a : Nat} (ha : a < 10) : Run m_X6_bit 0 0 0 0 (l_ent m_X6_bit [.int (nI a)]) [] w n (Pu (.int (nI (2 ^ a))) w n) := by
  refine x_iload_n (pc := 0) dX6_bit_0 rfl ?_
  refine x_if_lt_f (pc := 1) dX6_bit_1 (tgt := 16) (by decide) (nI_pos (by omega)) ?_
  refine x_iload_n (pc := 4) dX6_bit_4 rfl ?_
  refine x_bipush (pc := 5) dX6_bit_5 (v := nI 10) (by decide) ?_
  refine x_icmp_ge_f (pc := 7) dX6_bit_7 (tgt := 16) (by decide) (nI_ge (by omega) (by omega)) ?_
  refine x_iconst (pc := 10) dX6_bit_10 (v := nI 1) (by decide) ?_
  refine x_iload_n (pc := 11) dX6_bit_11 rfl ?_
  first | refine xn_shl1 (pc := 12) dX6_bit_12 (by omega) ?_ | refine xn_ishl (pc := 12) dX6_bit_12 (by omega) (by omega) ?_ | refine x_ishl (pc := 12) dX6_bit_12 ?_
  refine x_goto (pc := 13) dX6_bit_13 (tgt := 17) (by decide) ?_
  refine x_iret (pc := 17) dX6_bit_17 rfl rfl ?_
  exact pu_n rfl
theorem c_has {w : ax_W} {n : Nat} {m a : Nat} (hm : m < 2147483648) (ha : a < 10) : Run m_X6_has 0 0 0 0 (l_ent m_X6_has [.int (nI m), .int (nI a)]) [] w n (Pu (.int (nI (bN (m.testBit a)))) w n) := by
  refine x_iload_n (pc := 0) dX6_has_0 rfl ?_
  refine x_if_lt_f (pc := 1) dX6_has_1 (tgt := 23) (by decide) (nI_pos (by omega)) ?_
  refine x_iload_n (pc := 4) dX6_has_4 rfl ?_
  refine x_bipush (pc := 5) dX6_has_5 (v := nI 10) (by decide) ?_
  refine x_icmp_ge_f (pc := 7) dX6_has_7 (tgt := 23) (by decide) (nI_ge (by omega) (by omega)) ?_
  refine x_iload_n (pc := 10) dX6_has_10 rfl ?_
  refine x_iload_n (pc := 11) dX6_has_11 rfl ?_
  first | refine xn_ishr (pc := 12) dX6_has_12 (by omega) (by omega) ?_ | refine x_ishr (pc := 12) dX6_has_12 ?_
  refine x_iconst (pc := 13) dX6_has_13 (v := nI 1) (by decide) ?_
  first | refine xn_bit (pc := 14) dX6_has_14 ?_ | refine xn_nd (pc := 14) dX6_has_14 ?_ | refine xn_iand (pc := 14) dX6_has_14 ?_ | refine x_iand (pc := 14) dX6_has_14 ?_
  refine x_iconst (pc := 15) dX6_has_15 (v := nI 1) (by decide) ?_
  refine x_icmp_ne (pc := 16) dX6_has_16 (tgt := 23) (by decide) (fun h_16 => ?_) (fun h_16 => ?_)
  · skip
    try first | rw [n_b1] at h_16 | rw [n_b00] at h_16 | rw [n_eq (by omega) (by omega)] at h_16
    have hh : m.testBit a = false := by simpa using h_16
    refine x_iconst (pc := 23) dX6_has_23 (v := nI 0) (by decide) ?_
    refine x_zret (pc := 24) dX6_has_24 rfl (by first | decide | exact bN_lt _ | omega) ?_
    exact pu_n (by rw [hh]; rfl)
  · replace h_16 := Classical.not_not.mp h_16
    try first | rw [n_b1] at h_16 | rw [n_b00] at h_16 | rw [n_eq (by omega) (by omega)] at h_16
    have hh : m.testBit a = true := by simpa using h_16
    refine x_iconst (pc := 19) dX6_has_19 (v := nI 1) (by decide) ?_
    refine x_goto (pc := 20) dX6_has_20 (tgt := 24) (by decide) ?_
    refine x_zret (pc := 24) dX6_has_24 rfl (by first | decide | exact bN_lt _ | omega) ?_
    exact pu_n (by rw [hh]; rfl)
theorem c_at {w : ax_W} {n : Nat} {k N i : Nat} {f : Nat → Int32} (hw : w k = ai N f) (hi : i < N) (hN : N < 100000) : Run m_X6_at 0 0 0 0 (l_ent m_X6_at [.ref k, .int (nI i)]) [] w n (Pu (.int (f i)) w n) := by
  refine x_iload_n (pc := 0) dX6_at_0 rfl ?_
  refine x_if_lt_f (pc := 1) dX6_at_1 (tgt := 16) (by decide) (nI_pos (by omega)) ?_
  refine x_iload_n (pc := 4) dX6_at_4 rfl ?_
  refine x_aload_n (pc := 5) dX6_at_5 rfl ?_
  first | refine x_alenI (pc := 6) dX6_at_6 (by assumption) ?_ | refine x_alenQ (pc := 6) dX6_at_6 (by assumption) ?_
  refine x_icmp_ge_f (pc := 7) dX6_at_7 (tgt := 16) (by decide) (nI_ge (by omega) (by omega)) ?_
  refine x_aload_n (pc := 10) dX6_at_10 rfl ?_
  refine x_iload_n (pc := 11) dX6_at_11 rfl ?_
  refine x_iald (pc := 12) dX6_at_12 hw (n_in hi (by omega)) ?_
  rw [n_cl (by omega)]
  refine x_goto (pc := 13) dX6_at_13 (tgt := 17) (by decide) ?_
  refine x_iret (pc := 17) dX6_at_17 rfl rfl ?_
  exact pu_i rfl
theorem c_put {w : ax_W} {n : Nat} {k N i : Nat} {f : Nat → Int32} {x : Int32} (hw : w k = ai N f) (hi : i < N) (hN : N < 100000) : Run m_X6_put 0 0 0 0 (l_ent m_X6_put [.ref k, .int (nI i), .int x]) [] w n (Vo (fun w' => w' k = ai N (upd f i x) ∧ ∀ j, j ≠ k → w' j = w j) n) := by
  refine x_iload_n (pc := 0) dX6_put_0 rfl ?_
  refine x_if_lt_f (pc := 1) dX6_put_1 (tgt := 14) (by decide) (nI_pos (by omega)) ?_
  refine x_iload_n (pc := 4) dX6_put_4 rfl ?_
  refine x_aload_n (pc := 5) dX6_put_5 rfl ?_
  first | refine x_alenI (pc := 6) dX6_put_6 (by assumption) ?_ | refine x_alenQ (pc := 6) dX6_put_6 (by assumption) ?_
  refine x_icmp_ge_f (pc := 7) dX6_put_7 (tgt := 14) (by decide) (nI_ge (by omega) (by omega)) ?_
  refine x_aload_n (pc := 10) dX6_put_10 rfl ?_
  refine x_iload_n (pc := 11) dX6_put_11 rfl ?_
  refine x_iload_n (pc := 12) dX6_put_12 rfl ?_
  refine x_iast (pc := 13) dX6_put_13 hw (n_in hi (by omega)) ?_
  rw [n_cl (by omega)]
  refine x_vret (pc := 14) dX6_put_14 rfl ?_
  exact vo_i ⟨up_same _ _ _, fun j hj => up_ne _ _ hj⟩
/-! how many bits are set -/
theorem bc_all : ∀ m, m < 1024 → (let x0 := nI m
  let x1 := x0 - ((x0.toUInt32 >>> ((nI 1).toUInt32 &&& Int32.toUInt32 31)).toInt32 &&& 1431655765)
  let x2 := (x1 &&& 858993459) + ((x1.toUInt32 >>> ((nI 2).toUInt32 &&& Int32.toUInt32 31)).toInt32 &&& 858993459)
  let x3 := (x2 + (x2.toUInt32 >>> ((nI 4).toUInt32 &&& Int32.toUInt32 31)).toInt32) &&& 252645135
  let x4 := x3 + (x3.toUInt32 >>> ((nI 8).toUInt32 &&& Int32.toUInt32 31)).toInt32
  let x5 := x4 + (x4.toUInt32 >>> ((nI 16).toUInt32 &&& Int32.toUInt32 31)).toInt32
  x5 &&& nI 63) = nI (cnt m 10) := by decide +kernel
section LDCW
variable {M : ax_M} {d q1 q2 pc : Nat} {ls : List (Option Value)} {st : List Value} {w : ax_W} {n : Nat} {P : Option Value → ax_W → Nat → Prop}
theorem x_ldcw {idx : Nat} {v : Int32} (hd : decode M.2.1 pc = .ok (.ldc_w idx, 3)) (h : Cond.constant M.1.cls idx v ∈ TB) (kk : Run M d q1 q2 (pc + 3) ls (.int v :: st) w n P) : Run M d q1 q2 pc ls st w n P := by
  intro B D cA p l e R s m args below meth c H locs ls' cells slots mc ms C hH hF hL h4 h5 h6 h7
  exact lv_ldcw C.1 C.2.1 C.2.2.2.2.2.1 (C.2.2.2.2.2.2.2.1 _ h) hd (kk B D cA p l e R s m args below meth c H locs ls' cells slots mc ms C hH hF hL h4 h5 h6 h7)
theorem xn_iinck {i x y : Nat} {k : Int} (hd : decode M.2.1 pc = .ok (.iinc i k, 3)) (hk : Int32.ofInt k = nI y) (hl : ls[i]? = some (some (.int (nI x)))) (hi : Nat.blt i ls.length = true) (kk : Run M d q1 q2 (pc + 3) (l_set ls i (.int (nI (x + y)))) st w n P) : Run M d q1 q2 pc ls st w n P := x_iinc hd hl hi (by rw [hk, nI_add]; exact kk)
end LDCW
theorem c_bitCount {w : ax_W} {n : Nat} {m : Nat} (hm : m < 1024) : Run m_J6_bitCount_0f7a4 0 0 0 0 (l_ent m_J6_bitCount_0f7a4 [.int (nI m)]) [] w n (Pu (.int (nI (cnt m 10))) w n) := by
  refine x_iload_n (pc := 0) dJ6_bitCount_0f7a4_0 rfl ?_
  refine x_iload_n (pc := 1) dJ6_bitCount_0f7a4_1 rfl ?_
  refine x_iconst (pc := 2) dJ6_bitCount_0f7a4_2 (v := nI 1) (by decide) ?_
  refine x_iushr (pc := 3) dJ6_bitCount_0f7a4_3 ?_
  refine x_ldcw (pc := 4) dJ6_bitCount_0f7a4_4 kK_J6_265 ?_
  refine x_iand (pc := 7) dJ6_bitCount_0f7a4_7 ?_
  refine x_isub (pc := 8) dJ6_bitCount_0f7a4_8 ?_
  refine x_istore_n (pc := 9) dJ6_bitCount_0f7a4_9 rfl ?_
  refine x_iload_n (pc := 10) dJ6_bitCount_0f7a4_10 rfl ?_
  refine x_ldcw (pc := 11) dJ6_bitCount_0f7a4_11 kK_J6_266 ?_
  refine x_iand (pc := 14) dJ6_bitCount_0f7a4_14 ?_
  refine x_iload_n (pc := 15) dJ6_bitCount_0f7a4_15 rfl ?_
  refine x_iconst (pc := 16) dJ6_bitCount_0f7a4_16 (v := nI 2) (by decide) ?_
  refine x_iushr (pc := 17) dJ6_bitCount_0f7a4_17 ?_
  refine x_ldcw (pc := 18) dJ6_bitCount_0f7a4_18 kK_J6_266 ?_
  refine x_iand (pc := 21) dJ6_bitCount_0f7a4_21 ?_
  refine x_iadd (pc := 22) dJ6_bitCount_0f7a4_22 ?_
  refine x_istore_n (pc := 23) dJ6_bitCount_0f7a4_23 rfl ?_
  refine x_iload_n (pc := 24) dJ6_bitCount_0f7a4_24 rfl ?_
  refine x_iload_n (pc := 25) dJ6_bitCount_0f7a4_25 rfl ?_
  refine x_iconst (pc := 26) dJ6_bitCount_0f7a4_26 (v := nI 4) (by decide) ?_
  refine x_iushr (pc := 27) dJ6_bitCount_0f7a4_27 ?_
  refine x_iadd (pc := 28) dJ6_bitCount_0f7a4_28 ?_
  refine x_ldcw (pc := 29) dJ6_bitCount_0f7a4_29 kK_J6_267 ?_
  refine x_iand (pc := 32) dJ6_bitCount_0f7a4_32 ?_
  refine x_istore_n (pc := 33) dJ6_bitCount_0f7a4_33 rfl ?_
  refine x_iload_n (pc := 34) dJ6_bitCount_0f7a4_34 rfl ?_
  refine x_iload_n (pc := 35) dJ6_bitCount_0f7a4_35 rfl ?_
  refine x_bipush (pc := 36) dJ6_bitCount_0f7a4_36 (v := nI 8) (by decide) ?_
  refine x_iushr (pc := 38) dJ6_bitCount_0f7a4_38 ?_
  refine x_iadd (pc := 39) dJ6_bitCount_0f7a4_39 ?_
  refine x_istore_n (pc := 40) dJ6_bitCount_0f7a4_40 rfl ?_
  refine x_iload_n (pc := 41) dJ6_bitCount_0f7a4_41 rfl ?_
  refine x_iload_n (pc := 42) dJ6_bitCount_0f7a4_42 rfl ?_
  refine x_bipush (pc := 43) dJ6_bitCount_0f7a4_43 (v := nI 16) (by decide) ?_
  refine x_iushr (pc := 45) dJ6_bitCount_0f7a4_45 ?_
  refine x_iadd (pc := 46) dJ6_bitCount_0f7a4_46 ?_
  refine x_istore_n (pc := 47) dJ6_bitCount_0f7a4_47 rfl ?_
  refine x_iload_n (pc := 48) dJ6_bitCount_0f7a4_48 rfl ?_
  refine x_bipush (pc := 49) dJ6_bitCount_0f7a4_49 (v := nI 63) (by decide) ?_
  refine x_iand (pc := 51) dJ6_bitCount_0f7a4_51 ?_
  refine x_iret (pc := 52) dJ6_bitCount_0f7a4_52 rfl rfl ?_
  exact pu_i (bc_all m hm)
/-- the a-th of the numbers below 10 in m, by how many are below it -/
theorem c_bitByRank {w : ax_W} {n : Nat} {m r a0 : Nat} (hm : m < 1024) (h0 : a0 < 10) (hb : m.testBit a0 = true) (hc : cnt m a0 = r) : Run m_X6_bitByRank 1 0 0 0 (l_ent m_X6_bitByRank [.int (nI m), .int (nI r)]) [] w n (Pu (.int (nI a0)) w n) := by
  have hmono : ∀ a b, a ≤ b → cnt m a ≤ cnt m b := by
    intro a b h
    induction h with
    | refl => exact Nat.le_refl _
    | step h ih => exact Nat.le_trans ih (Nat.le_add_right _ _)
  have hr : r ≤ 10 := by have := cnt_le m a0; omega
  have loop : ∀ k a, a + k = a0 → Run m_X6_bitByRank 1 0 0 4 [some (.int (nI m)), some (.int (nI r)), some (.int (nI (cnt m a))), some (.int (nI a))] [] w n (Pu (.int (nI a0)) w n) := by
    intro k
    induction k with
    | zero =>
      intro a ha
      have haa : a = a0 := by omega
      subst haa
      refine x_iload_n (pc := 4) dX6_bitByRank_4 rfl ?_
      refine x_bipush (pc := 5) dX6_bitByRank_5 (v := nI 10) (by decide) ?_
      refine x_icmp_ge_f (pc := 7) dX6_bitByRank_7 (tgt := 34) (by decide) (nI_ge (by omega) (by omega)) ?_
      refine x_iload_n (pc := 10) dX6_bitByRank_10 rfl ?_
      refine x_iload_n (pc := 11) dX6_bitByRank_11 rfl ?_
      refine x_cs2p (pc := 12) dX6_bitByRank_12 ks_X6_129 (by omega) (by rfl) (by rfl) (by rfl) (c_has (by omega) h0) ?_
      refine x_if_eq (pc := 15) dX6_bitByRank_15 (tgt := 28) (by decide) (fun h_15 => ?_) (fun h_15 => ?_)
      · skip
        try first | rw [n_b0] at h_15 | rw [n_eq0 (by omega)] at h_15
        rw [hb] at h_15; cases h_15
      · skip
        try first | rw [n_b0] at h_15 | rw [n_eq0 (by omega)] at h_15
        refine x_iload_n (pc := 18) dX6_bitByRank_18 rfl ?_
        refine x_iload_n (pc := 19) dX6_bitByRank_19 rfl ?_
        refine x_icmp_ne_f (pc := 20) dX6_bitByRank_20 (tgt := 25) (by decide) (by rw [hc]; simp) ?_
        refine x_iload_n (pc := 23) dX6_bitByRank_23 rfl ?_
        refine x_iret (pc := 24) dX6_bitByRank_24 rfl rfl ?_
        exact pu_n rfl
    | succ k ih =>
      intro a ha
      have hca := cnt_le m a
      refine x_iload_n (pc := 4) dX6_bitByRank_4 rfl ?_
      refine x_bipush (pc := 5) dX6_bitByRank_5 (v := nI 10) (by decide) ?_
      refine x_icmp_ge_f (pc := 7) dX6_bitByRank_7 (tgt := 34) (by decide) (nI_ge (by omega) (by omega)) ?_
      refine x_iload_n (pc := 10) dX6_bitByRank_10 rfl ?_
      refine x_iload_n (pc := 11) dX6_bitByRank_11 rfl ?_
      refine x_cs2p (pc := 12) dX6_bitByRank_12 ks_X6_129 (by omega) (by rfl) (by rfl) (by rfl) (c_has (by omega) (by omega)) ?_
      refine x_if_eq (pc := 15) dX6_bitByRank_15 (tgt := 28) (by decide) (fun h_15 => ?_) (fun h_15 => ?_)
      · skip
        try first | rw [n_b0] at h_15 | rw [n_eq0 (by omega)] at h_15
        have hcn : cnt m (a + 1) = cnt m a := by simp [cnt, h_15]
        refine xn_iinc (pc := 28) dX6_bitByRank_28 rfl rfl ?_
        refine x_goto (pc := 31) dX6_bitByRank_31 (tgt := 4) (by decide) ?_
        exact (by rw [← hcn]; exact ih (a + 1) (by omega))
      · skip
        try first | rw [n_b0] at h_15 | rw [n_eq0 (by omega)] at h_15
        have hcn : cnt m (a + 1) = cnt m a + 1 := by simp only [Bool.not_eq_false] at h_15; simp [cnt, h_15]
        have h2 := hmono (a + 1) a0 (by omega)
        refine x_iload_n (pc := 18) dX6_bitByRank_18 rfl ?_
        refine x_iload_n (pc := 19) dX6_bitByRank_19 rfl ?_
        refine x_icmp_ne_t (pc := 20) dX6_bitByRank_20 (tgt := 25) (by decide) (by rw [n_eq (by omega) (by omega)]; omega) ?_
        refine xn_iinc (pc := 25) dX6_bitByRank_25 rfl rfl ?_
        refine xn_iinc (pc := 28) dX6_bitByRank_28 rfl rfl ?_
        refine x_goto (pc := 31) dX6_bitByRank_31 (tgt := 4) (by decide) ?_
        exact (by rw [← hcn]; exact ih (a + 1) (by omega))
  refine x_iconst (pc := 0) dX6_bitByRank_0 (v := nI 0) (by decide) ?_
  refine x_istore_n (pc := 1) dX6_bitByRank_1 rfl ?_
  refine x_iconst (pc := 2) dX6_bitByRank_2 (v := nI 0) (by decide) ?_
  refine x_istore_n (pc := 3) dX6_bitByRank_3 rfl ?_
  exact loop a0 0 (by omega)
/-- as many divisions as the loop makes -/
def euS : Nat → Nat → Nat → Nat
  | 0, l, _ => l
  | k + 1, l, s => if s = 0 then l else euS k s (l % s)
theorem c_commonDivisor {w : ax_W} {n : Nat} {x y : Nat} (hx : x < 2147483648) (hy : y < 2147483648) : Run m_X6_commonDivisor 1 0 0 0 (l_ent m_X6_commonDivisor [.int (nI x), .int (nI y)]) [] w n (Pu (.int (nI (euS 100 (if x < y then y else x) (if y < x then y else x)))) w n) := by
  have loop : ∀ k i l s (z : Option Value), i + k = 100 → l < 2147483648 → s < 2147483648 → Run m_X6_commonDivisor 1 0 0 15 [some (.int (nI x)), some (.int (nI y)), some (.int (nI l)), some (.int (nI s)), some (.int (nI i)), z] [] w n (Pu (.int (nI (euS k l s))) w n) := by
    intro k
    induction k with
    | zero =>
      intro i l s z hi hl hs
      refine x_iload (pc := 15) dX6_commonDivisor_15 rfl ?_
      refine x_bipush (pc := 17) dX6_commonDivisor_17 (v := nI 100) (by decide) ?_
      refine x_icmp_ge_t (pc := 19) dX6_commonDivisor_19 (tgt := 42) (by decide) (nI_le (by omega) (by omega)) ?_
      refine x_iload_n (pc := 42) dX6_commonDivisor_42 rfl ?_
      refine x_iret (pc := 43) dX6_commonDivisor_43 rfl rfl ?_
      exact pu_n rfl
    | succ k ih =>
      intro i l s z hi hl hs
      refine x_iload (pc := 15) dX6_commonDivisor_15 rfl ?_
      refine x_bipush (pc := 17) dX6_commonDivisor_17 (v := nI 100) (by decide) ?_
      refine x_icmp_ge_f (pc := 19) dX6_commonDivisor_19 (tgt := 42) (by decide) (nI_ge (by omega) (by omega)) ?_
      refine x_iload_n (pc := 22) dX6_commonDivisor_22 rfl ?_
      refine x_if_le (pc := 23) dX6_commonDivisor_23 (tgt := 42) (by decide) (fun h_23 => ?_) (fun h_23 => ?_)
      · skip
        try first | rw [n_b0] at h_23 | rw [n_le0 (by omega)] at h_23
        subst h_23
        refine x_iload_n (pc := 42) dX6_commonDivisor_42 rfl ?_
        refine x_iret (pc := 43) dX6_commonDivisor_43 rfl rfl ?_
        exact pu_n (by simp [euS])
      · skip
        try first | rw [n_b0] at h_23 | rw [n_le0 (by omega)] at h_23
        have hm := Nat.mod_lt l (show 0 < s by omega)
        refine x_iload_n (pc := 26) dX6_commonDivisor_26 rfl ?_
        refine x_iload_n (pc := 27) dX6_commonDivisor_27 rfl ?_
        first | refine xn_irem (pc := 28) dX6_commonDivisor_28 (by omega) (by omega) (by omega) ?_ | refine x_irem (pc := 28) dX6_commonDivisor_28 (by assumption) ?_
        refine x_istore (pc := 29) dX6_commonDivisor_29 rfl ?_
        refine x_iload_n (pc := 31) dX6_commonDivisor_31 rfl ?_
        refine x_istore_n (pc := 32) dX6_commonDivisor_32 rfl ?_
        refine x_iload (pc := 33) dX6_commonDivisor_33 rfl ?_
        refine x_istore_n (pc := 35) dX6_commonDivisor_35 rfl ?_
        refine xn_iinc (pc := 36) dX6_commonDivisor_36 rfl rfl ?_
        refine x_goto (pc := 39) dX6_commonDivisor_39 (tgt := 15) (by decide) ?_
        refine (ih (i + 1) s (l % s) _ (by omega) hs (by omega)).mono ?_
        intro r w' n' hp
        rw [show euS (k + 1) l s = euS k s (l % s) by simp only [euS]; rw [if_neg h_23]]
        exact hp
  have e1 : (if nI x < nI y then nI y else nI x) = nI (if x < y then y else x) := by
    by_cases h : x < y
    · rw [if_pos h, if_pos ((n_lt hx hy).mpr h)]
    · rw [if_neg h, if_neg (fun q => h ((n_lt hx hy).mp q))]
  have e2 : (if nI y < nI x then nI y else nI x) = nI (if y < x then y else x) := by
    by_cases h : y < x
    · rw [if_pos h, if_pos ((n_lt hy hx).mpr h)]
    · rw [if_neg h, if_neg (fun q => h ((n_lt hy hx).mp q))]
  refine x_iload_n (pc := 0) dX6_commonDivisor_0 rfl ?_
  refine x_iload_n (pc := 1) dX6_commonDivisor_1 rfl ?_
  refine x_mmax (pc := 2) dX6_commonDivisor_2 kX_max_X6_252 kXs_max kI_J9 kXc_max (by omega) rfl ?_
  rw [e1]
  refine x_istore_n (pc := 5) dX6_commonDivisor_5 rfl ?_
  refine x_iload_n (pc := 6) dX6_commonDivisor_6 rfl ?_
  refine x_iload_n (pc := 7) dX6_commonDivisor_7 rfl ?_
  refine x_mmin (pc := 8) dX6_commonDivisor_8 kX_min_X6_257 kXs_min kI_J9 kXc_min (by omega) rfl ?_
  rw [e2]
  refine x_istore_n (pc := 11) dX6_commonDivisor_11 rfl ?_
  refine x_iconst (pc := 12) dX6_commonDivisor_12 (v := nI 0) (by decide) ?_
  refine x_istore (pc := 13) dX6_commonDivisor_13 rfl ?_
  exact loop 100 0 _ _ _ (by omega) (by split <;> omega) (by split <;> omega)
/-- the draw by z, of the k-th STATEMENT -/
def drawS (z k : Nat) : Nat := (7919 * z + 6151 * k + 1) * (7919 * z + 6151 * k + 1) % 65521 / 4
theorem drawS_lt (z k : Nat) : drawS z k < 16381 := by
  unfold drawS
  have := Nat.mod_lt ((7919 * z + 6151 * k + 1) * (7919 * z + 6151 * k + 1)) (show 0 < 65521 by decide)
  omega
theorem draw_eq {z k : Nat} (hz : z ≤ 9999) (hk : k ≤ 20) : (((7919 * (nI z).toInt64 + 6151 * (nI k).toInt64 + lN 1) * (7919 * (nI z).toInt64 + 6151 * (nI k).toInt64 + lN 1) - (7919 * (nI z).toInt64 + 6151 * (nI k).toInt64 + lN 1) * (7919 * (nI z).toInt64 + 6151 * (nI k).toInt64 + lN 1) / 65521 * 65521)) = lN ((7919 * z + 6151 * k + 1) * (7919 * z + 6151 * k + 1) % 65521) := by
  rw [nI_l (by omega), nI_l (by omega), show (7919 : Int64) = lN 7919 from rfl, show (6151 : Int64) = lN 6151 from rfl, show (65521 : Int64) = lN 65521 from rfl, lN_mul, lN_mul, lN_add, lN_add, lN_mul]
  refine pk_lRem ?_ (by decide) (by decide)
  have h1 : 7919 * z + 6151 * k + 1 ≤ 100000000 := by omega
  exact Nat.lt_of_le_of_lt (Nat.mul_le_mul h1 h1) (by decide)
theorem c_draw {w : ax_W} {n : Nat} {z k : Nat} (hz : z ≤ 9999) (hk : k ≤ 20) : Run m_X6_draw 0 0 0 0 (l_ent m_X6_draw [.int (nI z), .int (nI k)]) [] w n (Pu (.int (nI (drawS z k))) w n) := by
  refine x_ldc2 (pc := 0) dX6_draw_0 kK_X6_244 ?_
  refine x_iload_n (pc := 3) dX6_draw_3 rfl ?_
  refine x_i2l (pc := 4) dX6_draw_4 ?_
  refine x_lmul (pc := 5) dX6_draw_5 ?_
  refine x_ldc2 (pc := 6) dX6_draw_6 kK_X6_246 ?_
  refine x_iload_n (pc := 9) dX6_draw_9 rfl ?_
  refine x_i2l (pc := 10) dX6_draw_10 ?_
  refine x_lmul (pc := 11) dX6_draw_11 ?_
  refine x_ladd (pc := 12) dX6_draw_12 ?_
  refine x_lconst (pc := 13) dX6_draw_13 (v := lN 1) rfl ?_
  refine x_ladd (pc := 14) dX6_draw_14 ?_
  refine x_lstore_n (pc := 15) dX6_draw_15 rfl ?_
  refine x_lload_n (pc := 16) dX6_draw_16 rfl ?_
  refine x_lload_n (pc := 17) dX6_draw_17 rfl ?_
  refine x_lmul (pc := 18) dX6_draw_18 ?_
  refine x_ldc2 (pc := 19) dX6_draw_19 kK_X6_248 ?_
  refine x_lrem (pc := 22) dX6_draw_22 (by first | assumption | decide) ?_
  refine x_ldc2 (pc := 23) dX6_draw_23 kK_X6_250 ?_
  refine x_ldiv (pc := 26) dX6_draw_26 (by first | assumption | decide) ?_
  refine x_l2i (pc := 27) dX6_draw_27 ?_
  refine x_iret (pc := 28) dX6_draw_28 rfl rfl ?_
  refine pu_i ?_
  rw [draw_eq hz hk, show (4 : Int64) = lN 4 from rfl, pk_lDiv (Nat.lt_trans (Nat.mod_lt _ (by decide)) (by decide)) (by decide) (by decide), lN_i]
  rfl
