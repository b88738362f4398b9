/-! the small methods of HeardBackward -/
theorem c_outside {w : ax_W} {n : Nat} (x y z : Int32) : Run m_X6_outside 0 0 0 0 (l_ent m_X6_outside [.int x, .int y, .int z]) [] w n (Pu (.int (nI (bN (decide (x < y ∨ z < x))))) w n) := by
  refine x_iload_n (pc := 0) dX6_outside_0 rfl ?_
  refine x_iload_n (pc := 1) dX6_outside_1 rfl ?_
  refine x_icmp_lt (pc := 2) dX6_outside_2 (tgt := 10) (by decide) (fun h_2 => ?_) (fun h_2 => ?_)
  · try first | rw [n_b1] at h_2 | rw [n_b00] at h_2 | rw [n_lt (by omega) (by omega)] at h_2
    have hh : decide (x < y ∨ z < x) = true := by simp [h_2]
    refine x_iconst (pc := 10) dX6_outside_10 (v := nI 1) (by decide) ?_
    refine x_goto (pc := 11) dX6_outside_11 (tgt := 15) (by decide) ?_
    refine x_zret (pc := 15) dX6_outside_15 rfl (by first | decide | exact bN_lt _ | omega) ?_
    exact pu_n (by rw [hh]; rfl)
  · try first | rw [n_b1] at h_2 | rw [n_b00] at h_2 | rw [n_lt (by omega) (by omega)] at h_2
    refine x_iload_n (pc := 5) dX6_outside_5 rfl ?_
    refine x_iload_n (pc := 6) dX6_outside_6 rfl ?_
    refine x_icmp_le (pc := 7) dX6_outside_7 (tgt := 14) (by decide) (fun h_7 => ?_) (fun h_7 => ?_)
    · try first | rw [n_b1] at h_7 | rw [n_b00] at h_7 | rw [n_le (by omega) (by omega)] at h_7
      have hh : decide (x < y ∨ z < x) = false := by have := Int32.not_lt.mpr h_7; simp [h_2, this]
      refine x_iconst (pc := 14) dX6_outside_14 (v := nI 0) (by decide) ?_
      refine x_zret (pc := 15) dX6_outside_15 rfl (by first | decide | exact bN_lt _ | omega) ?_
      exact pu_n (by rw [hh]; rfl)
    · try first | rw [n_b1] at h_7 | rw [n_b00] at h_7 | rw [n_le (by omega) (by omega)] at h_7
      have hh : decide (x < y ∨ z < x) = true := by have := Int32.not_le.mp h_7; simp [this]
      refine x_iconst (pc := 10) dX6_outside_10 (v := nI 1) (by decide) ?_
      refine x_goto (pc := 11) dX6_outside_11 (tgt := 15) (by decide) ?_
      refine x_zret (pc := 15) dX6_outside_15 rfl (by first | decide | exact bN_lt _ | omega) ?_
      exact pu_n (by rw [hh]; rfl)
theorem c_asNumber {w : ax_W} {n : Nat} (b : Bool) : Run m_X6_asNumber 0 0 0 0 (l_ent m_X6_asNumber [.int (nI (bN b))]) [] w n (Pu (.int (nI (bN b))) w n) := by
  refine x_iload_n (pc := 0) dX6_asNumber_0 rfl ?_
  refine x_if_eq (pc := 1) dX6_asNumber_1 (tgt := 8) (by decide) (fun h_1 => ?_) (fun h_1 => ?_)
  · try first | rw [n_b0] at h_1 | rw [n_eq0 (by omega)] at h_1
    refine x_iconst (pc := 8) dX6_asNumber_8 (v := nI 0) (by decide) ?_
    refine x_iret (pc := 9) dX6_asNumber_9 rfl rfl ?_
    exact pu_n (by simp [h_1, bN])
  · try first | rw [n_b0] at h_1 | rw [n_eq0 (by omega)] at h_1
    refine x_iconst (pc := 4) dX6_asNumber_4 (v := nI 1) (by decide) ?_
    refine x_goto (pc := 5) dX6_asNumber_5 (tgt := 9) (by decide) ?_
    refine x_iret (pc := 9) dX6_asNumber_9 rfl rfl ?_
    exact pu_n (by simp [h_1, bN])
theorem c_bit {w : ax_W} {n : Nat} {a : Nat} (ha : a < 10) : Run m_X6_bit 0 0 0 0 (l_ent m_X6_bit [.int (nI a)]) [] w n (Pu (.int (nI (2 ^ a))) w n) := by
  refine x_iload_n (pc := 0) dX6_bit_0 rfl ?_
  refine x_if_lt_f (pc := 1) dX6_bit_1 (tgt := 16) (by decide) (nI_pos (by omega)) ?_
  refine x_iload_n (pc := 4) dX6_bit_4 rfl ?_
  refine x_bipush (pc := 5) dX6_bit_5 (v := nI 10) (by decide) ?_
  refine x_icmp_ge_f (pc := 7) dX6_bit_7 (tgt := 16) (by decide) (nI_ge (by omega) (by omega)) ?_
  refine x_iconst (pc := 10) dX6_bit_10 (v := nI 1) (by decide) ?_
  refine x_iload_n (pc := 11) dX6_bit_11 rfl ?_
  first | refine xn_shl1 (pc := 12) dX6_bit_12 (by omega) ?_ | refine xn_ishl (pc := 12) dX6_bit_12 (by omega) (by omega) ?_ | refine x_ishl (pc := 12) dX6_bit_12 ?_
  refine x_goto (pc := 13) dX6_bit_13 (tgt := 17) (by decide) ?_
  refine x_iret (pc := 17) dX6_bit_17 rfl rfl ?_
  exact pu_n rfl
theorem c_has {w : ax_W} {n : Nat} {m a : Nat} (hm : m < 2147483648) (ha : a < 10) : Run m_X6_has 0 0 0 0 (l_ent m_X6_has [.int (nI m), .int (nI a)]) [] w n (Pu (.int (nI (bN (m.testBit a)))) w n) := by
  refine x_iload_n (pc := 0) dX6_has_0 rfl ?_
  refine x_if_lt_f (pc := 1) dX6_has_1 (tgt := 23) (by decide) (nI_pos (by omega)) ?_
  refine x_iload_n (pc := 4) dX6_has_4 rfl ?_
  refine x_bipush (pc := 5) dX6_has_5 (v := nI 10) (by decide) ?_
  refine x_icmp_ge_f (pc := 7) dX6_has_7 (tgt := 23) (by decide) (nI_ge (by omega) (by omega)) ?_
  refine x_iload_n (pc := 10) dX6_has_10 rfl ?_
  refine x_iload_n (pc := 11) dX6_has_11 rfl ?_
  first | refine xn_ishr (pc := 12) dX6_has_12 (by omega) (by omega) ?_ | refine x_ishr (pc := 12) dX6_has_12 ?_
  refine x_iconst (pc := 13) dX6_has_13 (v := nI 1) (by decide) ?_
  first | refine xn_bit (pc := 14) dX6_has_14 ?_ | refine xn_nd (pc := 14) dX6_has_14 ?_ | refine xn_iand (pc := 14) dX6_has_14 ?_ | refine x_iand (pc := 14) dX6_has_14 ?_
  refine x_iconst (pc := 15) dX6_has_15 (v := nI 1) (by decide) ?_
  refine x_icmp_ne (pc := 16) dX6_has_16 (tgt := 23) (by decide) (fun h_16 => ?_) (fun h_16 => ?_)
  · try first | rw [n_b1] at h_16 | rw [n_b00] at h_16 | rw [n_eq (by omega) (by omega)] at h_16
    have hh : m.testBit a = false := by simpa using h_16
    refine x_iconst (pc := 23) dX6_has_23 (v := nI 0) (by decide) ?_
    refine x_zret (pc := 24) dX6_has_24 rfl (by first | decide | exact bN_lt _ | omega) ?_
    exact pu_n (by rw [hh]; rfl)
  · try first | rw [n_b1] at h_16 | rw [n_b00] at h_16 | rw [n_eq (by omega) (by omega)] at h_16
    have hh : m.testBit a = true := by simpa using h_16
    refine x_iconst (pc := 19) dX6_has_19 (v := nI 1) (by decide) ?_
    refine x_goto (pc := 20) dX6_has_20 (tgt := 24) (by decide) ?_
    refine x_zret (pc := 24) dX6_has_24 rfl (by first | decide | exact bN_lt _ | omega) ?_
    exact pu_n (by rw [hh]; rfl)
theorem c_at {w : ax_W} {n : Nat} {k N i : Nat} {f : Nat → Int32} (hw : w k = ai N f) (hi : i < N) (hN : N < 100000) : Run m_X6_at 0 0 0 0 (l_ent m_X6_at [.ref k, .int (nI i)]) [] w n (Pu (.int (f i)) w n) := by
  refine x_iload_n (pc := 0) dX6_at_0 rfl ?_
  refine x_if_lt_f (pc := 1) dX6_at_1 (tgt := 16) (by decide) (nI_pos (by omega)) ?_
  refine x_iload_n (pc := 4) dX6_at_4 rfl ?_
  refine x_aload_n (pc := 5) dX6_at_5 rfl ?_
  first | refine x_alenI (pc := 6) dX6_at_6 (by assumption) ?_ | refine x_alenQ (pc := 6) dX6_at_6 (by assumption) ?_
  refine x_icmp_ge_f (pc := 7) dX6_at_7 (tgt := 16) (by decide) (nI_ge (by omega) (by omega)) ?_
  refine x_aload_n (pc := 10) dX6_at_10 rfl ?_
  refine x_iload_n (pc := 11) dX6_at_11 rfl ?_
  refine x_iald (pc := 12) dX6_at_12 hw (n_in hi (by omega)) ?_
  rw [n_cl (by omega)]
  refine x_goto (pc := 13) dX6_at_13 (tgt := 17) (by decide) ?_
  refine x_iret (pc := 17) dX6_at_17 rfl rfl ?_
  exact pu_i rfl
theorem c_put {w : ax_W} {n : Nat} {k N i : Nat} {f : Nat → Int32} {x : Int32} (hw : w k = ai N f) (hi : i < N) (hN : N < 100000) : Run m_X6_put 0 0 0 0 (l_ent m_X6_put [.ref k, .int (nI i), .int x]) [] w n (fun r w' n' => r = none ∧ n' = n ∧ w' k = ai N (upd f i x) ∧ ∀ j, j ≠ k → w' j = w j) := by
  refine x_iload_n (pc := 0) dX6_put_0 rfl ?_
  refine x_if_lt_f (pc := 1) dX6_put_1 (tgt := 14) (by decide) (nI_pos (by omega)) ?_
  refine x_iload_n (pc := 4) dX6_put_4 rfl ?_
  refine x_aload_n (pc := 5) dX6_put_5 rfl ?_
  first | refine x_alenI (pc := 6) dX6_put_6 (by assumption) ?_ | refine x_alenQ (pc := 6) dX6_put_6 (by assumption) ?_
  refine x_icmp_ge_f (pc := 7) dX6_put_7 (tgt := 14) (by decide) (nI_ge (by omega) (by omega)) ?_
  refine x_aload_n (pc := 10) dX6_put_10 rfl ?_
  refine x_iload_n (pc := 11) dX6_put_11 rfl ?_
  refine x_iload_n (pc := 12) dX6_put_12 rfl ?_
  refine x_iast (pc := 13) dX6_put_13 hw (n_in hi (by omega)) ?_
  rw [n_cl (by omega)]
  refine x_vret (pc := 14) dX6_put_14 rfl ?_
  exact ⟨rfl, rfl, up_same _ _ _, fun j hj => up_ne _ _ hj⟩
/-! how many bits are set -/
theorem bc_all : ∀ m, m < 1024 → (let x0 := nI m
  let x1 := x0 - ((x0.toUInt32 >>> ((nI 1).toUInt32 &&& Int32.toUInt32 31)).toInt32 &&& 1431655765)
  let x2 := (x1 &&& 858993459) + ((x1.toUInt32 >>> ((nI 2).toUInt32 &&& Int32.toUInt32 31)).toInt32 &&& 858993459)
  let x3 := (x2 + (x2.toUInt32 >>> ((nI 4).toUInt32 &&& Int32.toUInt32 31)).toInt32) &&& 252645135
  let x4 := x3 + (x3.toUInt32 >>> ((nI 8).toUInt32 &&& Int32.toUInt32 31)).toInt32
  let x5 := x4 + (x4.toUInt32 >>> ((nI 16).toUInt32 &&& Int32.toUInt32 31)).toInt32
  x5 &&& nI 63) = nI (cnt m 10) := by decide +kernel
