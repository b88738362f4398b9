/-! making the objects -/
section CT
variable {M : ax_M} {d q1 q2 pc : Nat} {ls : List (Option Value)} {st : List Value} {w : ax_W} {n : Nat} {P : Option Value → ax_W → Nat → Prop}
theorem xw_new {idx ci N : Nat} {C : String} {T : u_T} {fs : List Value} (hd : decode M.2.1 pc = .ok (.new idx, 3)) (hcl : vwCl[ci]? = some (C, T, N)) (h1 : Cond.classLink M.1.cls idx C ∈ TB) (h2 : Cond.instantiable C N ∈ TB) (h3 : Cond.initialized C ∈ TB) (hfs : ∀ ty : Nat → FieldType, (∀ k, k < N → parseFieldDescriptor (T k).2.2.1 = some (ty k)) → ∀ j, j < N → defaultValue (ty j) = vp_V fs j) (hfs0 : ∀ B, fs.map (ax_v B) = fs) (g1 : 1 ≤ q1) (g2 : N ≤ q2) (kk : ∀ w' : ax_W, w' n = ao ci fs → (∀ j, j ≠ n → w' j = w j) → Run M d (q1 - 1) (q2 - N) (pc + 3) ls (.ref n :: st) w' (n + 1) P) : Run M d q1 q2 pc ls st w n P := by
  have h := x_new (q1 := q1 - 1) (q2 := q2 - N) hd hcl h1 h2 h3 hfs hfs0 (kk _ (up_same _ _ _) fun j hj => up_ne _ _ hj)
  rwa [show 1 + (q1 - 1) = q1 by omega, show N + (q2 - N) = q2 by omega] at h
theorem xw_newI {N : Nat} (hd : decode M.2.1 pc = .ok (.newarray .int, 2)) (hN : N < 100000) (g1 : 1 ≤ q1) (g2 : N ≤ q2) (kk : ∀ w' : ax_W, w' n = ai N (fun _ => nI 0) → (∀ j, j ≠ n → w' j = w j) → Run M d (q1 - 1) (q2 - N) (pc + 2) ls (.ref n :: st) w' (n + 1) P) : Run M d q1 q2 pc ls (.int (nI N) :: st) w n P := by
  have h := x_newa (q1 := q1 - 1) (q2 := q2 - N) (ty := .int) (Or.inl ⟨rfl, rfl⟩) hd kY_I hN (kk _ (up_same _ _ _) fun j hj => up_ne _ _ hj)
  rwa [show 1 + (q1 - 1) = q1 by omega, show N + (q2 - N) = q2 by omega] at h
theorem xw_newB {N : Nat} (hd : decode M.2.1 pc = .ok (.newarray .byte, 2)) (hN : N < 100000) (g1 : 1 ≤ q1) (g2 : N ≤ q2) (kk : ∀ w' : ax_W, w' n = ab N (fun _ => nI 0) → (∀ j, j ≠ n → w' j = w j) → Run M d (q1 - 1) (q2 - N) (pc + 2) ls (.ref n :: st) w' (n + 1) P) : Run M d q1 q2 pc ls (.int (nI N) :: st) w n P := by
  have h := x_newa (q1 := q1 - 1) (q2 := q2 - N) (ty := .byte) (Or.inr ⟨rfl, rfl⟩) hd kY_B hN (kk _ (up_same _ _ _) fun j hj => up_ne _ _ hj)
  rwa [show 1 + (q1 - 1) = q1 by omega, show N + (q2 - N) = q2 by omega] at h
theorem xw_newq {idx N : Nat} (hd : decode M.2.1 pc = .ok (.anewarray idx, 3)) (h1 : Cond.classLink M.1.cls idx RX1 ∈ TB) (hN : N < 100000) (g1 : 1 ≤ q1) (g2 : N ≤ q2) (kk : ∀ w' : ax_W, w' n = aq N (fun _ => none) → (∀ j, j ≠ n → w' j = w j) → Run M d (q1 - 1) (q2 - N) (pc + 3) ls (.ref n :: st) w' (n + 1) P) : Run M d q1 q2 pc ls (.int (nI N) :: st) w n P := by
  have h := x_newq (q1 := q1 - 1) (q2 := q2 - N) hd h1 hN (kk _ (up_same _ _ _) fun j hj => up_ne _ _ hj)
  rwa [show 1 + (q1 - 1) = q1 by omega, show N + (q2 - N) = q2 by omega] at h
theorem xw_putF {idx ci k a : Nat} {fs : List Value} {v : Value} {C : String} {T : u_T} {N : Nat} {ty : FieldType} (hd : decode M.2.1 pc = .ok (.putfield idx, 3)) (hl : Cond.fieldLink M.1.cls idx (T k).1 (T k).2.1 (T k).2.2.1 ∈ TB) (hkN : k < N) (hname : M.1.name = "<init>") (hdecl : (T k).1 = M.1.cls) (hw : w a = ao ci fs) (hk : Nat.blt k fs.length = true) (hcl : vwCl[ci]? = some (C, T, N)) (hfin : (T k).2.2.2 = true) (hty : parseFieldDescriptor (T k).2.2.1 = some ty) (hn : ∀ B, narrow ty (ax_v B v) = ax_v B v) (hfit : ∀ B, fits ty (ax_v B v) = true) (kk : ∀ w' : ax_W, w' a = ao ci (fs.set k v) → (∀ j, j ≠ a → w' j = w j) → Run M d q1 q2 (pc + 3) ls st w' n P) : Run M d q1 q2 pc ls (v :: .ref a :: st) w n P :=
  x_putF hd hl hkN hname hdecl hw hk hcl hfin hty hn hfit (kk _ (up_same _ _ _) fun j hj => up_ne _ _ hj)
theorem xw_aast {a N v i : Nat} {vs : List Value} {f : Nat → Option Nat} (hd : decode M.2.1 pc = .ok (.aastore, 1)) (hw : w a = aq N f) (hv : w v = ao 1 vs) (hi : i < N) (hN : N < 100000) (kk : ∀ w' : ax_W, w' a = aq N (va_up f i (some v)) → (∀ j, j ≠ a → w' j = w j) → Run M d q1 q2 (pc + 1) ls st w' n P) : Run M d q1 q2 pc ls (.ref v :: .int (nI i) :: .ref a :: st) w n P := by
  refine x_aast (ci := 1) hd hw hv (n_in hi (by omega)) ?_
  rw [n_cl (by omega)]
  exact kk _ (up_same _ _ _) fun j hj => up_ne _ _ hj
theorem xw_ci0 {M' : ax_M} {d' a1 a2 idx b : Nat} {P' : Option Value → ax_W → Nat → Prop} (hd : decode M.2.1 pc = .ok (.invokespecial idx, 3)) (hl : LkN M.1.cls idx M' 0) (hdd : d' < d) (hlen : Nat.blt 0 M'.2.2.1 = true) (hst : Nat.ble (st.map fun v => v.category).sum 8 = true) (g1 : a1 ≤ q1) (g2 : a2 ≤ q2) (hc : Run M' d' a1 a2 0 (l_ent M' [.ref b]) [] w n P') (kk : ∀ r w' n', P' r w' n' → Run M d (q1 - a1) (q2 - a2) (pc + 3) ls (r.toList ++ st) w' n' P) : Run M d q1 q2 pc ls (.ref b :: st) w n P := by
  have h := x_ci0 (q1 := q1 - a1) (q2 := q2 - a2) hd hl hdd rfl hlen hst hc kk
  rwa [show a1 + (q1 - a1) = q1 by omega, show a2 + (q2 - a2) = q2 by omega] at h
theorem xw_ci1 {M' : ax_M} {d' a1 a2 idx b : Nat} {y0 : Value} {P' : Option Value → ax_W → Nat → Prop} (hd : decode M.2.1 pc = .ok (.invokespecial idx, 3)) (hl : LkN M.1.cls idx M' 1) (hdd : d' < d) (hcat : cat1 [y0] = true) (hlen : Nat.blt 1 M'.2.2.1 = true) (hst : Nat.ble (st.map fun v => v.category).sum 8 = true) (g1 : a1 ≤ q1) (g2 : a2 ≤ q2) (hc : Run M' d' a1 a2 0 (l_ent M' [.ref b, y0]) [] w n P') (kk : ∀ r w' n', P' r w' n' → Run M d (q1 - a1) (q2 - a2) (pc + 3) ls (r.toList ++ st) w' n' P) : Run M d q1 q2 pc ls (y0 :: .ref b :: st) w n P := by
  have h := x_ci1 (q1 := q1 - a1) (q2 := q2 - a2) hd hl hdd hcat hlen hst hc kk
  rwa [show a1 + (q1 - a1) = q1 by omega, show a2 + (q2 - a2) = q2 by omega] at h
end CT
/-- made: so many cells more, none below k changed -/
def Mk (F : ax_W → Prop) (w : ax_W) (k n' : Nat) : Option Value → ax_W → Nat → Prop := fun r w' m => r = none ∧ m = n' ∧ F w' ∧ ∀ j, j < k → w' j = w j
theorem ty_same {T : u_T} {N : Nat} {t : Nat → FieldType} (ok : ∀ k, k < N → parseFieldDescriptor (T k).2.2.1 = some (t k)) (ty : Nat → FieldType) (h : ∀ k, k < N → parseFieldDescriptor (T k).2.2.1 = some (ty k)) {j : Nat} (hj : j < N) : ty j = t j := Option.some.inj ((h j hj).symm.trans (ok j hj))
abbrev df_0 : List Value := [.null, .null, .null, .null, .null, .int (nI 0), .int (nI 0), .int (nI 0)]
theorem df_ok_0 : ∀ ty : Nat → FieldType, (∀ k, k < 8 → parseFieldDescriptor (TX0 k).2.2.1 = some (ty k)) → ∀ j, j < 8 → defaultValue (ty j) = vp_V df_0 j := by
  intro ty h j hj
  rw [ty_same tyX0_ok ty h hj]
  rcases (by omega : j = 0 ∨ j = 1 ∨ j = 2 ∨ j = 3 ∨ j = 4 ∨ j = 5 ∨ j = 6 ∨ j = 7) with rfl | rfl | rfl | rfl | rfl | rfl | rfl | rfl <;> rfl
abbrev df_1 : List Value := [.null, .int (nI 0), .int (nI 0)]
theorem df_ok_1 : ∀ ty : Nat → FieldType, (∀ k, k < 3 → parseFieldDescriptor (TX1 k).2.2.1 = some (ty k)) → ∀ j, j < 3 → defaultValue (ty j) = vp_V df_1 j := by
  intro ty h j hj
  rw [ty_same tyX1_ok ty h hj]
  rcases (by omega : j = 0 ∨ j = 1 ∨ j = 2) with rfl | rfl | rfl <;> rfl
abbrev df_2 : List Value := [.null, .int (nI 0)]
theorem df_ok_2 : ∀ ty : Nat → FieldType, (∀ k, k < 2 → parseFieldDescriptor (TX2 k).2.2.1 = some (ty k)) → ∀ j, j < 2 → defaultValue (ty j) = vp_V df_2 j := by
  intro ty h j hj
  rw [ty_same tyX2_ok ty h hj]
  rcases (by omega : j = 0 ∨ j = 1) with rfl | rfl <;> rfl
abbrev df_3 : List Value := [.null, .int (nI 0)]
theorem df_ok_3 : ∀ ty : Nat → FieldType, (∀ k, k < 2 → parseFieldDescriptor (TX3 k).2.2.1 = some (ty k)) → ∀ j, j < 2 → defaultValue (ty j) = vp_V df_3 j := by
  intro ty h j hj
  rw [ty_same tyX3_ok ty h hj]
  rcases (by omega : j = 0 ∨ j = 1) with rfl | rfl <;> rfl
abbrev df_4 : List Value := [.null, .int (nI 0), .int (nI 0)]
theorem df_ok_4 : ∀ ty : Nat → FieldType, (∀ k, k < 3 → parseFieldDescriptor (TX4 k).2.2.1 = some (ty k)) → ∀ j, j < 3 → defaultValue (ty j) = vp_V df_4 j := by
  intro ty h j hj
  rw [ty_same tyX4_ok ty h hj]
  rcases (by omega : j = 0 ∨ j = 1 ∨ j = 2) with rfl | rfl | rfl <;> rfl
abbrev df_5 : List Value := [.null, .null, .null, .int (nI 0), .int (nI 0), .int (nI 0), .int (nI 0), .int (nI 0), .int (nI 0), .int (nI 0)]
theorem df_ok_5 : ∀ ty : Nat → FieldType, (∀ k, k < 10 → parseFieldDescriptor (TX5 k).2.2.1 = some (ty k)) → ∀ j, j < 10 → defaultValue (ty j) = vp_V df_5 j := by
  intro ty h j hj
  rw [ty_same tyX5_ok ty h hj]
  rcases (by omega : j = 0 ∨ j = 1 ∨ j = 2 ∨ j = 3 ∨ j = 4 ∨ j = 5 ∨ j = 6 ∨ j = 7 ∨ j = 8 ∨ j = 9) with rfl | rfl | rfl | rfl | rfl | rfl | rfl | rfl | rfl | rfl <;> rfl
abbrev df_6 : List Value := [.null, .null, .null, .null, .null, .null, .null, .null, .null]
theorem df_ok_6 : ∀ ty : Nat → FieldType, (∀ k, k < 9 → parseFieldDescriptor (TX6 k).2.2.1 = some (ty k)) → ∀ j, j < 9 → defaultValue (ty j) = vp_V df_6 j := by
  intro ty h j hj
  rw [ty_same tyX6_ok ty h hj]
  rcases (by omega : j = 0 ∨ j = 1 ∨ j = 2 ∨ j = 3 ∨ j = 4 ∨ j = 5 ∨ j = 6 ∨ j = 7 ∨ j = 8) with rfl | rfl | rfl | rfl | rfl | rfl | rfl | rfl | rfl <;> rfl
abbrev df_7 : List Value := [.null, .int (nI 0), .null, .null, .null, .null, .null, .null, .null, .null, .int (nI 0), .int (nI 0), .null, .int (nI 0), .int (nI 0), .null, .null, .null, .null, .null, .null, .null, .null, .null, .null, .int (nI 0)]
theorem df_ok_7 : ∀ ty : Nat → FieldType, (∀ k, k < 26 → parseFieldDescriptor (TX7 k).2.2.1 = some (ty k)) → ∀ j, j < 26 → defaultValue (ty j) = vp_V df_7 j := by
  intro ty h j hj
  rw [ty_same tyX7_ok ty h hj]
  rcases (by omega : j = 0 ∨ j = 1 ∨ j = 2 ∨ j = 3 ∨ j = 4 ∨ j = 5 ∨ j = 6 ∨ j = 7 ∨ j = 8 ∨ j = 9 ∨ j = 10 ∨ j = 11 ∨ j = 12 ∨ j = 13 ∨ j = 14 ∨ j = 15 ∨ j = 16 ∨ j = 17 ∨ j = 18 ∨ j = 19 ∨ j = 20 ∨ j = 21 ∨ j = 22 ∨ j = 23 ∨ j = 24 ∨ j = 25) with rfl | rfl | rfl | rfl | rfl | rfl | rfl | rfl | rfl | rfl | rfl | rfl | rfl | rfl | rfl | rfl | rfl | rfl | rfl | rfl | rfl | rfl | rfl | rfl | rfl | rfl <;> rfl
theorem c_courtInit {w : ax_W} {b : Nat} (hK : w b = ao 0 df_0) : Run m_X0_init 1 5 45 0 (l_ent m_X0_init [.ref b]) [] w (b + 1) (Mk (fun w' => isC w' b noC) w b (b + 1 + 5)) := by
  have hfr : ∀ j, j < b → w j = w j := fun _ _ => rfl
  refine x_aload_n (pc := 0) dX0_init_0 rfl ?_
  refine x_objInit (pc := 1) dX0_init_1 kO_X0_3 kM_obj kc_obj (by omega) rfl ?_
  refine x_aload_n (pc := 4) dX0_init_4 rfl ?_
  refine x_bipush (pc := 5) dX0_init_5 (v := nI 10) (by decide) ?_
  refine xw_newI (pc := 7) dX0_init_7 (by decide) (by omega) (by omega) (fun w hnew hne => ?_)
  replace hK := (hne _ (by omega)).trans hK
  have g0 := hnew
  replace hfr := fun j (hj : j < b) => (hne j (by omega)).trans (hfr j hj)
  clear hne hnew
  refine xw_putF (pc := 9) (k := 0) dX0_init_9 kF_X0_9 (by decide) rfl rfl hK (by rfl) rfl rfl (tyX0_ok 0 (by decide)) (fun _ => rfl) (fun _ => rfl) (fun w hnew hne => ?_)
  replace hK := hnew
  replace g0 := (hne _ (by omega)).trans g0
  replace hfr := fun j (hj : j < b) => (hne j (by omega)).trans (hfr j hj)
  clear hne
  refine x_aload_n (pc := 12) dX0_init_12 rfl ?_
  refine x_bipush (pc := 13) dX0_init_13 (v := nI 10) (by decide) ?_
  refine xw_newI (pc := 15) dX0_init_15 (by decide) (by omega) (by omega) (fun w hnew hne => ?_)
  replace hK := (hne _ (by omega)).trans hK
  replace g0 := (hne _ (by omega)).trans g0
  have g1 := hnew
  replace hfr := fun j (hj : j < b) => (hne j (by omega)).trans (hfr j hj)
  clear hne hnew
  refine xw_putF (pc := 17) (k := 1) dX0_init_17 kF_X0_15 (by decide) rfl rfl hK (by rfl) rfl rfl (tyX0_ok 1 (by decide)) (fun _ => rfl) (fun _ => rfl) (fun w hnew hne => ?_)
  replace hK := hnew
  replace g0 := (hne _ (by omega)).trans g0
  replace g1 := (hne _ (by omega)).trans g1
  replace hfr := fun j (hj : j < b) => (hne j (by omega)).trans (hfr j hj)
  clear hne
  refine x_aload_n (pc := 20) dX0_init_20 rfl ?_
  refine x_bipush (pc := 21) dX0_init_21 (v := nI 10) (by decide) ?_
  refine xw_newI (pc := 23) dX0_init_23 (by decide) (by omega) (by omega) (fun w hnew hne => ?_)
  replace hK := (hne _ (by omega)).trans hK
  replace g0 := (hne _ (by omega)).trans g0
  replace g1 := (hne _ (by omega)).trans g1
  have g2 := hnew
  replace hfr := fun j (hj : j < b) => (hne j (by omega)).trans (hfr j hj)
  clear hne hnew
  refine xw_putF (pc := 25) (k := 2) dX0_init_25 kF_X0_18 (by decide) rfl rfl hK (by rfl) rfl rfl (tyX0_ok 2 (by decide)) (fun _ => rfl) (fun _ => rfl) (fun w hnew hne => ?_)
  replace hK := hnew
  replace g0 := (hne _ (by omega)).trans g0
  replace g1 := (hne _ (by omega)).trans g1
  replace g2 := (hne _ (by omega)).trans g2
  replace hfr := fun j (hj : j < b) => (hne j (by omega)).trans (hfr j hj)
  clear hne
  refine x_aload_n (pc := 28) dX0_init_28 rfl ?_
  refine x_bipush (pc := 29) dX0_init_29 (v := nI 10) (by decide) ?_
  refine xw_newI (pc := 31) dX0_init_31 (by decide) (by omega) (by omega) (fun w hnew hne => ?_)
  replace hK := (hne _ (by omega)).trans hK
  replace g0 := (hne _ (by omega)).trans g0
  replace g1 := (hne _ (by omega)).trans g1
  replace g2 := (hne _ (by omega)).trans g2
  have g3 := hnew
  replace hfr := fun j (hj : j < b) => (hne j (by omega)).trans (hfr j hj)
  clear hne hnew
  refine xw_putF (pc := 33) (k := 3) dX0_init_33 kF_X0_21 (by decide) rfl rfl hK (by rfl) rfl rfl (tyX0_ok 3 (by decide)) (fun _ => rfl) (fun _ => rfl) (fun w hnew hne => ?_)
  replace hK := hnew
  replace g0 := (hne _ (by omega)).trans g0
  replace g1 := (hne _ (by omega)).trans g1
  replace g2 := (hne _ (by omega)).trans g2
  replace g3 := (hne _ (by omega)).trans g3
  replace hfr := fun j (hj : j < b) => (hne j (by omega)).trans (hfr j hj)
  clear hne
  refine x_aload_n (pc := 36) dX0_init_36 rfl ?_
  refine x_iconst (pc := 37) dX0_init_37 (v := nI 5) (by decide) ?_
  refine xw_newI (pc := 38) dX0_init_38 (by decide) (by omega) (by omega) (fun w hnew hne => ?_)
  replace hK := (hne _ (by omega)).trans hK
  replace g0 := (hne _ (by omega)).trans g0
  replace g1 := (hne _ (by omega)).trans g1
  replace g2 := (hne _ (by omega)).trans g2
  replace g3 := (hne _ (by omega)).trans g3
  have g4 := hnew
  replace hfr := fun j (hj : j < b) => (hne j (by omega)).trans (hfr j hj)
  clear hne hnew
  refine xw_putF (pc := 40) (k := 4) dX0_init_40 kF_X0_24 (by decide) rfl rfl hK (by rfl) rfl rfl (tyX0_ok 4 (by decide)) (fun _ => rfl) (fun _ => rfl) (fun w hnew hne => ?_)
  replace hK := hnew
  replace g0 := (hne _ (by omega)).trans g0
  replace g1 := (hne _ (by omega)).trans g1
  replace g2 := (hne _ (by omega)).trans g2
  replace g3 := (hne _ (by omega)).trans g3
  replace g4 := (hne _ (by omega)).trans g4
  replace hfr := fun j (hj : j < b) => (hne j (by omega)).trans (hfr j hj)
  clear hne
  exact x_vret (pc := 43) dX0_init_43 rfl ⟨rfl, rfl, ⟨hK, _, _, _, _, _, g0, g1, g2, g3, g4, fun a h => absurd h (Nat.not_lt_zero a), fun a h => absurd h (Nat.not_lt_zero a)⟩, hfr⟩
theorem c_hearInit {w : ax_W} {b : Nat} (hK : w b = ao 1 df_1) : Run m_X1_init 1 1 10 0 (l_ent m_X1_init [.ref b]) [] w (b + 1) (Mk (fun w' => isH w' b noH) w b (b + 1 + 1)) := by
  have hfr : ∀ j, j < b → w j = w j := fun _ _ => rfl
  refine x_aload_n (pc := 0) dX1_init_0 rfl ?_
  refine x_objInit (pc := 1) dX1_init_1 kO_X1_3 kM_obj kc_obj (by omega) rfl ?_
  refine x_aload_n (pc := 4) dX1_init_4 rfl ?_
  refine x_bipush (pc := 5) dX1_init_5 (v := nI 10) (by decide) ?_
  refine xw_newI (pc := 7) dX1_init_7 (by decide) (by omega) (by omega) (fun w hnew hne => ?_)
  replace hK := (hne _ (by omega)).trans hK
  have g0 := hnew
  replace hfr := fun j (hj : j < b) => (hne j (by omega)).trans (hfr j hj)
  clear hne hnew
  refine xw_putF (pc := 9) (k := 0) dX1_init_9 kF_X1_9 (by decide) rfl rfl hK (by rfl) rfl rfl (tyX1_ok 0 (by decide)) (fun _ => rfl) (fun _ => rfl) (fun w hnew hne => ?_)
  replace hK := hnew
  replace g0 := (hne _ (by omega)).trans g0
  replace hfr := fun j (hj : j < b) => (hne j (by omega)).trans (hfr j hj)
  clear hne
  exact x_vret (pc := 12) dX1_init_12 rfl ⟨rfl, rfl, ⟨hK, _, g0, fun i h => absurd h (Nat.not_lt_zero i)⟩, hfr⟩
theorem c_readInit {w : ax_W} {b : Nat} (hK : w b = ao 2 df_2) : Run m_X2_init 1 1 3 0 (l_ent m_X2_init [.ref b]) [] w (b + 1) (Mk (fun w' => anyR w' b) w b (b + 1 + 1)) := by
  have hfr : ∀ j, j < b → w j = w j := fun _ _ => rfl
  refine x_aload_n (pc := 0) dX2_init_0 rfl ?_
  refine x_objInit (pc := 1) dX2_init_1 kO_X2_3 kM_obj kc_obj (by omega) rfl ?_
  refine x_aload_n (pc := 4) dX2_init_4 rfl ?_
  refine x_iconst (pc := 5) dX2_init_5 (v := nI 3) (by decide) ?_
  refine xw_newI (pc := 6) dX2_init_6 (by decide) (by omega) (by omega) (fun w hnew hne => ?_)
  replace hK := (hne _ (by omega)).trans hK
  have g0 := hnew
  replace hfr := fun j (hj : j < b) => (hne j (by omega)).trans (hfr j hj)
  clear hne hnew
  refine xw_putF (pc := 8) (k := 0) dX2_init_8 kF_X2_9 (by decide) rfl rfl hK (by rfl) rfl rfl (tyX2_ok 0 (by decide)) (fun _ => rfl) (fun _ => rfl) (fun w hnew hne => ?_)
  replace hK := hnew
  replace g0 := (hne _ (by omega)).trans g0
  replace hfr := fun j (hj : j < b) => (hne j (by omega)).trans (hfr j hj)
  clear hne
  exact x_vret (pc := 11) dX2_init_11 rfl ⟨rfl, rfl, ⟨_, _, hK, g0⟩, hfr⟩
theorem c_scriptInit {w : ax_W} {b : Nat} (hK : w b = ao 3 df_3) : Run m_X3_init 1 1 200 0 (l_ent m_X3_init [.ref b]) [] w (b + 1) (Mk (fun w' => isT w' b []) w b (b + 1 + 1)) := by
  have hfr : ∀ j, j < b → w j = w j := fun _ _ => rfl
  refine x_aload_n (pc := 0) dX3_init_0 rfl ?_
  refine x_objInit (pc := 1) dX3_init_1 kO_X3_3 kM_obj kc_obj (by omega) rfl ?_
  refine x_aload_n (pc := 4) dX3_init_4 rfl ?_
  refine x_sipush (pc := 5) dX3_init_5 (v := nI 200) (by decide) ?_
  refine xw_newI (pc := 8) dX3_init_8 (by decide) (by omega) (by omega) (fun w hnew hne => ?_)
  replace hK := (hne _ (by omega)).trans hK
  have g0 := hnew
  replace hfr := fun j (hj : j < b) => (hne j (by omega)).trans (hfr j hj)
  clear hne hnew
  refine xw_putF (pc := 10) (k := 0) dX3_init_10 kF_X3_9 (by decide) rfl rfl hK (by rfl) rfl rfl (tyX3_ok 0 (by decide)) (fun _ => rfl) (fun _ => rfl) (fun w hnew hne => ?_)
  replace hK := hnew
  replace g0 := (hne _ (by omega)).trans g0
  replace hfr := fun j (hj : j < b) => (hne j (by omega)).trans (hfr j hj)
  clear hne
  exact x_vret (pc := 13) dX3_init_13 rfl ⟨rfl, rfl, ⟨hK, _, g0, fun i h => absurd h (Nat.not_lt_zero i)⟩, hfr⟩
theorem c_survInit {w : ax_W} {b : Nat} (hK : w b = ao 5 df_5) : Run m_X5_init 1 3 30 0 (l_ent m_X5_init [.ref b]) [] w (b + 1) (Mk (fun w' => isV w' b zeV) w b (b + 1 + 3)) := by
  have hfr : ∀ j, j < b → w j = w j := fun _ _ => rfl
  refine x_aload_n (pc := 0) dX5_init_0 rfl ?_
  refine x_objInit (pc := 1) dX5_init_1 kO_X5_3 kM_obj kc_obj (by omega) rfl ?_
  refine x_aload_n (pc := 4) dX5_init_4 rfl ?_
  refine x_bipush (pc := 5) dX5_init_5 (v := nI 10) (by decide) ?_
  refine xw_newI (pc := 7) dX5_init_7 (by decide) (by omega) (by omega) (fun w hnew hne => ?_)
  replace hK := (hne _ (by omega)).trans hK
  have g0 := hnew
  replace hfr := fun j (hj : j < b) => (hne j (by omega)).trans (hfr j hj)
  clear hne hnew
  refine xw_putF (pc := 9) (k := 0) dX5_init_9 kF_X5_9 (by decide) rfl rfl hK (by rfl) rfl rfl (tyX5_ok 0 (by decide)) (fun _ => rfl) (fun _ => rfl) (fun w hnew hne => ?_)
  replace hK := hnew
  replace g0 := (hne _ (by omega)).trans g0
  replace hfr := fun j (hj : j < b) => (hne j (by omega)).trans (hfr j hj)
  clear hne
  refine x_aload_n (pc := 12) dX5_init_12 rfl ?_
  refine x_bipush (pc := 13) dX5_init_13 (v := nI 10) (by decide) ?_
  refine xw_newI (pc := 15) dX5_init_15 (by decide) (by omega) (by omega) (fun w hnew hne => ?_)
  replace hK := (hne _ (by omega)).trans hK
  replace g0 := (hne _ (by omega)).trans g0
  have g1 := hnew
  replace hfr := fun j (hj : j < b) => (hne j (by omega)).trans (hfr j hj)
  clear hne hnew
  refine xw_putF (pc := 17) (k := 1) dX5_init_17 kF_X5_15 (by decide) rfl rfl hK (by rfl) rfl rfl (tyX5_ok 1 (by decide)) (fun _ => rfl) (fun _ => rfl) (fun w hnew hne => ?_)
  replace hK := hnew
  replace g0 := (hne _ (by omega)).trans g0
  replace g1 := (hne _ (by omega)).trans g1
  replace hfr := fun j (hj : j < b) => (hne j (by omega)).trans (hfr j hj)
  clear hne
  refine x_aload_n (pc := 20) dX5_init_20 rfl ?_
  refine x_bipush (pc := 21) dX5_init_21 (v := nI 10) (by decide) ?_
  refine xw_newI (pc := 23) dX5_init_23 (by decide) (by omega) (by omega) (fun w hnew hne => ?_)
  replace hK := (hne _ (by omega)).trans hK
  replace g0 := (hne _ (by omega)).trans g0
  replace g1 := (hne _ (by omega)).trans g1
  have g2 := hnew
  replace hfr := fun j (hj : j < b) => (hne j (by omega)).trans (hfr j hj)
  clear hne hnew
  refine xw_putF (pc := 25) (k := 2) dX5_init_25 kF_X5_18 (by decide) rfl rfl hK (by rfl) rfl rfl (tyX5_ok 2 (by decide)) (fun _ => rfl) (fun _ => rfl) (fun w hnew hne => ?_)
  replace hK := hnew
  replace g0 := (hne _ (by omega)).trans g0
  replace g1 := (hne _ (by omega)).trans g1
  replace g2 := (hne _ (by omega)).trans g2
  replace hfr := fun j (hj : j < b) => (hne j (by omega)).trans (hfr j hj)
  clear hne
  exact x_vret (pc := 28) dX5_init_28 rfl ⟨rfl, rfl, ⟨hK, _, _, _, g0, g1, g2, fun i h => absurd h (Nat.not_lt_zero i), fun a _ => rfl⟩, hfr⟩
theorem okV_ze : okV zeV := ⟨by decide, by decide, by decide, by decide, by decide, by decide, fun _ _ => (by show (0 : Nat) < 1000; decide)⟩
def shP (b i : Nat) : Nat → Option Nat := fun j => if j < i then some (b + 2 + 2 * j) else none
theorem shP_s (b i : Nat) : va_up (shP b i) i (some (b + 2 + 2 * i)) = shP b (i + 1) := by
  funext j
  by_cases q : j = i
  · subst q; rw [va_up_self]; unfold shP; rw [if_pos (by omega)]
  · rw [va_up_ne _ _ q]; unfold shP
    by_cases h : j < i
    · rw [if_pos h, if_pos (by omega)]
    · rw [if_neg h, if_neg (by omega)]
theorem c_shelfInit {w0 : ax_W} {b m : Nat} (hm : m = 2 ∨ m = 8) (hK : w0 b = ao 4 df_4) : Run m_X4_init 2 (1 + 2 * m) (m + 13 * m) 0 (l_ent m_X4_init [.ref b, .int (nI m)]) [] w0 (b + 1) (Mk (fun w' => isS w' b m []) w0 b (b + 2 + 2 * m)) := by
  have loop : ∀ k i (w : ax_W), i + k = m → w b = ao 4 [.ref (b + 1), .int (nI 0), .int (nI 0)] → w (b + 1) = aq m (shP b i) → (∀ u, u < i → isH w (b + 2 + 2 * u) noH) → (∀ j, j < b → w j = w0 j) → Run m_X4_init 2 (2 * k) (13 * k) 18 [some (.ref b), some (.int (nI m)), some (.int (nI i))] [] w (b + 2 + 2 * i) (Mk (fun w' => isS w' b m []) w0 b (b + 2 + 2 * m)) := by
    intro k
    induction k with
    | zero =>
      intro i w hi hK hA hH hfr
      have hii : i = m := by omega
      subst hii
      refine x_iload_n (pc := 18) dX4_init_18 rfl ?_
      refine x_aload_n (pc := 19) dX4_init_19 rfl ?_
      refine x_getf (pc := 20) dX4_init_20 kf_X4_15 hK (by rfl) ?_
      refine x_alenQ (pc := 23) dX4_init_23 hA ?_
      refine x_icmp_ge_t (pc := 24) dX4_init_24 (tgt := 46) (by decide) (nI_le (by omega) (by omega)) ?_
      exact x_vret (pc := 46) dX4_init_46 rfl ⟨rfl, rfl, ⟨0, by omega, hK, hA, fun u hu => ⟨noH, hH u hu⟩, Nat.zero_le _, fun u hu => absurd hu (Nat.not_lt_zero u)⟩, hfr⟩
    | succ k ih =>
      intro i w hi hK hA hH hfr
      refine x_iload_n (pc := 18) dX4_init_18 rfl ?_
      refine x_aload_n (pc := 19) dX4_init_19 rfl ?_
      refine x_getf (pc := 20) dX4_init_20 kf_X4_15 hK (by rfl) ?_
      refine x_alenQ (pc := 23) dX4_init_23 hA ?_
      refine x_icmp_ge_f (pc := 24) dX4_init_24 (tgt := 46) (by decide) (nI_ge (by omega) (by omega)) ?_
      refine x_aload_n (pc := 27) dX4_init_27 rfl ?_
      refine x_getf (pc := 28) dX4_init_28 kf_X4_15 hK (by rfl) ?_
      refine x_iload_n (pc := 31) dX4_init_31 rfl ?_
      refine xw_new (pc := 32) (ci := 1) (fs := df_1) dX4_init_32 rfl kC_X4_13 kT_X1 kI_X1 df_ok_1 (fun _ => rfl) (by omega) (by omega) (fun w hnew hne => ?_)
      refine x_dup (pc := 35) dX4_init_35 rfl ?_
      replace hK := (hne _ (by omega)).trans hK
      replace hA := (hne _ (by omega)).trans hA
      have hH1 : ∀ u, u < i → isH w (b + 2 + 2 * u) noH := fun u hu => (hH u hu).go fun j _ _ => hne j (by omega)
      replace hfr := fun j (hj : j < b) => (hne j (by omega)).trans (hfr j hj)
      clear hH hne
      refine xw_ci0 (pc := 36) (a1 := 1) (a2 := 10) dX4_init_36 ks_X4_21 (d' := 1) (by omega) (by rfl) (by rfl) (by omega) (by omega) (c_hearInit hnew) (fun r w' n' hP => ?_)
      obtain ⟨rfl, rfl, hH2, hq⟩ := hP
      clear hnew
      replace hK := (hq _ (by omega)).trans hK
      replace hA := (hq _ (by omega)).trans hA
      replace hH1 : ∀ u, u < i → isH w' (b + 2 + 2 * u) noH := fun u hu => (hH1 u hu).go fun j _ _ => hq j (by omega)
      replace hfr := fun j (hj : j < b) => (hq j (by omega)).trans (hfr j hj)
      clear hq
      refine xw_aast (pc := 39) dX4_init_39 hA hH2.1 (by omega) (by omega) (fun w hnew hne => ?_)
      rw [shP_s] at hnew
      replace hK := (hne _ (by omega)).trans hK
      replace hfr := fun j (hj : j < b) => (hne j (by omega)).trans (hfr j hj)
      refine xn_iinc (pc := 40) dX4_init_40 rfl rfl ?_
      refine x_goto (pc := 43) dX4_init_43 (tgt := 18) (by decide) ?_
      have hih := ih (i + 1) w (by omega) hK hnew (fun u hu => by
        by_cases q : u = i
        · subst q; exact hH2.go fun j _ _ => hne j (by omega)
        · exact (hH1 u (by omega)).go fun j _ _ => hne j (by omega)) hfr
      exact hih.room (by omega) (by omega)
  have hfr : ∀ j, j < b → w0 j = w0 j := fun _ _ => rfl
  have hmax : (if nI m < nI 1 then nI 1 else nI m) = nI m := if_neg (by rw [n_lt (by omega) (by omega)]; omega)
  refine x_aload_n (pc := 0) dX4_init_0 rfl ?_
  refine x_objInit (pc := 1) dX4_init_1 kO_X4_1 kM_obj kc_obj (by omega) rfl ?_
  refine x_aload_n (pc := 4) dX4_init_4 rfl ?_
  refine x_iload_n (pc := 5) dX4_init_5 rfl ?_
  refine x_iconst (pc := 6) dX4_init_6 (v := nI 1) (by decide) ?_
  refine x_mmax (pc := 7) dX4_init_7 kX_max_X4_7 kXs_max kI_J9 kXc_max (by omega) rfl ?_
  refine Run.top (v' := .int (nI m)) (by rw [hmax]) ?_
  refine xw_newq (pc := 10) dX4_init_10 kC_X4_13 (by omega) (by omega) (by omega) (fun w hnew hne => ?_)
  replace hK := (hne _ (by omega)).trans hK
  have hA := hnew
  replace hfr := fun j (hj : j < b) => (hne j (by omega)).trans (hfr j hj)
  clear hne hnew
  refine xw_putF (pc := 13) (k := 0) dX4_init_13 kF_X4_15 (by decide) rfl rfl hK (by rfl) rfl rfl (tyX4_ok 0 (by decide)) (fun _ => rfl) (fun _ => rfl) (fun w hnew hne => ?_)
  replace hK := hnew
  replace hA := (hne _ (by omega)).trans hA
  replace hfr := fun j (hj : j < b) => (hne j (by omega)).trans (hfr j hj)
  refine x_iconst (pc := 16) dX4_init_16 (v := nI 0) (by decide) ?_
  refine x_istore_n (pc := 17) dX4_init_17 rfl ?_
  exact (loop m 0 w (by omega) hK hA (fun u hu => absurd hu (Nat.not_lt_zero u)) hfr).room (by omega) (by omega)
def T0 : List Nat := (List.range 127).map fc
theorem T0_at {i : Nat} (h : i < 127) : T0.getD i 0 = fc i := by
  unfold T0
  rw [List.getD_eq_getElem?_getD, List.getElem?_map, List.getElem?_range h, Option.map_some, Option.getD_some]
theorem okT_0 : okT T0 := ⟨by simp [T0], fun i hi => by
  have h : i < 127 := by simpa [T0] using hi
  rw [T0_at h]
  exact fc_lo i h⟩
theorem c_xInit {w : ax_W} (hX : w 0 = ao 6 df_6) : Run m_X6_init 6 100 1000 0 (l_ent m_X6_init [.ref 0]) [] w 1 (fun r w' n' => r = none ∧ n' = 51 ∧ isX w' [] (raS T0).2 noH [] []) := by
  refine x_aload_n (pc := 0) dX6_init_0 rfl ?_
  refine x_objInit (pc := 1) dX6_init_1 kO_X6_1 kM_obj kc_obj (by omega) rfl ?_
  refine x_aload_n (pc := 4) dX6_init_4 rfl ?_
  refine xw_new (pc := 5) (ci := 3) (fs := df_3) dX6_init_5 rfl kC_X6_7 kT_X3 kI_X3 df_ok_3 (fun _ => rfl) (by omega) (by omega) (fun w hnew hne => ?_)
  replace hX := (hne _ (by omega)).trans hX
  clear hne
  refine x_dup (pc := 8) dX6_init_8 rfl ?_
  refine xw_ci0 (pc := 9) (a1 := 1) (a2 := 200) dX6_init_9 ks_X6_9 (d' := 1) (by omega) (by rfl) (by rfl) (by omega) (by omega) (c_scriptInit hnew) (fun r w n' hP => ?_)
  obtain ⟨rfl, hn, hT, hq⟩ := hP
  have hn : n' = 3 := hn
  subst hn
  clear hnew
  replace hX := (hq _ (by omega)).trans hX
  clear hq
  refine xw_putF (pc := 12) (k := 0) dX6_init_12 kF_X6_10 (by decide) rfl rfl hX (by rfl) rfl rfl (tyX6_ok 0 (by decide)) (fun _ => rfl) (fun _ => rfl) (fun w hnew hne => ?_)
  replace hX := hnew
  replace hT := hT.go fun j _ _ => hne j (by omega)
  clear hne hnew
  refine x_aload_n (pc := 15) dX6_init_15 rfl ?_
  refine xw_new (pc := 16) (ci := 2) (fs := df_2) dX6_init_16 rfl kC_X6_16 kT_X2 kI_X2 df_ok_2 (fun _ => rfl) (by omega) (by omega) (fun w hnew hne => ?_)
  replace hX := (hne _ (by omega)).trans hX
  replace hT := hT.go fun j _ _ => hne j (by omega)
  clear hne
  refine x_dup (pc := 19) dX6_init_19 rfl ?_
  refine xw_ci0 (pc := 20) (a1 := 1) (a2 := 3) dX6_init_20 ks_X6_18 (d' := 1) (by omega) (by rfl) (by rfl) (by omega) (by omega) (c_readInit hnew) (fun r w n' hP => ?_)
  obtain ⟨rfl, hn, hR, hq⟩ := hP
  have hn : n' = 5 := hn
  subst hn
  clear hnew
  replace hX := (hq _ (by omega)).trans hX
  replace hT := hT.go fun j _ _ => hq j (by omega)
  clear hq
  refine xw_putF (pc := 23) (k := 1) dX6_init_23 kF_X6_19 (by decide) rfl rfl hX (by rfl) rfl rfl (tyX6_ok 1 (by decide)) (fun _ => rfl) (fun _ => rfl) (fun w hnew hne => ?_)
  replace hX := hnew
  replace hT := hT.go fun j _ _ => hne j (by omega)
  replace hR := hR.go fun j _ _ => hne j (by omega)
  clear hne hnew
  refine x_aload_n (pc := 26) dX6_init_26 rfl ?_
  refine xw_new (pc := 27) (ci := 0) (fs := df_0) dX6_init_27 rfl kC_X6_23 kT_X0 kI_X0 df_ok_0 (fun _ => rfl) (by omega) (by omega) (fun w hnew hne => ?_)
  replace hX := (hne _ (by omega)).trans hX
  replace hT := hT.go fun j _ _ => hne j (by omega)
  replace hR := hR.go fun j _ _ => hne j (by omega)
  clear hne
  refine x_dup (pc := 30) dX6_init_30 rfl ?_
  refine xw_ci0 (pc := 31) (a1 := 5) (a2 := 45) dX6_init_31 ks_X6_25 (d' := 1) (by omega) (by rfl) (by rfl) (by omega) (by omega) (c_courtInit hnew) (fun r w n' hP => ?_)
  obtain ⟨rfl, hn, hC, hq⟩ := hP
  have hn : n' = 11 := hn
  subst hn
  clear hnew
  replace hX := (hq _ (by omega)).trans hX
  replace hT := hT.go fun j _ _ => hq j (by omega)
  replace hR := hR.go fun j _ _ => hq j (by omega)
  clear hq
  refine xw_putF (pc := 34) (k := 2) dX6_init_34 kF_X6_26 (by decide) rfl rfl hX (by rfl) rfl rfl (tyX6_ok 2 (by decide)) (fun _ => rfl) (fun _ => rfl) (fun w hnew hne => ?_)
  replace hX := hnew
  replace hT := hT.go fun j _ _ => hne j (by omega)
  replace hR := hR.go fun j _ _ => hne j (by omega)
  replace hC := hC.go fun j _ _ => hne j (by omega)
  clear hne hnew
  refine x_aload_n (pc := 37) dX6_init_37 rfl ?_
  refine xw_new (pc := 38) (ci := 0) (fs := df_0) dX6_init_38 rfl kC_X6_23 kT_X0 kI_X0 df_ok_0 (fun _ => rfl) (by omega) (by omega) (fun w hnew hne => ?_)
  replace hX := (hne _ (by omega)).trans hX
  replace hT := hT.go fun j _ _ => hne j (by omega)
  replace hR := hR.go fun j _ _ => hne j (by omega)
  replace hC := hC.go fun j _ _ => hne j (by omega)
  clear hne
  refine x_dup (pc := 41) dX6_init_41 rfl ?_
  refine xw_ci0 (pc := 42) (a1 := 5) (a2 := 45) dX6_init_42 ks_X6_25 (d' := 1) (by omega) (by rfl) (by rfl) (by omega) (by omega) (c_courtInit hnew) (fun r w n' hP => ?_)
  obtain ⟨rfl, hn, hD, hq⟩ := hP
  have hn : n' = 17 := hn
  subst hn
  clear hnew
  replace hX := (hq _ (by omega)).trans hX
  replace hT := hT.go fun j _ _ => hq j (by omega)
  replace hR := hR.go fun j _ _ => hq j (by omega)
  replace hC := hC.go fun j _ _ => hq j (by omega)
  clear hq
  refine xw_putF (pc := 45) (k := 3) dX6_init_45 kF_X6_30 (by decide) rfl rfl hX (by rfl) rfl rfl (tyX6_ok 3 (by decide)) (fun _ => rfl) (fun _ => rfl) (fun w hnew hne => ?_)
  replace hX := hnew
  replace hT := hT.go fun j _ _ => hne j (by omega)
  replace hR := hR.go fun j _ _ => hne j (by omega)
  replace hC := hC.go fun j _ _ => hne j (by omega)
  replace hD := hD.go fun j _ _ => hne j (by omega)
  clear hne hnew
  refine x_aload_n (pc := 48) dX6_init_48 rfl ?_
  refine xw_new (pc := 49) (ci := 1) (fs := df_1) dX6_init_49 rfl kC_X6_33 kT_X1 kI_X1 df_ok_1 (fun _ => rfl) (by omega) (by omega) (fun w hnew hne => ?_)
  replace hX := (hne _ (by omega)).trans hX
  replace hT := hT.go fun j _ _ => hne j (by omega)
  replace hR := hR.go fun j _ _ => hne j (by omega)
  replace hC := hC.go fun j _ _ => hne j (by omega)
  replace hD := hD.go fun j _ _ => hne j (by omega)
  clear hne
  refine x_dup (pc := 52) dX6_init_52 rfl ?_
  refine xw_ci0 (pc := 53) (a1 := 1) (a2 := 10) dX6_init_53 ks_X6_35 (d' := 1) (by omega) (by rfl) (by rfl) (by omega) (by omega) (c_hearInit hnew) (fun r w n' hP => ?_)
  obtain ⟨rfl, hn, hH, hq⟩ := hP
  have hn : n' = 19 := hn
  subst hn
  clear hnew
  replace hX := (hq _ (by omega)).trans hX
  replace hT := hT.go fun j _ _ => hq j (by omega)
  replace hR := hR.go fun j _ _ => hq j (by omega)
  replace hC := hC.go fun j _ _ => hq j (by omega)
  replace hD := hD.go fun j _ _ => hq j (by omega)
  clear hq
  refine xw_putF (pc := 56) (k := 4) dX6_init_56 kF_X6_36 (by decide) rfl rfl hX (by rfl) rfl rfl (tyX6_ok 4 (by decide)) (fun _ => rfl) (fun _ => rfl) (fun w hnew hne => ?_)
  replace hX := hnew
  replace hT := hT.go fun j _ _ => hne j (by omega)
  replace hR := hR.go fun j _ _ => hne j (by omega)
  replace hC := hC.go fun j _ _ => hne j (by omega)
  replace hD := hD.go fun j _ _ => hne j (by omega)
  replace hH := hH.go fun j _ _ => hne j (by omega)
  clear hne hnew
  refine x_aload_n (pc := 59) dX6_init_59 rfl ?_
  refine xw_new (pc := 60) (ci := 4) (fs := df_4) dX6_init_60 rfl kC_X6_40 kT_X4 kI_X4 df_ok_4 (fun _ => rfl) (by omega) (by omega) (fun w hnew hne => ?_)
  replace hX := (hne _ (by omega)).trans hX
  replace hT := hT.go fun j _ _ => hne j (by omega)
  replace hR := hR.go fun j _ _ => hne j (by omega)
  replace hC := hC.go fun j _ _ => hne j (by omega)
  replace hD := hD.go fun j _ _ => hne j (by omega)
  replace hH := hH.go fun j _ _ => hne j (by omega)
  clear hne
  refine x_dup (pc := 63) dX6_init_63 rfl ?_
  refine x_bipush (pc := 64) dX6_init_64 (v := nI 8) (by decide) ?_
  refine xw_ci1 (pc := 66) (a1 := 17) (a2 := 112) dX6_init_66 ks_X6_42 (d' := 2) (by omega) (by rfl) (by rfl) (by rfl) (by omega) (by omega) (c_shelfInit (m := 8) (by omega) hnew) (fun r w n' hP => ?_)
  obtain ⟨rfl, hn, hP1, hq⟩ := hP
  have hn : n' = 37 := hn
  subst hn
  clear hnew
  replace hX := (hq _ (by omega)).trans hX
  replace hT := hT.go fun j _ _ => hq j (by omega)
  replace hR := hR.go fun j _ _ => hq j (by omega)
  replace hC := hC.go fun j _ _ => hq j (by omega)
  replace hD := hD.go fun j _ _ => hq j (by omega)
  replace hH := hH.go fun j _ _ => hq j (by omega)
  clear hq
  refine xw_putF (pc := 69) (k := 5) dX6_init_69 kF_X6_45 (by decide) rfl rfl hX (by rfl) rfl rfl (tyX6_ok 5 (by decide)) (fun _ => rfl) (fun _ => rfl) (fun w hnew hne => ?_)
  replace hX := hnew
  replace hT := hT.go fun j _ _ => hne j (by omega)
  replace hR := hR.go fun j _ _ => hne j (by omega)
  replace hC := hC.go fun j _ _ => hne j (by omega)
  replace hD := hD.go fun j _ _ => hne j (by omega)
  replace hH := hH.go fun j _ _ => hne j (by omega)
  replace hP1 := hP1.go fun j _ _ => hne j (by omega)
  clear hne hnew
  refine x_aload_n (pc := 72) dX6_init_72 rfl ?_
  refine xw_new (pc := 73) (ci := 4) (fs := df_4) dX6_init_73 rfl kC_X6_40 kT_X4 kI_X4 df_ok_4 (fun _ => rfl) (by omega) (by omega) (fun w hnew hne => ?_)
  replace hX := (hne _ (by omega)).trans hX
  replace hT := hT.go fun j _ _ => hne j (by omega)
  replace hR := hR.go fun j _ _ => hne j (by omega)
  replace hC := hC.go fun j _ _ => hne j (by omega)
  replace hD := hD.go fun j _ _ => hne j (by omega)
  replace hH := hH.go fun j _ _ => hne j (by omega)
  replace hP1 := hP1.go fun j _ _ => hne j (by omega)
  clear hne
  refine x_dup (pc := 76) dX6_init_76 rfl ?_
  refine x_iconst (pc := 77) dX6_init_77 (v := nI 2) (by decide) ?_
  refine xw_ci1 (pc := 78) (a1 := 5) (a2 := 28) dX6_init_78 ks_X6_42 (d' := 2) (by omega) (by rfl) (by rfl) (by rfl) (by omega) (by omega) (c_shelfInit (m := 2) (by omega) hnew) (fun r w n' hP => ?_)
  obtain ⟨rfl, hn, hP2, hq⟩ := hP
  have hn : n' = 43 := hn
  subst hn
  clear hnew
  replace hX := (hq _ (by omega)).trans hX
  replace hT := hT.go fun j _ _ => hq j (by omega)
  replace hR := hR.go fun j _ _ => hq j (by omega)
  replace hC := hC.go fun j _ _ => hq j (by omega)
  replace hD := hD.go fun j _ _ => hq j (by omega)
  replace hH := hH.go fun j _ _ => hq j (by omega)
  replace hP1 := hP1.go fun j _ _ => hq j (by omega)
  clear hq
  refine xw_putF (pc := 81) (k := 6) dX6_init_81 kF_X6_49 (by decide) rfl rfl hX (by rfl) rfl rfl (tyX6_ok 6 (by decide)) (fun _ => rfl) (fun _ => rfl) (fun w hnew hne => ?_)
  replace hX := hnew
  replace hT := hT.go fun j _ _ => hne j (by omega)
  replace hR := hR.go fun j _ _ => hne j (by omega)
  replace hC := hC.go fun j _ _ => hne j (by omega)
  replace hD := hD.go fun j _ _ => hne j (by omega)
  replace hH := hH.go fun j _ _ => hne j (by omega)
  replace hP1 := hP1.go fun j _ _ => hne j (by omega)
  replace hP2 := hP2.go fun j _ _ => hne j (by omega)
  clear hne hnew
  refine x_aload_n (pc := 84) dX6_init_84 rfl ?_
  refine xw_new (pc := 85) (ci := 5) (fs := df_5) dX6_init_85 rfl kC_X6_52 kT_X5 kI_X5 df_ok_5 (fun _ => rfl) (by omega) (by omega) (fun w hnew hne => ?_)
  replace hX := (hne _ (by omega)).trans hX
  replace hT := hT.go fun j _ _ => hne j (by omega)
  replace hR := hR.go fun j _ _ => hne j (by omega)
  replace hC := hC.go fun j _ _ => hne j (by omega)
  replace hD := hD.go fun j _ _ => hne j (by omega)
  replace hH := hH.go fun j _ _ => hne j (by omega)
  replace hP1 := hP1.go fun j _ _ => hne j (by omega)
  replace hP2 := hP2.go fun j _ _ => hne j (by omega)
  clear hne
  refine x_dup (pc := 88) dX6_init_88 rfl ?_
  refine xw_ci0 (pc := 89) (a1 := 3) (a2 := 30) dX6_init_89 ks_X6_54 (d' := 1) (by omega) (by rfl) (by rfl) (by omega) (by omega) (c_survInit hnew) (fun r w n' hP => ?_)
  obtain ⟨rfl, hn, hV, hq⟩ := hP
  have hn : n' = 47 := hn
  subst hn
  clear hnew
  replace hX := (hq _ (by omega)).trans hX
  replace hT := hT.go fun j _ _ => hq j (by omega)
  replace hR := hR.go fun j _ _ => hq j (by omega)
  replace hC := hC.go fun j _ _ => hq j (by omega)
  replace hD := hD.go fun j _ _ => hq j (by omega)
  replace hH := hH.go fun j _ _ => hq j (by omega)
  replace hP1 := hP1.go fun j _ _ => hq j (by omega)
  replace hP2 := hP2.go fun j _ _ => hq j (by omega)
  clear hq
  refine xw_putF (pc := 92) (k := 7) dX6_init_92 kF_X6_55 (by decide) rfl rfl hX (by rfl) rfl rfl (tyX6_ok 7 (by decide)) (fun _ => rfl) (fun _ => rfl) (fun w hnew hne => ?_)
  replace hX := hnew
  replace hT := hT.go fun j _ _ => hne j (by omega)
  replace hR := hR.go fun j _ _ => hne j (by omega)
  replace hC := hC.go fun j _ _ => hne j (by omega)
  replace hD := hD.go fun j _ _ => hne j (by omega)
  replace hH := hH.go fun j _ _ => hne j (by omega)
  replace hP1 := hP1.go fun j _ _ => hne j (by omega)
  replace hP2 := hP2.go fun j _ _ => hne j (by omega)
  replace hV := hV.go fun j _ _ => hne j (by omega)
  clear hne hnew
  refine x_aload_n (pc := 95) dX6_init_95 rfl ?_
  refine xw_new (pc := 96) (ci := 5) (fs := df_5) dX6_init_96 rfl kC_X6_52 kT_X5 kI_X5 df_ok_5 (fun _ => rfl) (by omega) (by omega) (fun w hnew hne => ?_)
  replace hX := (hne _ (by omega)).trans hX
  replace hT := hT.go fun j _ _ => hne j (by omega)
  replace hR := hR.go fun j _ _ => hne j (by omega)
  replace hC := hC.go fun j _ _ => hne j (by omega)
  replace hD := hD.go fun j _ _ => hne j (by omega)
  replace hH := hH.go fun j _ _ => hne j (by omega)
  replace hP1 := hP1.go fun j _ _ => hne j (by omega)
  replace hP2 := hP2.go fun j _ _ => hne j (by omega)
  replace hV := hV.go fun j _ _ => hne j (by omega)
  clear hne
  refine x_dup (pc := 99) dX6_init_99 rfl ?_
  refine xw_ci0 (pc := 100) (a1 := 3) (a2 := 30) dX6_init_100 ks_X6_54 (d' := 1) (by omega) (by rfl) (by rfl) (by omega) (by omega) (c_survInit hnew) (fun r w n' hP => ?_)
  obtain ⟨rfl, hn, hV2, hq⟩ := hP
  have hn : n' = 51 := hn
  subst hn
  clear hnew
  replace hX := (hq _ (by omega)).trans hX
  replace hT := hT.go fun j _ _ => hq j (by omega)
  replace hR := hR.go fun j _ _ => hq j (by omega)
  replace hC := hC.go fun j _ _ => hq j (by omega)
  replace hD := hD.go fun j _ _ => hq j (by omega)
  replace hH := hH.go fun j _ _ => hq j (by omega)
  replace hP1 := hP1.go fun j _ _ => hq j (by omega)
  replace hP2 := hP2.go fun j _ _ => hq j (by omega)
  replace hV := hV.go fun j _ _ => hq j (by omega)
  clear hq
  refine xw_putF (pc := 103) (k := 8) dX6_init_103 kF_X6_59 (by decide) rfl rfl hX (by rfl) rfl rfl (tyX6_ok 8 (by decide)) (fun _ => rfl) (fun _ => rfl) (fun w hnew hne => ?_)
  replace hX := hnew
  replace hT := hT.go fun j _ _ => hne j (by omega)
  replace hR := hR.go fun j _ _ => hne j (by omega)
  replace hC := hC.go fun j _ _ => hne j (by omega)
  replace hD := hD.go fun j _ _ => hne j (by omega)
  replace hH := hH.go fun j _ _ => hne j (by omega)
  replace hP1 := hP1.go fun j _ _ => hne j (by omega)
  replace hP2 := hP2.go fun j _ _ => hne j (by omega)
  replace hV := hV.go fun j _ _ => hne j (by omega)
  replace hV2 := hV2.go fun j _ _ => hne j (by omega)
  clear hne hnew
  refine x_aload_n (pc := 106) dX6_init_106 rfl ?_
  refine x_getf (pc := 107) dX6_init_107 kf_X6_10 hX (by rfl) ?_
  refine x_ldcS (pc := 110) dX6_init_110 rfl ?_
  refine Run.room (q1 := 0 + 0) (q2 := 0 + 0) ?_ (by omega) (by omega)
  refine x_cv1 (q1 := 0) (q2 := 0) (ci := 3) (pc := 112) dX6_init_112 ks_X6_64 hT.1 (by rfl) (by omega) (by rfl) (by rfl) (by rfl) (c_addAll hT) (vo_kk fun w hP => ?_)
  obtain ⟨hT1, hq⟩ := hP
  replace hX := (hq _ (by omega)).trans hX
  replace hR := hR.go fun j _ _ => hq j (by omega)
  replace hC := hC.go fun j _ _ => hq j (by omega)
  replace hD := hD.go fun j _ _ => hq j (by omega)
  replace hH := hH.go fun j _ _ => hq j (by omega)
  replace hP1 := hP1.go fun j _ _ => hq j (by omega)
  replace hP2 := hP2.go fun j _ _ => hq j (by omega)
  replace hV := hV.go fun j _ _ => hq j (by omega)
  replace hV2 := hV2.go fun j _ _ => hq j (by omega)
  clear hq hT
  have hT : isT w 1 T0 := hT1
  clear hT1
  obtain ⟨aR, fR, hR1, hR2⟩ := id hR
  refine x_aload_n (pc := 115) dX6_init_115 rfl ?_
  refine x_getf (pc := 116) dX6_init_116 kf_X6_19 hX (by rfl) ?_
  refine x_aload_n (pc := 119) dX6_init_119 rfl ?_
  refine x_getf (pc := 120) dX6_init_120 kf_X6_10 hX (by rfl) ?_
  refine x_aload_n (pc := 123) dX6_init_123 rfl ?_
  refine x_getf (pc := 124) dX6_init_124 kf_X6_26 hX (by rfl) ?_
  refine x_cv2 (q1 := 0) (q2 := 0) (ci := 2) (pc := 127) dX6_init_127 ks_X6_68 hR1 (by rfl) (by omega) (by rfl) (by rfl) (by rfl) (c_readAll hR hT okT_0 hC (by omega) (by omega) (by omega)) (va_kk fun v w hP => ?_)
  obtain ⟨rfl, hC1, hR', hq'⟩ := hP
  have hq : ∀ j, (j < 3 ∨ 5 ≤ j) ∧ (j < 5 ∨ 11 ≤ j) → w j = _ := fun j hj => hq' j hj.1 hj.2
  replace hX := (hq _ (by omega)).trans hX
  replace hT := hT.go fun j _ _ => hq j (by omega)
  replace hD := hD.go fun j _ _ => hq j (by omega)
  replace hH := hH.go fun j _ _ => hq j (by omega)
  replace hP1 := hP1.go fun j _ _ => hq j (by omega)
  replace hP2 := hP2.go fun j _ _ => hq j (by omega)
  replace hV := hV.go fun j _ _ => hq j (by omega)
  replace hV2 := hV2.go fun j _ _ => hq j (by omega)
  clear hq hq' hR hC hR1 hR2
  refine x_pop (pc := 130) dX6_init_130 rfl ?_
  refine x_aload_n (pc := 131) dX6_init_131 rfl ?_
  refine x_getf (pc := 132) dX6_init_132 kf_X6_10 hX (by rfl) ?_
  refine x_cv0 (q1 := 0) (q2 := 0) (ci := 3) (pc := 135) dX6_init_135 ks_X6_72 hT.1 (by rfl) (by omega) (by rfl) (by rfl) (by rfl) (c_scriptClear hT) (vo_kk fun w hP => ?_)
  obtain ⟨hT1, hq⟩ := hP
  replace hX := (hq _ (by omega)).trans hX
  replace hR' := hR'.go fun j _ _ => hq j (by omega)
  replace hC1 := hC1.go fun j _ _ => hq j (by omega)
  replace hD := hD.go fun j _ _ => hq j (by omega)
  replace hH := hH.go fun j _ _ => hq j (by omega)
  replace hP1 := hP1.go fun j _ _ => hq j (by omega)
  replace hP2 := hP2.go fun j _ _ => hq j (by omega)
  replace hV := hV.go fun j _ _ => hq j (by omega)
  replace hV2 := hV2.go fun j _ _ => hq j (by omega)
  exact x_vret (pc := 138) dX6_init_138 rfl ⟨rfl, rfl, hX, hT1, hR', hC1, ⟨_, hD⟩, hH, hP1, hP2, ⟨_, hV, okV_ze⟩, ⟨_, hV2, okV_ze⟩⟩
