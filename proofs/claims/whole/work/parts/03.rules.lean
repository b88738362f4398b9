/-! one rule an instruction: from the world behind it to the world ahead of it -/
section RULES
variable {M : ax_M} {d q1 q2 pc : Nat} {ls : List (Option Value)} {st : List Value} {w : ax_W} {n : Nat} {P : Option Value → ax_W → Nat → Prop}
theorem x_iconst {k : Int} {v : Int32} (hd : decode M.2.1 pc = .ok (.iconst k, 1)) (hv : Int32.ofInt k = v) (kk : Run M d q1 q2 (pc + 1) ls (.int v :: st) w n P) : Run M d q1 q2 pc ls (st) w n P := by
  intro B D cA p l e R s m args below meth c H locs ls' cells slots mc ms C hH hF hL h4 h5 h6 h7
  exact lv_iconst C.1 C.2.1 hd hv (kk B D cA p l e R s m args below meth c H locs ls' cells slots mc ms C hH hF hL h4 h5 h6 h7)
theorem x_bipush {k : Int} {v : Int32} (hd : decode M.2.1 pc = .ok (.bipush k, 2)) (hv : (Int8.ofInt k).toInt32 = v) (kk : Run M d q1 q2 (pc + 2) ls (.int v :: st) w n P) : Run M d q1 q2 pc ls (st) w n P := by
  intro B D cA p l e R s m args below meth c H locs ls' cells slots mc ms C hH hF hL h4 h5 h6 h7
  exact lv_bipush C.1 C.2.1 hd hv (kk B D cA p l e R s m args below meth c H locs ls' cells slots mc ms C hH hF hL h4 h5 h6 h7)
theorem x_sipush {k : Int} {v : Int32} (hd : decode M.2.1 pc = .ok (.sipush k, 3)) (hv : (Int16.ofInt k).toInt32 = v) (kk : Run M d q1 q2 (pc + 3) ls (.int v :: st) w n P) : Run M d q1 q2 pc ls (st) w n P := by
  intro B D cA p l e R s m args below meth c H locs ls' cells slots mc ms C hH hF hL h4 h5 h6 h7
  exact lv_sipush C.1 C.2.1 hd hv (kk B D cA p l e R s m args below meth c H locs ls' cells slots mc ms C hH hF hL h4 h5 h6 h7)
theorem x_lconst {k : Fin 2} {v : Int64} (hd : decode M.2.1 pc = .ok (.lconst k, 1)) (hv : Int64.ofNat (k : Nat) = v) (kk : Run M d q1 q2 (pc + 1) ls (.long v :: st) w n P) : Run M d q1 q2 pc ls (st) w n P := by
  intro B D cA p l e R s m args below meth c H locs ls' cells slots mc ms C hH hF hL h4 h5 h6 h7
  exact lv_lconst C.1 C.2.1 hd hv (kk B D cA p l e R s m args below meth c H locs ls' cells slots mc ms C hH hF hL h4 h5 h6 h7)
theorem x_null  (hd : decode M.2.1 pc = .ok (.aconst_null, 1))  (kk : Run M d q1 q2 (pc + 1) ls (.null :: st) w n P) : Run M d q1 q2 pc ls (st) w n P := by
  intro B D cA p l e R s m args below meth c H locs ls' cells slots mc ms C hH hF hL h4 h5 h6 h7
  exact lv_null C.1 C.2.1 hd  (kk B D cA p l e R s m args below meth c H locs ls' cells slots mc ms C hH hF hL h4 h5 h6 h7)
theorem x_iadd {x y : Int32} (hd : decode M.2.1 pc = .ok (.iadd, 1))  (kk : Run M d q1 q2 (pc + 1) ls (.int (x + y) :: st) w n P) : Run M d q1 q2 pc ls (.int y :: .int x :: st) w n P := by
  intro B D cA p l e R s m args below meth c H locs ls' cells slots mc ms C hH hF hL h4 h5 h6 h7
  exact lv_iadd C.1 C.2.1 hd  (kk B D cA p l e R s m args below meth c H locs ls' cells slots mc ms C hH hF hL h4 h5 h6 h7)
theorem x_isub {x y : Int32} (hd : decode M.2.1 pc = .ok (.isub, 1))  (kk : Run M d q1 q2 (pc + 1) ls (.int (x - y) :: st) w n P) : Run M d q1 q2 pc ls (.int y :: .int x :: st) w n P := by
  intro B D cA p l e R s m args below meth c H locs ls' cells slots mc ms C hH hF hL h4 h5 h6 h7
  exact lv_isub C.1 C.2.1 hd  (kk B D cA p l e R s m args below meth c H locs ls' cells slots mc ms C hH hF hL h4 h5 h6 h7)
theorem x_imul {x y : Int32} (hd : decode M.2.1 pc = .ok (.imul, 1))  (kk : Run M d q1 q2 (pc + 1) ls (.int (x * y) :: st) w n P) : Run M d q1 q2 pc ls (.int y :: .int x :: st) w n P := by
  intro B D cA p l e R s m args below meth c H locs ls' cells slots mc ms C hH hF hL h4 h5 h6 h7
  exact lv_imul C.1 C.2.1 hd  (kk B D cA p l e R s m args below meth c H locs ls' cells slots mc ms C hH hF hL h4 h5 h6 h7)
theorem x_iand {x y : Int32} (hd : decode M.2.1 pc = .ok (.iand, 1))  (kk : Run M d q1 q2 (pc + 1) ls (.int (x &&& y) :: st) w n P) : Run M d q1 q2 pc ls (.int y :: .int x :: st) w n P := by
  intro B D cA p l e R s m args below meth c H locs ls' cells slots mc ms C hH hF hL h4 h5 h6 h7
  exact lv_iand C.1 C.2.1 hd  (kk B D cA p l e R s m args below meth c H locs ls' cells slots mc ms C hH hF hL h4 h5 h6 h7)
theorem x_ior {x y : Int32} (hd : decode M.2.1 pc = .ok (.ior, 1))  (kk : Run M d q1 q2 (pc + 1) ls (.int (x ||| y) :: st) w n P) : Run M d q1 q2 pc ls (.int y :: .int x :: st) w n P := by
  intro B D cA p l e R s m args below meth c H locs ls' cells slots mc ms C hH hF hL h4 h5 h6 h7
  exact lv_ior C.1 C.2.1 hd  (kk B D cA p l e R s m args below meth c H locs ls' cells slots mc ms C hH hF hL h4 h5 h6 h7)
theorem x_ixor {x y : Int32} (hd : decode M.2.1 pc = .ok (.ixor, 1))  (kk : Run M d q1 q2 (pc + 1) ls (.int (x ^^^ y) :: st) w n P) : Run M d q1 q2 pc ls (.int y :: .int x :: st) w n P := by
  intro B D cA p l e R s m args below meth c H locs ls' cells slots mc ms C hH hF hL h4 h5 h6 h7
  exact lv_ixor C.1 C.2.1 hd  (kk B D cA p l e R s m args below meth c H locs ls' cells slots mc ms C hH hF hL h4 h5 h6 h7)
theorem x_ishl {x y : Int32} (hd : decode M.2.1 pc = .ok (.ishl, 1))  (kk : Run M d q1 q2 (pc + 1) ls (.int (x <<< (y &&& 31)) :: st) w n P) : Run M d q1 q2 pc ls (.int y :: .int x :: st) w n P := by
  intro B D cA p l e R s m args below meth c H locs ls' cells slots mc ms C hH hF hL h4 h5 h6 h7
  exact lv_ishl C.1 C.2.1 hd  (kk B D cA p l e R s m args below meth c H locs ls' cells slots mc ms C hH hF hL h4 h5 h6 h7)
theorem x_ishr {x y : Int32} (hd : decode M.2.1 pc = .ok (.ishr, 1))  (kk : Run M d q1 q2 (pc + 1) ls (.int (x >>> (y &&& 31)) :: st) w n P) : Run M d q1 q2 pc ls (.int y :: .int x :: st) w n P := by
  intro B D cA p l e R s m args below meth c H locs ls' cells slots mc ms C hH hF hL h4 h5 h6 h7
  exact lv_ishr C.1 C.2.1 hd  (kk B D cA p l e R s m args below meth c H locs ls' cells slots mc ms C hH hF hL h4 h5 h6 h7)
theorem x_idiv {x y : Int32} (hd : decode M.2.1 pc = .ok (.idiv, 1)) (hne : ¬ y = 0) (kk : Run M d q1 q2 (pc + 1) ls (.int (x / y) :: st) w n P) : Run M d q1 q2 pc ls (.int y :: .int x :: st) w n P := by
  intro B D cA p l e R s m args below meth c H locs ls' cells slots mc ms C hH hF hL h4 h5 h6 h7
  exact lv_idiv C.1 C.2.1 hd hne (kk B D cA p l e R s m args below meth c H locs ls' cells slots mc ms C hH hF hL h4 h5 h6 h7)
theorem x_irem {x y : Int32} (hd : decode M.2.1 pc = .ok (.irem, 1)) (hne : ¬ y = 0) (kk : Run M d q1 q2 (pc + 1) ls (.int (x - x / y * y) :: st) w n P) : Run M d q1 q2 pc ls (.int y :: .int x :: st) w n P := by
  intro B D cA p l e R s m args below meth c H locs ls' cells slots mc ms C hH hF hL h4 h5 h6 h7
  exact lv_irem C.1 C.2.1 hd hne (kk B D cA p l e R s m args below meth c H locs ls' cells slots mc ms C hH hF hL h4 h5 h6 h7)
theorem x_iushr {x y : Int32} (hd : decode M.2.1 pc = .ok (.iushr, 1))  (kk : Run M d q1 q2 (pc + 1) ls (.int ((x.toUInt32 >>> (y.toUInt32 &&& Int32.toUInt32 31)).toInt32) :: st) w n P) : Run M d q1 q2 pc ls (.int y :: .int x :: st) w n P := by
  intro B D cA p l e R s m args below meth c H locs ls' cells slots mc ms C hH hF hL h4 h5 h6 h7
  exact lv_iushr C.1 C.2.1 hd rfl (kk B D cA p l e R s m args below meth c H locs ls' cells slots mc ms C hH hF hL h4 h5 h6 h7)
theorem x_ladd {x y : Int64} (hd : decode M.2.1 pc = .ok (.ladd, 1))  (kk : Run M d q1 q2 (pc + 1) ls (.long (x + y) :: st) w n P) : Run M d q1 q2 pc ls (.long y :: .long x :: st) w n P := by
  intro B D cA p l e R s m args below meth c H locs ls' cells slots mc ms C hH hF hL h4 h5 h6 h7
  exact lv_ladd C.1 C.2.1 hd  (kk B D cA p l e R s m args below meth c H locs ls' cells slots mc ms C hH hF hL h4 h5 h6 h7)
theorem x_lmul {x y : Int64} (hd : decode M.2.1 pc = .ok (.lmul, 1))  (kk : Run M d q1 q2 (pc + 1) ls (.long (x * y) :: st) w n P) : Run M d q1 q2 pc ls (.long y :: .long x :: st) w n P := by
  intro B D cA p l e R s m args below meth c H locs ls' cells slots mc ms C hH hF hL h4 h5 h6 h7
  exact lv_lmul C.1 C.2.1 hd  (kk B D cA p l e R s m args below meth c H locs ls' cells slots mc ms C hH hF hL h4 h5 h6 h7)
theorem x_ldiv {x y : Int64} (hd : decode M.2.1 pc = .ok (.ldiv, 1)) (hne : ¬ y = 0) (kk : Run M d q1 q2 (pc + 1) ls (.long (x / y) :: st) w n P) : Run M d q1 q2 pc ls (.long y :: .long x :: st) w n P := by
  intro B D cA p l e R s m args below meth c H locs ls' cells slots mc ms C hH hF hL h4 h5 h6 h7
  exact lv_ldiv C.1 C.2.1 hd hne (kk B D cA p l e R s m args below meth c H locs ls' cells slots mc ms C hH hF hL h4 h5 h6 h7)
theorem x_lrem {x y : Int64} (hd : decode M.2.1 pc = .ok (.lrem, 1)) (hne : ¬ y = 0) (kk : Run M d q1 q2 (pc + 1) ls (.long (x - x / y * y) :: st) w n P) : Run M d q1 q2 pc ls (.long y :: .long x :: st) w n P := by
  intro B D cA p l e R s m args below meth c H locs ls' cells slots mc ms C hH hF hL h4 h5 h6 h7
  exact lv_lrem C.1 C.2.1 hd hne (kk B D cA p l e R s m args below meth c H locs ls' cells slots mc ms C hH hF hL h4 h5 h6 h7)
theorem x_i2l {x : Int32} (hd : decode M.2.1 pc = .ok (.i2l, 1))  (kk : Run M d q1 q2 (pc + 1) ls (.long x.toInt64 :: st) w n P) : Run M d q1 q2 pc ls (.int x :: st) w n P := by
  intro B D cA p l e R s m args below meth c H locs ls' cells slots mc ms C hH hF hL h4 h5 h6 h7
  exact lv_i2l C.1 C.2.1 hd rfl (kk B D cA p l e R s m args below meth c H locs ls' cells slots mc ms C hH hF hL h4 h5 h6 h7)
theorem x_l2i {x : Int64} (hd : decode M.2.1 pc = .ok (.l2i, 1))  (kk : Run M d q1 q2 (pc + 1) ls (.int x.toInt32 :: st) w n P) : Run M d q1 q2 pc ls (.long x :: st) w n P := by
  intro B D cA p l e R s m args below meth c H locs ls' cells slots mc ms C hH hF hL h4 h5 h6 h7
  exact lv_l2i C.1 C.2.1 hd rfl (kk B D cA p l e R s m args below meth c H locs ls' cells slots mc ms C hH hF hL h4 h5 h6 h7)
theorem x_i2b {x : Int32} (hd : decode M.2.1 pc = .ok (.i2b, 1))  (kk : Run M d q1 q2 (pc + 1) ls (.int x.toInt8.toInt32 :: st) w n P) : Run M d q1 q2 pc ls (.int x :: st) w n P := by
  intro B D cA p l e R s m args below meth c H locs ls' cells slots mc ms C hH hF hL h4 h5 h6 h7
  exact lv_i2b C.1 C.2.1 hd rfl (kk B D cA p l e R s m args below meth c H locs ls' cells slots mc ms C hH hF hL h4 h5 h6 h7)
theorem x_pop {v : Value} (hd : decode M.2.1 pc = .ok (.pop, 1)) (hc : v.category = 1) (kk : Run M d q1 q2 (pc + 1) ls (st) w n P) : Run M d q1 q2 pc ls (v :: st) w n P := by
  intro B D cA p l e R s m args below meth c H locs ls' cells slots mc ms C hH hF hL h4 h5 h6 h7
  exact lv_pop C.1 C.2.1 hd ((ax_cat B v).trans hc) (kk B D cA p l e R s m args below meth c H locs ls' cells slots mc ms C hH hF hL h4 h5 h6 h7)
theorem x_dup {v : Value} (hd : decode M.2.1 pc = .ok (.dup, 1)) (hc : v.category = 1) (kk : Run M d q1 q2 (pc + 1) ls (v :: v :: st) w n P) : Run M d q1 q2 pc ls (v :: st) w n P := by
  intro B D cA p l e R s m args below meth c H locs ls' cells slots mc ms C hH hF hL h4 h5 h6 h7
  exact lv_dup C.1 C.2.1 hd ((ax_cat B v).trans hc) (kk B D cA p l e R s m args below meth c H locs ls' cells slots mc ms C hH hF hL h4 h5 h6 h7)
theorem x_dup2 {v u : Value} (hd : decode M.2.1 pc = .ok (.dup2, 1)) (hc : v.category = 1) (hc2 : u.category = 1) (kk : Run M d q1 q2 (pc + 1) ls (v :: u :: v :: u :: st) w n P) : Run M d q1 q2 pc ls (v :: u :: st) w n P := by
  intro B D cA p l e R s m args below meth c H locs ls' cells slots mc ms C hH hF hL h4 h5 h6 h7
  exact lv_dup2_11 C.1 C.2.1 hd ((ax_cat B v).trans hc) ((ax_cat B u).trans hc2) (kk B D cA p l e R s m args below meth c H locs ls' cells slots mc ms C hH hF hL h4 h5 h6 h7)
theorem x_dup_x1 {v u : Value} (hd : decode M.2.1 pc = .ok (.dup_x1, 1)) (hc : v.category = 1) (hc2 : u.category = 1) (kk : Run M d q1 q2 (pc + 1) ls (v :: u :: v :: st) w n P) : Run M d q1 q2 pc ls (v :: u :: st) w n P := by
  intro B D cA p l e R s m args below meth c H locs ls' cells slots mc ms C hH hF hL h4 h5 h6 h7
  exact lv_dup_x1 C.1 C.2.1 hd ((ax_cat B v).trans hc) ((ax_cat B u).trans hc2) (kk B D cA p l e R s m args below meth c H locs ls' cells slots mc ms C hH hF hL h4 h5 h6 h7)
theorem x_iload_n {k : Fin 4} {x : Int32} (hd : decode M.2.1 pc = .ok (.iload_n k, 1)) (hl : ls[(k : Nat)]? = some (some (.int x))) (kk : Run M d q1 q2 (pc + 1) ls (.int x :: st) w n P) : Run M d q1 q2 pc ls (st) w n P := by
  intro B D cA p l e R s m args below meth c H locs ls' cells slots mc ms C hH hF hL h4 h5 h6 h7
  exact lv_iload_n C.1 C.2.1 hd rfl (hL.2.2.2 _ _ hl) (kk B D cA p l e R s m args below meth c H locs ls' cells slots mc ms C hH hF hL h4 h5 h6 h7)
theorem x_iload {i : Nat} {x : Int32} (hd : decode M.2.1 pc = .ok (.iload i, 2)) (hl : ls[i]? = some (some (.int x))) (kk : Run M d q1 q2 (pc + 2) ls (.int x :: st) w n P) : Run M d q1 q2 pc ls (st) w n P := by
  intro B D cA p l e R s m args below meth c H locs ls' cells slots mc ms C hH hF hL h4 h5 h6 h7
  exact lv_iload C.1 C.2.1 hd (hL.2.2.2 _ _ hl) (kk B D cA p l e R s m args below meth c H locs ls' cells slots mc ms C hH hF hL h4 h5 h6 h7)
theorem x_lload_n {k : Fin 4} {x : Int64} (hd : decode M.2.1 pc = .ok (.lload_n k, 1)) (hl : ls[(k : Nat)]? = some (some (.long x))) (kk : Run M d q1 q2 (pc + 1) ls (.long x :: st) w n P) : Run M d q1 q2 pc ls (st) w n P := by
  intro B D cA p l e R s m args below meth c H locs ls' cells slots mc ms C hH hF hL h4 h5 h6 h7
  exact lv_lload_n C.1 C.2.1 hd rfl (hL.2.2.2 _ _ hl) (kk B D cA p l e R s m args below meth c H locs ls' cells slots mc ms C hH hF hL h4 h5 h6 h7)
theorem x_lload {i : Nat} {x : Int64} (hd : decode M.2.1 pc = .ok (.lload i, 2)) (hl : ls[i]? = some (some (.long x))) (kk : Run M d q1 q2 (pc + 2) ls (.long x :: st) w n P) : Run M d q1 q2 pc ls (st) w n P := by
  intro B D cA p l e R s m args below meth c H locs ls' cells slots mc ms C hH hF hL h4 h5 h6 h7
  exact lv_lload C.1 C.2.1 hd (hL.2.2.2 _ _ hl) (kk B D cA p l e R s m args below meth c H locs ls' cells slots mc ms C hH hF hL h4 h5 h6 h7)
theorem x_aload_n {k : Fin 4} {x : Nat} (hd : decode M.2.1 pc = .ok (.aload_n k, 1)) (hl : ls[(k : Nat)]? = some (some (.ref x))) (kk : Run M d q1 q2 (pc + 1) ls (.ref x :: st) w n P) : Run M d q1 q2 pc ls (st) w n P := by
  intro B D cA p l e R s m args below meth c H locs ls' cells slots mc ms C hH hF hL h4 h5 h6 h7
  exact lv_aload_n C.1 C.2.1 hd rfl (hL.2.2.2 _ _ hl) (kk B D cA p l e R s m args below meth c H locs ls' cells slots mc ms C hH hF hL h4 h5 h6 h7)
theorem x_aload {i : Nat} {x : Nat} (hd : decode M.2.1 pc = .ok (.aload i, 2)) (hl : ls[i]? = some (some (.ref x))) (kk : Run M d q1 q2 (pc + 2) ls (.ref x :: st) w n P) : Run M d q1 q2 pc ls (st) w n P := by
  intro B D cA p l e R s m args below meth c H locs ls' cells slots mc ms C hH hF hL h4 h5 h6 h7
  exact lv_aload C.1 C.2.1 hd (hL.2.2.2 _ _ hl) (kk B D cA p l e R s m args below meth c H locs ls' cells slots mc ms C hH hF hL h4 h5 h6 h7)
theorem x_aload_nS {k : Fin 4} {x : UInt32} (hd : decode M.2.1 pc = .ok (.aload_n k, 1)) (hl : ls[(k : Nat)]? = some (some (.float x))) (kk : Run M d q1 q2 (pc + 1) ls (.float x :: st) w n P) : Run M d q1 q2 pc ls (st) w n P := by
  intro B D cA p l e R s m args below meth c H locs ls' cells slots mc ms C hH hF hL h4 h5 h6 h7
  exact lv_aload_n C.1 C.2.1 hd rfl (hL.2.2.2 _ _ hl) (kk B D cA p l e R s m args below meth c H locs ls' cells slots mc ms C hH hF hL h4 h5 h6 h7)
theorem x_aload_nN {k : Fin 4} (hd : decode M.2.1 pc = .ok (.aload_n k, 1)) (hl : ls[(k : Nat)]? = some (some .null)) (kk : Run M d q1 q2 (pc + 1) ls (.null :: st) w n P) : Run M d q1 q2 pc ls (st) w n P := by
  intro B D cA p l e R s m args below meth c H locs ls' cells slots mc ms C hH hF hL h4 h5 h6 h7
  exact lv_aload_nN C.1 C.2.1 hd rfl (hL.2.2.2 _ _ hl) (kk B D cA p l e R s m args below meth c H locs ls' cells slots mc ms C hH hF hL h4 h5 h6 h7)
theorem x_istore_n {k : Fin 4} {x : Int32} (hd : decode M.2.1 pc = .ok (.istore_n k, 1)) (hi : Nat.blt ((k : Nat)) ls.length = true) (kk : Run M d q1 q2 (pc + 1) (l_set ls (k : Nat) (.int x)) st w n P) : Run M d q1 q2 pc ls ((.int x) :: st) w n P := by
  intro B D cA p l e R s m args below meth c H locs ls' cells slots mc ms C hH hF hL h4 h5 h6 h7
  obtain ⟨ls2, e', hL'⟩ := hL.store (v := .int x) (i := (k : Nat)) (by rw [← hL.2.2.1]; simpa using hi) rfl
  have e' : storeLocals ls' (k : Nat) (ax_v B (.int x)) = some ls2 := e'
  simp only [ax_v] at e'
  have hexec := C.1
  have hb := C.2.1
  intro T hT X
  obtain ⟨t, a, b⟩ := kk B D cA p l e R s m args below meth c H locs ls2 cells slots mc ms C hH hF hL' h4 h5 h6 h7 T hT X
  refine ⟨t, ?_, b⟩
  simp only [List.map_cons, ax_v]
  jvm_step X.here [X.here.top, ↓top_set X.here.top, hexec, hb, hd, e']
  exact a
theorem x_istore {i : Nat} {x : Int32} (hd : decode M.2.1 pc = .ok (.istore i, 2)) (hi : Nat.blt (i) ls.length = true) (kk : Run M d q1 q2 (pc + 2) (l_set ls i (.int x)) st w n P) : Run M d q1 q2 pc ls ((.int x) :: st) w n P := by
  intro B D cA p l e R s m args below meth c H locs ls' cells slots mc ms C hH hF hL h4 h5 h6 h7
  obtain ⟨ls2, e', hL'⟩ := hL.store (v := .int x) (i := i) (by rw [← hL.2.2.1]; simpa using hi) rfl
  have e' : storeLocals ls' i (ax_v B (.int x)) = some ls2 := e'
  simp only [ax_v] at e'
  have hexec := C.1
  have hb := C.2.1
  intro T hT X
  obtain ⟨t, a, b⟩ := kk B D cA p l e R s m args below meth c H locs ls2 cells slots mc ms C hH hF hL' h4 h5 h6 h7 T hT X
  refine ⟨t, ?_, b⟩
  simp only [List.map_cons, ax_v]
  jvm_step X.here [X.here.top, ↓top_set X.here.top, hexec, hb, hd, e']
  exact a
theorem x_lstore_n {k : Fin 4} {x : Int64} (hd : decode M.2.1 pc = .ok (.lstore_n k, 1)) (hi : Nat.blt ((k : Nat) + 1) ls.length = true) (kk : Run M d q1 q2 (pc + 1) (l_set2 ls (k : Nat) (.long x)) st w n P) : Run M d q1 q2 pc ls ((.long x) :: st) w n P := by
  intro B D cA p l e R s m args below meth c H locs ls' cells slots mc ms C hH hF hL h4 h5 h6 h7
  obtain ⟨ls2, e', hL'⟩ := hL.store2 (v := .long x) (i := (k : Nat)) (by rw [← hL.2.2.1]; simpa using hi) rfl
  have e' : storeLocals ls' (k : Nat) (ax_v B (.long x)) = some ls2 := e'
  simp only [ax_v] at e'
  have hexec := C.1
  have hb := C.2.1
  intro T hT X
  obtain ⟨t, a, b⟩ := kk B D cA p l e R s m args below meth c H locs ls2 cells slots mc ms C hH hF hL' h4 h5 h6 h7 T hT X
  refine ⟨t, ?_, b⟩
  simp only [List.map_cons, ax_v]
  jvm_step X.here [X.here.top, ↓top_set X.here.top, hexec, hb, hd, e']
  exact a
theorem x_lstore {i : Nat} {x : Int64} (hd : decode M.2.1 pc = .ok (.lstore i, 2)) (hi : Nat.blt (i + 1) ls.length = true) (kk : Run M d q1 q2 (pc + 2) (l_set2 ls i (.long x)) st w n P) : Run M d q1 q2 pc ls ((.long x) :: st) w n P := by
  intro B D cA p l e R s m args below meth c H locs ls' cells slots mc ms C hH hF hL h4 h5 h6 h7
  obtain ⟨ls2, e', hL'⟩ := hL.store2 (v := .long x) (i := i) (by rw [← hL.2.2.1]; simpa using hi) rfl
  have e' : storeLocals ls' i (ax_v B (.long x)) = some ls2 := e'
  simp only [ax_v] at e'
  have hexec := C.1
  have hb := C.2.1
  intro T hT X
  obtain ⟨t, a, b⟩ := kk B D cA p l e R s m args below meth c H locs ls2 cells slots mc ms C hH hF hL' h4 h5 h6 h7 T hT X
  refine ⟨t, ?_, b⟩
  simp only [List.map_cons, ax_v]
  jvm_step X.here [X.here.top, ↓top_set X.here.top, hexec, hb, hd, e']
  exact a
theorem x_astore_n {k : Fin 4} {x : Nat} (hd : decode M.2.1 pc = .ok (.astore_n k, 1)) (hi : Nat.blt ((k : Nat)) ls.length = true) (kk : Run M d q1 q2 (pc + 1) (l_set ls (k : Nat) (.ref x)) st w n P) : Run M d q1 q2 pc ls ((.ref x) :: st) w n P := by
  intro B D cA p l e R s m args below meth c H locs ls' cells slots mc ms C hH hF hL h4 h5 h6 h7
  obtain ⟨ls2, e', hL'⟩ := hL.store (v := .ref x) (i := (k : Nat)) (by rw [← hL.2.2.1]; simpa using hi) rfl
  have e' : storeLocals ls' (k : Nat) (ax_v B (.ref x)) = some ls2 := e'
  simp only [ax_v] at e'
  have hexec := C.1
  have hb := C.2.1
  intro T hT X
  obtain ⟨t, a, b⟩ := kk B D cA p l e R s m args below meth c H locs ls2 cells slots mc ms C hH hF hL' h4 h5 h6 h7 T hT X
  refine ⟨t, ?_, b⟩
  simp only [List.map_cons, ax_v]
  jvm_step X.here [X.here.top, ↓top_set X.here.top, hexec, hb, hd, e']
  exact ⟨rfl, a⟩
theorem x_astore {i : Nat} {x : Nat} (hd : decode M.2.1 pc = .ok (.astore i, 2)) (hi : Nat.blt (i) ls.length = true) (kk : Run M d q1 q2 (pc + 2) (l_set ls i (.ref x)) st w n P) : Run M d q1 q2 pc ls ((.ref x) :: st) w n P := by
  intro B D cA p l e R s m args below meth c H locs ls' cells slots mc ms C hH hF hL h4 h5 h6 h7
  obtain ⟨ls2, e', hL'⟩ := hL.store (v := .ref x) (i := i) (by rw [← hL.2.2.1]; simpa using hi) rfl
  have e' : storeLocals ls' i (ax_v B (.ref x)) = some ls2 := e'
  simp only [ax_v] at e'
  have hexec := C.1
  have hb := C.2.1
  intro T hT X
  obtain ⟨t, a, b⟩ := kk B D cA p l e R s m args below meth c H locs ls2 cells slots mc ms C hH hF hL' h4 h5 h6 h7 T hT X
  refine ⟨t, ?_, b⟩
  simp only [List.map_cons, ax_v]
  jvm_step X.here [X.here.top, ↓top_set X.here.top, hexec, hb, hd, e']
  exact ⟨rfl, a⟩
theorem x_iinc {i : Nat} {k : Int} {x : Int32} (hd : decode M.2.1 pc = .ok (.iinc i k, 3)) (hl : ls[i]? = some (some (.int x))) (hi : Nat.blt i ls.length = true) (kk : Run M d q1 q2 (pc + 3) (l_set ls i (.int (x + Int32.ofInt k))) st w n P) : Run M d q1 q2 pc ls st w n P := by
  intro B D cA p l e R s m args below meth c H locs ls' cells slots mc ms C hH hF hL h4 h5 h6 h7
  obtain ⟨ls2, e', hL'⟩ := hL.store (v := .int (x + Int32.ofInt k)) (i := i) (by rw [← hL.2.2.1]; simpa using hi) rfl
  simp only [ax_v] at e'
  have hg : ls'[i]? = some (.val (.int x)) := hL.2.2.2 _ _ hl
  have hexec := C.1
  have hb := C.2.1
  intro T hT X
  obtain ⟨t, a, b⟩ := kk B D cA p l e R s m args below meth c H locs ls2 cells slots mc ms C hH hF hL' h4 h5 h6 h7 T hT X
  refine ⟨t, ?_, b⟩
  jvm_step X.here [X.here.top, ↓top_set X.here.top, hexec, hb, hd, hg, e']
  exact a
theorem x_if_eq {x : Int32} {off : Int} {tgt : Nat} (hd : decode M.2.1 pc = .ok (.ifCond .eq off, 3)) (ht : (pc : Int) + off = (tgt : Int)) (kt : x = 0 → Run M d q1 q2 tgt ls (st) w n P) (kf : ¬ (x = 0) → Run M d q1 q2 (pc + 3) ls (st) w n P) : Run M d q1 q2 pc ls (.int x :: st) w n P := by
  intro B D cA p l e R s m args below meth c H locs ls' cells slots mc ms C hH hF hL h4 h5 h6 h7
  exact lv_if_eq C.1 C.2.1 hd ht (fun z => kt z B D cA p l e R s m args below meth c H locs ls' cells slots mc ms C hH hF hL h4 h5 h6 h7) (fun z => kf (by simpa using z) B D cA p l e R s m args below meth c H locs ls' cells slots mc ms C hH hF hL h4 h5 h6 h7)
theorem x_if_eq_t {x : Int32} {off : Int} {tgt : Nat} (hd : decode M.2.1 pc = .ok (.ifCond .eq off, 3)) (ht : (pc : Int) + off = (tgt : Int)) (h : x = 0) (kk : Run M d q1 q2 tgt ls (st) w n P) : Run M d q1 q2 pc ls (.int x :: st) w n P := x_if_eq hd ht (fun _ => kk) (fun z => absurd h z)
theorem x_if_eq_f {x : Int32} {off : Int} {tgt : Nat} (hd : decode M.2.1 pc = .ok (.ifCond .eq off, 3)) (ht : (pc : Int) + off = (tgt : Int)) (h : ¬ (x = 0)) (kk : Run M d q1 q2 (pc + 3) ls (st) w n P) : Run M d q1 q2 pc ls (.int x :: st) w n P := x_if_eq hd ht (fun z => absurd z h) (fun _ => kk)
theorem x_icmp_eq {x y : Int32} {off : Int} {tgt : Nat} (hd : decode M.2.1 pc = .ok (.if_icmp .eq off, 3)) (ht : (pc : Int) + off = (tgt : Int)) (kt : x = y → Run M d q1 q2 tgt ls (st) w n P) (kf : ¬ (x = y) → Run M d q1 q2 (pc + 3) ls (st) w n P) : Run M d q1 q2 pc ls (.int y :: .int x :: st) w n P := by
  intro B D cA p l e R s m args below meth c H locs ls' cells slots mc ms C hH hF hL h4 h5 h6 h7
  exact lv_icmp_eq C.1 C.2.1 hd ht (fun z => kt z B D cA p l e R s m args below meth c H locs ls' cells slots mc ms C hH hF hL h4 h5 h6 h7) (fun z => kf (by simpa using z) B D cA p l e R s m args below meth c H locs ls' cells slots mc ms C hH hF hL h4 h5 h6 h7)
theorem x_icmp_eq_t {x y : Int32} {off : Int} {tgt : Nat} (hd : decode M.2.1 pc = .ok (.if_icmp .eq off, 3)) (ht : (pc : Int) + off = (tgt : Int)) (h : x = y) (kk : Run M d q1 q2 tgt ls (st) w n P) : Run M d q1 q2 pc ls (.int y :: .int x :: st) w n P := x_icmp_eq hd ht (fun _ => kk) (fun z => absurd h z)
theorem x_icmp_eq_f {x y : Int32} {off : Int} {tgt : Nat} (hd : decode M.2.1 pc = .ok (.if_icmp .eq off, 3)) (ht : (pc : Int) + off = (tgt : Int)) (h : ¬ (x = y)) (kk : Run M d q1 q2 (pc + 3) ls (st) w n P) : Run M d q1 q2 pc ls (.int y :: .int x :: st) w n P := x_icmp_eq hd ht (fun z => absurd z h) (fun _ => kk)
theorem x_if_ne {x : Int32} {off : Int} {tgt : Nat} (hd : decode M.2.1 pc = .ok (.ifCond .ne off, 3)) (ht : (pc : Int) + off = (tgt : Int)) (kt : ¬ x = 0 → Run M d q1 q2 tgt ls (st) w n P) (kf : ¬ (¬ x = 0) → Run M d q1 q2 (pc + 3) ls (st) w n P) : Run M d q1 q2 pc ls (.int x :: st) w n P := by
  intro B D cA p l e R s m args below meth c H locs ls' cells slots mc ms C hH hF hL h4 h5 h6 h7
  exact lv_if_ne C.1 C.2.1 hd ht (fun z => kt z B D cA p l e R s m args below meth c H locs ls' cells slots mc ms C hH hF hL h4 h5 h6 h7) (fun z => kf (by simpa using z) B D cA p l e R s m args below meth c H locs ls' cells slots mc ms C hH hF hL h4 h5 h6 h7)
theorem x_if_ne_t {x : Int32} {off : Int} {tgt : Nat} (hd : decode M.2.1 pc = .ok (.ifCond .ne off, 3)) (ht : (pc : Int) + off = (tgt : Int)) (h : ¬ x = 0) (kk : Run M d q1 q2 tgt ls (st) w n P) : Run M d q1 q2 pc ls (.int x :: st) w n P := x_if_ne hd ht (fun _ => kk) (fun z => absurd h z)
theorem x_if_ne_f {x : Int32} {off : Int} {tgt : Nat} (hd : decode M.2.1 pc = .ok (.ifCond .ne off, 3)) (ht : (pc : Int) + off = (tgt : Int)) (h : ¬ (¬ x = 0)) (kk : Run M d q1 q2 (pc + 3) ls (st) w n P) : Run M d q1 q2 pc ls (.int x :: st) w n P := x_if_ne hd ht (fun z => absurd z h) (fun _ => kk)
theorem x_icmp_ne {x y : Int32} {off : Int} {tgt : Nat} (hd : decode M.2.1 pc = .ok (.if_icmp .ne off, 3)) (ht : (pc : Int) + off = (tgt : Int)) (kt : ¬ x = y → Run M d q1 q2 tgt ls (st) w n P) (kf : ¬ (¬ x = y) → Run M d q1 q2 (pc + 3) ls (st) w n P) : Run M d q1 q2 pc ls (.int y :: .int x :: st) w n P := by
  intro B D cA p l e R s m args below meth c H locs ls' cells slots mc ms C hH hF hL h4 h5 h6 h7
  exact lv_icmp_ne C.1 C.2.1 hd ht (fun z => kt z B D cA p l e R s m args below meth c H locs ls' cells slots mc ms C hH hF hL h4 h5 h6 h7) (fun z => kf (by simpa using z) B D cA p l e R s m args below meth c H locs ls' cells slots mc ms C hH hF hL h4 h5 h6 h7)
theorem x_icmp_ne_t {x y : Int32} {off : Int} {tgt : Nat} (hd : decode M.2.1 pc = .ok (.if_icmp .ne off, 3)) (ht : (pc : Int) + off = (tgt : Int)) (h : ¬ x = y) (kk : Run M d q1 q2 tgt ls (st) w n P) : Run M d q1 q2 pc ls (.int y :: .int x :: st) w n P := x_icmp_ne hd ht (fun _ => kk) (fun z => absurd h z)
theorem x_icmp_ne_f {x y : Int32} {off : Int} {tgt : Nat} (hd : decode M.2.1 pc = .ok (.if_icmp .ne off, 3)) (ht : (pc : Int) + off = (tgt : Int)) (h : ¬ (¬ x = y)) (kk : Run M d q1 q2 (pc + 3) ls (st) w n P) : Run M d q1 q2 pc ls (.int y :: .int x :: st) w n P := x_icmp_ne hd ht (fun z => absurd z h) (fun _ => kk)
theorem x_if_lt {x : Int32} {off : Int} {tgt : Nat} (hd : decode M.2.1 pc = .ok (.ifCond .lt off, 3)) (ht : (pc : Int) + off = (tgt : Int)) (kt : x < 0 → Run M d q1 q2 tgt ls (st) w n P) (kf : ¬ (x < 0) → Run M d q1 q2 (pc + 3) ls (st) w n P) : Run M d q1 q2 pc ls (.int x :: st) w n P := by
  intro B D cA p l e R s m args below meth c H locs ls' cells slots mc ms C hH hF hL h4 h5 h6 h7
  exact lv_if_lt C.1 C.2.1 hd ht (fun z => kt z B D cA p l e R s m args below meth c H locs ls' cells slots mc ms C hH hF hL h4 h5 h6 h7) (fun z => kf (by simpa using z) B D cA p l e R s m args below meth c H locs ls' cells slots mc ms C hH hF hL h4 h5 h6 h7)
theorem x_if_lt_t {x : Int32} {off : Int} {tgt : Nat} (hd : decode M.2.1 pc = .ok (.ifCond .lt off, 3)) (ht : (pc : Int) + off = (tgt : Int)) (h : x < 0) (kk : Run M d q1 q2 tgt ls (st) w n P) : Run M d q1 q2 pc ls (.int x :: st) w n P := x_if_lt hd ht (fun _ => kk) (fun z => absurd h z)
theorem x_if_lt_f {x : Int32} {off : Int} {tgt : Nat} (hd : decode M.2.1 pc = .ok (.ifCond .lt off, 3)) (ht : (pc : Int) + off = (tgt : Int)) (h : ¬ (x < 0)) (kk : Run M d q1 q2 (pc + 3) ls (st) w n P) : Run M d q1 q2 pc ls (.int x :: st) w n P := x_if_lt hd ht (fun z => absurd z h) (fun _ => kk)
theorem x_icmp_lt {x y : Int32} {off : Int} {tgt : Nat} (hd : decode M.2.1 pc = .ok (.if_icmp .lt off, 3)) (ht : (pc : Int) + off = (tgt : Int)) (kt : x < y → Run M d q1 q2 tgt ls (st) w n P) (kf : ¬ (x < y) → Run M d q1 q2 (pc + 3) ls (st) w n P) : Run M d q1 q2 pc ls (.int y :: .int x :: st) w n P := by
  intro B D cA p l e R s m args below meth c H locs ls' cells slots mc ms C hH hF hL h4 h5 h6 h7
  exact lv_icmp_lt C.1 C.2.1 hd ht (fun z => kt z B D cA p l e R s m args below meth c H locs ls' cells slots mc ms C hH hF hL h4 h5 h6 h7) (fun z => kf (by simpa using z) B D cA p l e R s m args below meth c H locs ls' cells slots mc ms C hH hF hL h4 h5 h6 h7)
theorem x_icmp_lt_t {x y : Int32} {off : Int} {tgt : Nat} (hd : decode M.2.1 pc = .ok (.if_icmp .lt off, 3)) (ht : (pc : Int) + off = (tgt : Int)) (h : x < y) (kk : Run M d q1 q2 tgt ls (st) w n P) : Run M d q1 q2 pc ls (.int y :: .int x :: st) w n P := x_icmp_lt hd ht (fun _ => kk) (fun z => absurd h z)
theorem x_icmp_lt_f {x y : Int32} {off : Int} {tgt : Nat} (hd : decode M.2.1 pc = .ok (.if_icmp .lt off, 3)) (ht : (pc : Int) + off = (tgt : Int)) (h : ¬ (x < y)) (kk : Run M d q1 q2 (pc + 3) ls (st) w n P) : Run M d q1 q2 pc ls (.int y :: .int x :: st) w n P := x_icmp_lt hd ht (fun z => absurd z h) (fun _ => kk)
theorem x_if_ge {x : Int32} {off : Int} {tgt : Nat} (hd : decode M.2.1 pc = .ok (.ifCond .ge off, 3)) (ht : (pc : Int) + off = (tgt : Int)) (kt : 0 ≤ x → Run M d q1 q2 tgt ls (st) w n P) (kf : ¬ (0 ≤ x) → Run M d q1 q2 (pc + 3) ls (st) w n P) : Run M d q1 q2 pc ls (.int x :: st) w n P := by
  intro B D cA p l e R s m args below meth c H locs ls' cells slots mc ms C hH hF hL h4 h5 h6 h7
  exact lv_if_ge C.1 C.2.1 hd ht (fun z => kt z B D cA p l e R s m args below meth c H locs ls' cells slots mc ms C hH hF hL h4 h5 h6 h7) (fun z => kf (by simpa using z) B D cA p l e R s m args below meth c H locs ls' cells slots mc ms C hH hF hL h4 h5 h6 h7)
theorem x_if_ge_t {x : Int32} {off : Int} {tgt : Nat} (hd : decode M.2.1 pc = .ok (.ifCond .ge off, 3)) (ht : (pc : Int) + off = (tgt : Int)) (h : 0 ≤ x) (kk : Run M d q1 q2 tgt ls (st) w n P) : Run M d q1 q2 pc ls (.int x :: st) w n P := x_if_ge hd ht (fun _ => kk) (fun z => absurd h z)
theorem x_if_ge_f {x : Int32} {off : Int} {tgt : Nat} (hd : decode M.2.1 pc = .ok (.ifCond .ge off, 3)) (ht : (pc : Int) + off = (tgt : Int)) (h : ¬ (0 ≤ x)) (kk : Run M d q1 q2 (pc + 3) ls (st) w n P) : Run M d q1 q2 pc ls (.int x :: st) w n P := x_if_ge hd ht (fun z => absurd z h) (fun _ => kk)
theorem x_icmp_ge {x y : Int32} {off : Int} {tgt : Nat} (hd : decode M.2.1 pc = .ok (.if_icmp .ge off, 3)) (ht : (pc : Int) + off = (tgt : Int)) (kt : y ≤ x → Run M d q1 q2 tgt ls (st) w n P) (kf : ¬ (y ≤ x) → Run M d q1 q2 (pc + 3) ls (st) w n P) : Run M d q1 q2 pc ls (.int y :: .int x :: st) w n P := by
  intro B D cA p l e R s m args below meth c H locs ls' cells slots mc ms C hH hF hL h4 h5 h6 h7
  exact lv_icmp_ge C.1 C.2.1 hd ht (fun z => kt z B D cA p l e R s m args below meth c H locs ls' cells slots mc ms C hH hF hL h4 h5 h6 h7) (fun z => kf (by simpa using z) B D cA p l e R s m args below meth c H locs ls' cells slots mc ms C hH hF hL h4 h5 h6 h7)
theorem x_icmp_ge_t {x y : Int32} {off : Int} {tgt : Nat} (hd : decode M.2.1 pc = .ok (.if_icmp .ge off, 3)) (ht : (pc : Int) + off = (tgt : Int)) (h : y ≤ x) (kk : Run M d q1 q2 tgt ls (st) w n P) : Run M d q1 q2 pc ls (.int y :: .int x :: st) w n P := x_icmp_ge hd ht (fun _ => kk) (fun z => absurd h z)
theorem x_icmp_ge_f {x y : Int32} {off : Int} {tgt : Nat} (hd : decode M.2.1 pc = .ok (.if_icmp .ge off, 3)) (ht : (pc : Int) + off = (tgt : Int)) (h : ¬ (y ≤ x)) (kk : Run M d q1 q2 (pc + 3) ls (st) w n P) : Run M d q1 q2 pc ls (.int y :: .int x :: st) w n P := x_icmp_ge hd ht (fun z => absurd z h) (fun _ => kk)
theorem x_if_gt {x : Int32} {off : Int} {tgt : Nat} (hd : decode M.2.1 pc = .ok (.ifCond .gt off, 3)) (ht : (pc : Int) + off = (tgt : Int)) (kt : 0 < x → Run M d q1 q2 tgt ls (st) w n P) (kf : ¬ (0 < x) → Run M d q1 q2 (pc + 3) ls (st) w n P) : Run M d q1 q2 pc ls (.int x :: st) w n P := by
  intro B D cA p l e R s m args below meth c H locs ls' cells slots mc ms C hH hF hL h4 h5 h6 h7
  exact lv_if_gt C.1 C.2.1 hd ht (fun z => kt z B D cA p l e R s m args below meth c H locs ls' cells slots mc ms C hH hF hL h4 h5 h6 h7) (fun z => kf (by simpa using z) B D cA p l e R s m args below meth c H locs ls' cells slots mc ms C hH hF hL h4 h5 h6 h7)
theorem x_if_gt_t {x : Int32} {off : Int} {tgt : Nat} (hd : decode M.2.1 pc = .ok (.ifCond .gt off, 3)) (ht : (pc : Int) + off = (tgt : Int)) (h : 0 < x) (kk : Run M d q1 q2 tgt ls (st) w n P) : Run M d q1 q2 pc ls (.int x :: st) w n P := x_if_gt hd ht (fun _ => kk) (fun z => absurd h z)
theorem x_if_gt_f {x : Int32} {off : Int} {tgt : Nat} (hd : decode M.2.1 pc = .ok (.ifCond .gt off, 3)) (ht : (pc : Int) + off = (tgt : Int)) (h : ¬ (0 < x)) (kk : Run M d q1 q2 (pc + 3) ls (st) w n P) : Run M d q1 q2 pc ls (.int x :: st) w n P := x_if_gt hd ht (fun z => absurd z h) (fun _ => kk)
theorem x_icmp_gt {x y : Int32} {off : Int} {tgt : Nat} (hd : decode M.2.1 pc = .ok (.if_icmp .gt off, 3)) (ht : (pc : Int) + off = (tgt : Int)) (kt : y < x → Run M d q1 q2 tgt ls (st) w n P) (kf : ¬ (y < x) → Run M d q1 q2 (pc + 3) ls (st) w n P) : Run M d q1 q2 pc ls (.int y :: .int x :: st) w n P := by
  intro B D cA p l e R s m args below meth c H locs ls' cells slots mc ms C hH hF hL h4 h5 h6 h7
  exact lv_icmp_gt C.1 C.2.1 hd ht (fun z => kt z B D cA p l e R s m args below meth c H locs ls' cells slots mc ms C hH hF hL h4 h5 h6 h7) (fun z => kf (by simpa using z) B D cA p l e R s m args below meth c H locs ls' cells slots mc ms C hH hF hL h4 h5 h6 h7)
theorem x_icmp_gt_t {x y : Int32} {off : Int} {tgt : Nat} (hd : decode M.2.1 pc = .ok (.if_icmp .gt off, 3)) (ht : (pc : Int) + off = (tgt : Int)) (h : y < x) (kk : Run M d q1 q2 tgt ls (st) w n P) : Run M d q1 q2 pc ls (.int y :: .int x :: st) w n P := x_icmp_gt hd ht (fun _ => kk) (fun z => absurd h z)
theorem x_icmp_gt_f {x y : Int32} {off : Int} {tgt : Nat} (hd : decode M.2.1 pc = .ok (.if_icmp .gt off, 3)) (ht : (pc : Int) + off = (tgt : Int)) (h : ¬ (y < x)) (kk : Run M d q1 q2 (pc + 3) ls (st) w n P) : Run M d q1 q2 pc ls (.int y :: .int x :: st) w n P := x_icmp_gt hd ht (fun z => absurd z h) (fun _ => kk)
theorem x_if_le {x : Int32} {off : Int} {tgt : Nat} (hd : decode M.2.1 pc = .ok (.ifCond .le off, 3)) (ht : (pc : Int) + off = (tgt : Int)) (kt : x ≤ 0 → Run M d q1 q2 tgt ls (st) w n P) (kf : ¬ (x ≤ 0) → Run M d q1 q2 (pc + 3) ls (st) w n P) : Run M d q1 q2 pc ls (.int x :: st) w n P := by
  intro B D cA p l e R s m args below meth c H locs ls' cells slots mc ms C hH hF hL h4 h5 h6 h7
  exact lv_if_le C.1 C.2.1 hd ht (fun z => kt z B D cA p l e R s m args below meth c H locs ls' cells slots mc ms C hH hF hL h4 h5 h6 h7) (fun z => kf (by simpa using z) B D cA p l e R s m args below meth c H locs ls' cells slots mc ms C hH hF hL h4 h5 h6 h7)
theorem x_if_le_t {x : Int32} {off : Int} {tgt : Nat} (hd : decode M.2.1 pc = .ok (.ifCond .le off, 3)) (ht : (pc : Int) + off = (tgt : Int)) (h : x ≤ 0) (kk : Run M d q1 q2 tgt ls (st) w n P) : Run M d q1 q2 pc ls (.int x :: st) w n P := x_if_le hd ht (fun _ => kk) (fun z => absurd h z)
theorem x_if_le_f {x : Int32} {off : Int} {tgt : Nat} (hd : decode M.2.1 pc = .ok (.ifCond .le off, 3)) (ht : (pc : Int) + off = (tgt : Int)) (h : ¬ (x ≤ 0)) (kk : Run M d q1 q2 (pc + 3) ls (st) w n P) : Run M d q1 q2 pc ls (.int x :: st) w n P := x_if_le hd ht (fun z => absurd z h) (fun _ => kk)
theorem x_icmp_le {x y : Int32} {off : Int} {tgt : Nat} (hd : decode M.2.1 pc = .ok (.if_icmp .le off, 3)) (ht : (pc : Int) + off = (tgt : Int)) (kt : x ≤ y → Run M d q1 q2 tgt ls (st) w n P) (kf : ¬ (x ≤ y) → Run M d q1 q2 (pc + 3) ls (st) w n P) : Run M d q1 q2 pc ls (.int y :: .int x :: st) w n P := by
  intro B D cA p l e R s m args below meth c H locs ls' cells slots mc ms C hH hF hL h4 h5 h6 h7
  exact lv_icmp_le C.1 C.2.1 hd ht (fun z => kt z B D cA p l e R s m args below meth c H locs ls' cells slots mc ms C hH hF hL h4 h5 h6 h7) (fun z => kf (by simpa using z) B D cA p l e R s m args below meth c H locs ls' cells slots mc ms C hH hF hL h4 h5 h6 h7)
theorem x_icmp_le_t {x y : Int32} {off : Int} {tgt : Nat} (hd : decode M.2.1 pc = .ok (.if_icmp .le off, 3)) (ht : (pc : Int) + off = (tgt : Int)) (h : x ≤ y) (kk : Run M d q1 q2 tgt ls (st) w n P) : Run M d q1 q2 pc ls (.int y :: .int x :: st) w n P := x_icmp_le hd ht (fun _ => kk) (fun z => absurd h z)
theorem x_icmp_le_f {x y : Int32} {off : Int} {tgt : Nat} (hd : decode M.2.1 pc = .ok (.if_icmp .le off, 3)) (ht : (pc : Int) + off = (tgt : Int)) (h : ¬ (x ≤ y)) (kk : Run M d q1 q2 (pc + 3) ls (st) w n P) : Run M d q1 q2 pc ls (.int y :: .int x :: st) w n P := x_icmp_le hd ht (fun z => absurd z h) (fun _ => kk)
theorem x_goto {off : Int} {tgt : Nat} (hd : decode M.2.1 pc = .ok (.goto off, 3)) (ht : (pc : Int) + off = (tgt : Int)) (kk : Run M d q1 q2 tgt ls (st) w n P) : Run M d q1 q2 pc ls (st) w n P := by
  intro B D cA p l e R s m args below meth c H locs ls' cells slots mc ms C hH hF hL h4 h5 h6 h7
  exact lv_goto C.1 C.2.1 hd ht (kk B D cA p l e R s m args below meth c H locs ls' cells slots mc ms C hH hF hL h4 h5 h6 h7)
theorem x_tableOut {dflt lo hi : Int} {offs : Array Int} {len : Nat} {x : Int32} {tgt : Nat} (hd : decode M.2.1 pc = .ok (.tableswitch dflt lo hi offs, len)) (h : x.toInt < lo ∨ hi < x.toInt) (ht : (pc : Int) + dflt = (tgt : Int)) (kk : Run M d q1 q2 tgt ls (st) w n P) : Run M d q1 q2 pc ls (.int x :: st) w n P := by
  intro B D cA p l e R s m args below meth c H locs ls' cells slots mc ms C hH hF hL h4 h5 h6 h7
  exact lv_tableOut C.1 C.2.1 hd h ht (kk B D cA p l e R s m args below meth c H locs ls' cells slots mc ms C hH hF hL h4 h5 h6 h7)
theorem x_tableIn {dflt lo hi : Int} {offs : Array Int} {len : Nat} {x : Int32} {off : Int} {tgt : Nat} (hd : decode M.2.1 pc = .ok (.tableswitch dflt lo hi offs, len)) (h1 : ¬ x.toInt < lo) (h2 : ¬ hi < x.toInt) (ho : offs[(x.toInt - lo).toNat]? = some off) (ht : (pc : Int) + off = (tgt : Int)) (kk : Run M d q1 q2 tgt ls (st) w n P) : Run M d q1 q2 pc ls (.int x :: st) w n P := by
  intro B D cA p l e R s m args below meth c H locs ls' cells slots mc ms C hH hF hL h4 h5 h6 h7
  exact lv_tableIn C.1 C.2.1 hd h1 h2 ho ht (kk B D cA p l e R s m args below meth c H locs ls' cells slots mc ms C hH hF hL h4 h5 h6 h7)
theorem x_ifnonnull {x : Nat} {off : Int} {tgt : Nat} (hd : decode M.2.1 pc = .ok (.ifnonnull off, 3)) (ht : (pc : Int) + off = (tgt : Int)) (kk : Run M d q1 q2 tgt ls (st) w n P) : Run M d q1 q2 pc ls (.ref x :: st) w n P := by
  intro B D cA p l e R s m args below meth c H locs ls' cells slots mc ms C hH hF hL h4 h5 h6 h7
  exact lv_ifnonnull C.1 C.2.1 hd ht (kk B D cA p l e R s m args below meth c H locs ls' cells slots mc ms C hH hF hL h4 h5 h6 h7)
theorem x_ifnonnullN {off : Int} (hd : decode M.2.1 pc = .ok (.ifnonnull off, 3)) (kk : Run M d q1 q2 (pc + 3) ls (st) w n P) : Run M d q1 q2 pc ls (.null :: st) w n P := by
  intro B D cA p l e R s m args below meth c H locs ls' cells slots mc ms C hH hF hL h4 h5 h6 h7
  exact lv_ifnonnullN C.1 C.2.1 hd (kk B D cA p l e R s m args below meth c H locs ls' cells slots mc ms C hH hF hL h4 h5 h6 h7)
/-- the ends -/
theorem x_iret {x : Int32} {ty : FieldType} (hd : decode M.2.1 pc = .ok (.ireturn, 1)) (hr : M.2.2.2 = some ty) (hn : narrow ty (.int x) = .int x) (hP : P (some (.int x)) w n) : Run M d q1 q2 pc ls [.int x] w n P := by
  intro B D cA p l e R s m args below meth c H locs ls' cells slots mc ms C hH hF hL h4 h5 h6 h7
  refine W.widen (k := mc) (n := ms) (by omega) (by omega) ?_
  exact W.zret C.1 C.2.1 (C.2.2.2.1.trans hr) hn (fun t ht _ => ⟨some (.int x), w, n, rfl, hP, by rw [ht]; exact hH, fun q hq => by rw [ht]; exact hF.1 q hq⟩) hF.2 hd C.2.2.2.2.1
theorem x_vret (hd : decode M.2.1 pc = .ok (.return_, 1)) (hr : M.2.2.2 = none) (hP : P none w n) : Run M d q1 q2 pc ls [] w n P := by
  intro B D cA p l e R s m args below meth c H locs ls' cells slots mc ms C hH hF hL h4 h5 h6 h7
  refine W.widen (k := mc) (n := ms) (by omega) (by omega) ?_
  exact W.vret C.1 C.2.1 (C.2.2.2.1.trans hr) (fun t ht _ => ⟨none, w, n, rfl, hP, by rw [ht]; exact hH, fun q hq => by rw [ht]; exact hF.1 q hq⟩) hF.2 hd C.2.2.2.2.1
theorem x_aret {k : Nat} {rt : FieldType} (hd : decode M.2.1 pc = .ok (.areturn, 1)) (hr : M.2.2.2 = some rt) (hrt : (∃ n, rt = .object n) ∨ ∃ t, rt = .array t) (hP : P (some (.ref k)) w n) : Run M d q1 q2 pc ls [.ref k] w n P := by
  intro B D cA p l e R s m args below meth c H locs ls' cells slots mc ms C hH hF hL h4 h5 h6 h7
  refine W.widen (k := mc) (n := ms) (by omega) (by omega) ?_
  exact W.aret C.1 C.2.1 (C.2.2.2.1.trans hr) hrt (Or.inr ⟨_, rfl⟩) (fun t ht _ => ⟨some (.ref k), w, n, rfl, hP, by rw [ht]; exact hH, fun q hq => by rw [ht]; exact hF.1 q hq⟩) hF.2 hd C.2.2.2.2.1
theorem x_aretN {rt : FieldType} (hd : decode M.2.1 pc = .ok (.areturn, 1)) (hr : M.2.2.2 = some rt) (hrt : (∃ n, rt = .object n) ∨ ∃ t, rt = .array t) (hP : P (some .null) w n) : Run M d q1 q2 pc ls [.null] w n P := by
  intro B D cA p l e R s m args below meth c H locs ls' cells slots mc ms C hH hF hL h4 h5 h6 h7
  refine W.widen (k := mc) (n := ms) (by omega) (by omega) ?_
  exact W.aret C.1 C.2.1 (C.2.2.2.1.trans hr) hrt (Or.inl rfl) (fun t ht _ => ⟨some .null, w, n, rfl, hP, by rw [ht]; exact hH, fun q hq => by rw [ht]; exact hF.1 q hq⟩) hF.2 hd C.2.2.2.2.1
end RULES
