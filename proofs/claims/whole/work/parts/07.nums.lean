/-! whole numbers as ints: nI; sets of statements as numbers, by their bits -/
theorem n_and (a b : Nat) : nI a &&& nI b = nI (a &&& b) := by
  apply Int32.toBitVec_inj.1
  show BitVec.ofNat 32 a &&& BitVec.ofNat 32 b = BitVec.ofNat 32 (a &&& b)
  apply BitVec.eq_of_getLsbD_eq
  intro i hi
  simp [hi]
theorem n_or (a b : Nat) : nI a ||| nI b = nI (a ||| b) := by
  apply Int32.toBitVec_inj.1
  show BitVec.ofNat 32 a ||| BitVec.ofNat 32 b = BitVec.ofNat 32 (a ||| b)
  apply BitVec.eq_of_getLsbD_eq
  intro i hi
  simp [hi]
theorem n_xor (a b : Nat) : nI a ^^^ nI b = nI (a ^^^ b) := by
  apply Int32.toBitVec_inj.1
  show BitVec.ofNat 32 a ^^^ BitVec.ofNat 32 b = BitVec.ofNat 32 (a ^^^ b)
  apply BitVec.eq_of_getLsbD_eq
  intro i hi
  simp [hi]
theorem n_m1 : (-1 : Int32) = nI 4294967295 := by decide +kernel
theorem n_sh : ∀ n, n < 32 → ((nI n &&& 31).toBitVec.smod 32).toNat = n := by decide +kernel
theorem n_shl {x k : Nat} (hk : k < 32) (h : x * 2 ^ k < 4294967296) : nI x <<< (nI k &&& 31) = nI (x * 2 ^ k) := pk_shlN _ k (n_sh k hk) h
theorem n_shr {x k : Nat} (hk : k < 32) (h : x < 2147483648) : nI x >>> (nI k &&& 31) = nI (x / 2 ^ k) := pk_shrN h _ k (n_sh k hk)
theorem n_cl {n : Nat} (h : n < 2147483648) : (nI n).toNatClampNeg = n := nI_clamp h
theorem n_in {i N : Nat} (h : i < N) (hN : N < 2147483648) : vp_in (nI i) N := vp_in_nI h hN
theorem n_out {i N : Nat} (h : N ≤ i) (hi : i < 2147483648) : ¬ vp_in (nI i) N := fun q => q (Or.inr (by rw [n_cl hi]; exact h))
theorem n_eq {a b : Nat} (ha : a < 2147483648) (hb : b < 2147483648) : nI a = nI b ↔ a = b := nI_eq ha hb
theorem n_lt {a b : Nat} (ha : a < 2147483648) (hb : b < 2147483648) : nI a < nI b ↔ a < b := nI_ltI ha hb
theorem n_le {a b : Nat} (ha : a < 2147483648) (hb : b < 2147483648) : nI a ≤ nI b ↔ a ≤ b := nI_leI ha hb
theorem n_eq0 {a : Nat} (ha : a < 2147483648) : nI a = 0 ↔ a = 0 := nI_eq (b := 0) ha (by decide)
theorem n_0le {a : Nat} (ha : a < 2147483648) : (0 ≤ nI a) ↔ True := iff_true_intro (nI_pos' ha)
theorem n_lt0 {a : Nat} (ha : a < 2147483648) : (nI a < 0) ↔ False := iff_false_intro (nI_pos ha)
theorem n_0lt {a : Nat} (ha : a < 2147483648) : (0 < nI a) ↔ 0 < a := nI_ltI (a := 0) (by decide) ha
theorem n_le0 {a : Nat} (ha : a < 2147483648) : (nI a ≤ 0) ↔ a = 0 := (nI_leI (b := 0) ha (by decide)).trans (by omega)
/-- x without y -/
def nd (x y : Nat) : Nat := x &&& (y ^^^ 4294967295)
theorem nd_bit {x y a : Nat} (hx : x < 4294967296) : (nd x y).testBit a = (x.testBit a && !y.testBit a) := by
  unfold nd
  rw [Nat.testBit_and, Nat.testBit_xor]
  have h : (4294967295 : Nat).testBit a = decide (a < 32) := Nat.testBit_two_pow_sub_one 32 a
  rw [h]
  by_cases ha : a < 32
  · simp [ha]
  · have hxa : x.testBit a = false := Nat.testBit_lt_two_pow (Nat.lt_of_lt_of_le hx (by
      have : 2 ^ 32 ≤ 2 ^ a := Nat.pow_le_pow_right (by decide) (by omega)
      omega))
    simp [hxa]
theorem nd_le {x y : Nat} : nd x y ≤ x := Nat.and_le_left
theorem nd_lt {x y N : Nat} (h : x < N) : nd x y < N := Nat.lt_of_le_of_lt nd_le h
theorem n_bit (m a : Nat) : m / 2 ^ a % 2 = if m.testBit a then 1 else 0 := by
  rw [Nat.testBit_eq_decide_div_mod_eq]
  have := Nat.mod_two_eq_zero_or_one (m / 2 ^ a)
  rcases this with h | h <;> simp [h]
theorem n_and1 (x : Nat) : x &&& 1 = x % 2 := Nat.and_two_pow_sub_one_eq_mod x 1
theorem bit_lt {m n a : Nat} (h : m < 2 ^ n) (ha : n ≤ a) : m.testBit a = false := Nat.testBit_lt_two_pow (Nat.lt_of_lt_of_le h (Nat.pow_le_pow_right (by decide) ha))
theorem bit_in {m n a : Nat} (h : m < 2 ^ n) (ha : m.testBit a = true) : a < n := by
  rcases Nat.lt_or_ge a n with q | q
  · exact q
  · rw [bit_lt h q] at ha; cases ha
theorem pow_lt {a n : Nat} (h : a < n) : 2 ^ a < 2 ^ n := Nat.pow_lt_pow_right (by decide) h
theorem pow_10 {a : Nat} (h : a < 10) : 2 ^ a < 1024 := pow_lt (n := 10) h
theorem pow_le_10 {n : Nat} (h : n ≤ 10) : 2 ^ n ≤ 1024 := Nat.pow_le_pow_right (by decide : 0 < 2) h
theorem or_lt {x y n : Nat} (hx : x < 2 ^ n) (hy : y < 2 ^ n) : x ||| y < 2 ^ n := Nat.or_lt_two_pow hx hy
theorem or_1024 {x y : Nat} (hx : x < 1024) (hy : y < 1024) : x ||| y < 1024 := Nat.or_lt_two_pow (n := 10) hx hy
theorem xor_1024 {x y : Nat} (hx : x < 1024) (hy : y < 1024) : x ^^^ y < 1024 := Nat.xor_lt_two_pow (n := 10) hx hy
theorem b_pow (a b : Nat) : (2 ^ a).testBit b = decide (a = b) := Nat.testBit_two_pow
theorem b_orp (m a b : Nat) : (m ||| 2 ^ a).testBit b = (m.testBit b || decide (a = b)) := by rw [Nat.testBit_or, b_pow]
theorem b_ext {x y : Nat} (h : ∀ a, x.testBit a = y.testBit a) : x = y := Nat.eq_of_testBit_eq h
theorem b_ext10 {x y : Nat} (hx : x < 1024) (hy : y < 1024) (h : ∀ a, a < 10 → x.testBit a = y.testBit a) : x = y := by
  refine b_ext fun a => ?_
  by_cases ha : a < 10
  · exact h a ha
  · rw [bit_lt (n := 10) hx (by omega), bit_lt (n := 10) hy (by omega)]
/-- a truth as a number -/
def bN (b : Bool) : Nat := if b then 1 else 0
theorem bN_lt (b : Bool) : bN b < 2 := by cases b <;> decide
theorem n_b0 {b : Bool} : nI (bN b) = 0 ↔ b = false := by cases b <;> decide +kernel
theorem n_b00 {b : Bool} : nI (bN b) = nI 0 ↔ b = false := by cases b <;> decide +kernel
theorem n_b1 {b : Bool} : nI (bN b) = nI 1 ↔ b = true := by cases b <;> decide +kernel
theorem n_bit' (m a : Nat) : m / 2 ^ a % 2 = bN (m.testBit a) := n_bit m a
/-- how many of the first n bits are set -/
def cnt (m : Nat) : Nat → Nat
  | 0 => 0
  | n + 1 => cnt m n + (if m.testBit n then 1 else 0)
theorem cnt_le (m : Nat) : ∀ n, cnt m n ≤ n
  | 0 => Nat.le_refl 0
  | n + 1 => by
    have := cnt_le m n
    simp only [cnt]
    split <;> omega
/-! numbers in the rules -/
section NRULES
variable {M : ax_M} {d q1 q2 pc : Nat} {ls : List (Option Value)} {st : List Value} {w : ax_W} {n : Nat} {P : Option Value → ax_W → Nat → Prop}
theorem Run.top {v v' : Value} (h : v = v') (kk : Run M d q1 q2 pc ls (v' :: st) w n P) : Run M d q1 q2 pc ls (v :: st) w n P := by rw [h]; exact kk
theorem xn_iadd {x y : Nat} (hd : decode M.2.1 pc = .ok (.iadd, 1)) (kk : Run M d q1 q2 (pc + 1) ls (.int (nI (x + y)) :: st) w n P) : Run M d q1 q2 pc ls (.int (nI y) :: .int (nI x) :: st) w n P := x_iadd hd (Run.top (by rw [nI_add]) kk)
theorem xn_isub {x y : Nat} (hd : decode M.2.1 pc = .ok (.isub, 1)) (h : y ≤ x) (kk : Run M d q1 q2 (pc + 1) ls (.int (nI (x - y)) :: st) w n P) : Run M d q1 q2 pc ls (.int (nI y) :: .int (nI x) :: st) w n P := x_isub hd (Run.top (by rw [pk_sub h]) kk)
theorem xn_imul {x y : Nat} (hd : decode M.2.1 pc = .ok (.imul, 1)) (kk : Run M d q1 q2 (pc + 1) ls (.int (nI (x * y)) :: st) w n P) : Run M d q1 q2 pc ls (.int (nI y) :: .int (nI x) :: st) w n P := x_imul hd (Run.top (by rw [pk_mul]) kk)
theorem xn_iand {x y : Nat} (hd : decode M.2.1 pc = .ok (.iand, 1)) (kk : Run M d q1 q2 (pc + 1) ls (.int (nI (x &&& y)) :: st) w n P) : Run M d q1 q2 pc ls (.int (nI y) :: .int (nI x) :: st) w n P := x_iand hd (Run.top (by rw [n_and]) kk)
theorem xn_ior {x y : Nat} (hd : decode M.2.1 pc = .ok (.ior, 1)) (kk : Run M d q1 q2 (pc + 1) ls (.int (nI (x ||| y)) :: st) w n P) : Run M d q1 q2 pc ls (.int (nI y) :: .int (nI x) :: st) w n P := x_ior hd (Run.top (by rw [n_or]) kk)
theorem xn_ixor {x y : Nat} (hd : decode M.2.1 pc = .ok (.ixor, 1)) (kk : Run M d q1 q2 (pc + 1) ls (.int (nI (x ^^^ y)) :: st) w n P) : Run M d q1 q2 pc ls (.int (nI y) :: .int (nI x) :: st) w n P := x_ixor hd (Run.top (by rw [n_xor]) kk)
theorem xn_ishl {x y : Nat} (hd : decode M.2.1 pc = .ok (.ishl, 1)) (h1 : y < 32) (h2 : x * 2 ^ y < 4294967296) (kk : Run M d q1 q2 (pc + 1) ls (.int (nI (x * 2 ^ y)) :: st) w n P) : Run M d q1 q2 pc ls (.int (nI y) :: .int (nI x) :: st) w n P := x_ishl hd (Run.top (by rw [n_shl h1 h2]) kk)
/-- 1 << y -/
theorem xn_shl1 {y : Nat} (hd : decode M.2.1 pc = .ok (.ishl, 1)) (h1 : y < 31) (kk : Run M d q1 q2 (pc + 1) ls (.int (nI (2 ^ y)) :: st) w n P) : Run M d q1 q2 pc ls (.int (nI y) :: .int (nI 1) :: st) w n P := x_ishl hd (Run.top (by rw [n_shl (by omega) (by have := pow_lt h1; omega), Nat.one_mul]) kk)
theorem xn_ishr {x y : Nat} (hd : decode M.2.1 pc = .ok (.ishr, 1)) (h1 : y < 32) (h2 : x < 2147483648) (kk : Run M d q1 q2 (pc + 1) ls (.int (nI (x / 2 ^ y)) :: st) w n P) : Run M d q1 q2 pc ls (.int (nI y) :: .int (nI x) :: st) w n P := x_ishr hd (Run.top (by rw [n_shr h1 h2]) kk)
/-- the bit that m >> a & 1 leaves -/
theorem xn_bit {m a : Nat} (hd : decode M.2.1 pc = .ok (.iand, 1)) (kk : Run M d q1 q2 (pc + 1) ls (.int (nI (bN (m.testBit a))) :: st) w n P) : Run M d q1 q2 pc ls (.int (nI 1) :: .int (nI (m / 2 ^ a)) :: st) w n P := x_iand hd (Run.top (by rw [n_and, n_and1, n_bit']) kk)
theorem xn_nd {x y : Nat} (hd : decode M.2.1 pc = .ok (.iand, 1)) (kk : Run M d q1 q2 (pc + 1) ls (.int (nI (nd x y)) :: st) w n P) : Run M d q1 q2 pc ls (.int (nI (y ^^^ 4294967295)) :: .int (nI x) :: st) w n P := xn_iand hd kk
theorem xn_idiv {x y : Nat} (hd : decode M.2.1 pc = .ok (.idiv, 1)) (hx : x < 2147483648) (h0 : 0 < y) (hy : y < 2147483648) (kk : Run M d q1 q2 (pc + 1) ls (.int (nI (x / y)) :: st) w n P) : Run M d q1 q2 pc ls (.int (nI y) :: .int (nI x) :: st) w n P := x_idiv hd (by rw [n_eq0 hy]; omega) (Run.top (by rw [pk_div hx h0 hy]) kk)
theorem xn_irem {x y : Nat} (hd : decode M.2.1 pc = .ok (.irem, 1)) (hx : x < 2147483648) (h0 : 0 < y) (hy : y < 2147483648) (kk : Run M d q1 q2 (pc + 1) ls (.int (nI (x % y)) :: st) w n P) : Run M d q1 q2 pc ls (.int (nI y) :: .int (nI x) :: st) w n P := x_irem hd (by rw [n_eq0 hy]; omega) (Run.top (by rw [pk_rem hx h0 hy]) kk)
theorem xn_iinc {i x : Nat} (hd : decode M.2.1 pc = .ok (.iinc i 1, 3)) (hl : ls[i]? = some (some (.int (nI x)))) (hi : Nat.blt i ls.length = true) (kk : Run M d q1 q2 (pc + 3) (l_set ls i (.int (nI (x + 1)))) st w n P) : Run M d q1 q2 pc ls st w n P := x_iinc hd hl hi (by rw [show nI x + Int32.ofInt 1 = nI (x + 1) from nI_1 x]; exact kk)
theorem xn_idec {i x : Nat} (hd : decode M.2.1 pc = .ok (.iinc i (-1), 3)) (hl : ls[i]? = some (some (.int (nI (x + 1))))) (hi : Nat.blt i ls.length = true) (kk : Run M d q1 q2 (pc + 3) (l_set ls i (.int (nI x))) st w n P) : Run M d q1 q2 pc ls st w n P := x_iinc hd hl hi (by rw [show nI (x + 1) + Int32.ofInt (-1) = nI x from pk_m1 x]; exact kk)
theorem xn_iald {a N i : Nat} {f : Nat → Int32} (hd : decode M.2.1 pc = .ok (.iaload, 1)) (hw : w a = ai N f) (hi : i < N) (hN : Nat.blt N 2147483648 = true) (kk : Run M d q1 q2 (pc + 1) ls (.int (f i) :: st) w n P) : Run M d q1 q2 pc ls (.int (nI i) :: .ref a :: st) w n P := by
  have h2 : N < 2147483648 := by simpa using hN
  exact x_iald hd hw (n_in hi h2) (by rw [n_cl (by omega)]; exact kk)
theorem xn_bald {a N i : Nat} {f : Nat → Int32} (hd : decode M.2.1 pc = .ok (.baload, 1)) (hw : w a = ab N f) (hi : i < N) (hN : Nat.blt N 2147483648 = true) (kk : Run M d q1 q2 (pc + 1) ls (.int (f i) :: st) w n P) : Run M d q1 q2 pc ls (.int (nI i) :: .ref a :: st) w n P := by
  have h2 : N < 2147483648 := by simpa using hN
  exact x_bald hd hw (n_in hi h2) (by rw [n_cl (by omega)]; exact kk)
theorem xn_aald {a N i k : Nat} {f : Nat → Option Nat} (hd : decode M.2.1 pc = .ok (.aaload, 1)) (hw : w a = aq N f) (hi : i < N) (hN : Nat.blt N 2147483648 = true) (hk : f i = some k) (kk : Run M d q1 q2 (pc + 1) ls (.ref k :: st) w n P) : Run M d q1 q2 pc ls (.int (nI i) :: .ref a :: st) w n P := by
  have h2 : N < 2147483648 := by simpa using hN
  exact x_aald hd hw (n_in hi h2) (by rw [n_cl (by omega)]; exact hk) kk
/-! changes: the world behind them by what it holds -/
theorem xw_iast {a N i : Nat} {f : Nat → Int32} {x : Int32} (hd : decode M.2.1 pc = .ok (.iastore, 1)) (hw : w a = ai N f) (hi : i < N) (hN : Nat.blt N 2147483648 = true) (kk : ∀ w' : ax_W, w' a = ai N (upd f i x) → (∀ j, j ≠ a → w' j = w j) → Run M d q1 q2 (pc + 1) ls st w' n P) : Run M d q1 q2 pc ls (.int x :: .int (nI i) :: .ref a :: st) w n P := by
  have h2 : N < 2147483648 := by simpa using hN
  refine x_iast hd hw (n_in hi h2) ?_
  rw [n_cl (by omega)]
  exact kk _ (up_same _ _ _) fun j hj => up_ne _ _ hj
theorem xw_bast {a N i x : Nat} {f : Nat → Int32} (hd : decode M.2.1 pc = .ok (.bastore, 1)) (hw : w a = ab N f) (hi : i < N) (hN : Nat.blt N 2147483648 = true) (hx : x < 128) (kk : ∀ w' : ax_W, w' a = ab N (upd f i (nI x)) → (∀ j, j ≠ a → w' j = w j) → Run M d q1 q2 (pc + 1) ls st w' n P) : Run M d q1 q2 pc ls (.int (nI x) :: .int (nI i) :: .ref a :: st) w n P := by
  have h2 : N < 2147483648 := by simpa using hN
  have hn : ∀ x, x < 128 → vp_nar .byte (nI x) = nI x := by decide +kernel
  refine x_bast hd hw (n_in hi h2) ?_
  rw [n_cl (by omega), hn x hx]
  exact kk _ (up_same _ _ _) fun j hj => up_ne _ _ hj
theorem xw_puti {idx ci k a : Nat} {fs : List Value} {x : Int32} {C : String} {T : u_T} {N : Nat} (hd : decode M.2.1 pc = .ok (.putfield idx, 3)) (hl : LkF M.1.cls idx ci k) (hw : w a = ao ci fs) (hk : Nat.blt k fs.length = true) (hcl : vwCl[ci]? = some (C, T, N)) (hfin : (T k).2.2.2 = false) (hty : (T k).2.2.1 = "I") (kk : ∀ w' : ax_W, w' a = ao ci (fs.set k (.int x)) → (∀ j, j ≠ a → w' j = w j) → Run M d q1 q2 (pc + 3) ls st w' n P) : Run M d q1 q2 pc ls (.int x :: .ref a :: st) w n P :=
  x_putf hd hl hw hk hcl hfin (ty := .int) (by rw [hty]; decide +kernel) (fun _ => rfl) (fun _ => rfl) (kk _ (up_same _ _ _) fun j hj => up_ne _ _ hj)
theorem nar_z {x : Nat} (hx : x < 2) : narrow .boolean (.int (nI x)) = .int (nI x) ∧ fits .boolean (.int (nI x)) = true := by
  have : ∀ x, x < 2 → narrow .boolean (.int (nI x)) = .int (nI x) ∧ fits .boolean (.int (nI x)) = true := by decide +kernel
  exact this x hx
theorem xw_putz {idx ci k a x : Nat} {fs : List Value} {C : String} {T : u_T} {N : Nat} (hd : decode M.2.1 pc = .ok (.putfield idx, 3)) (hl : LkF M.1.cls idx ci k) (hw : w a = ao ci fs) (hk : Nat.blt k fs.length = true) (hcl : vwCl[ci]? = some (C, T, N)) (hfin : (T k).2.2.2 = false) (hty : (T k).2.2.1 = "Z") (hx : x < 2) (kk : ∀ w' : ax_W, w' a = ao ci (fs.set k (.int (nI x))) → (∀ j, j ≠ a → w' j = w j) → Run M d q1 q2 (pc + 3) ls st w' n P) : Run M d q1 q2 pc ls (.int (nI x) :: .ref a :: st) w n P :=
  x_putf hd hl hw hk hcl hfin (ty := .boolean) (by rw [hty]; decide +kernel) (fun _ => (nar_z hx).1) (fun _ => (nar_z hx).2) (kk _ (up_same _ _ _) fun j hj => up_ne _ _ hj)
theorem x_zret {x : Nat} (hd : decode M.2.1 pc = .ok (.ireturn, 1)) (hr : M.2.2.2 = some .boolean) (hx : x < 2) (hP : P (some (.int (nI x))) w n) : Run M d q1 q2 pc ls [.int (nI x)] w n P := x_iret hd hr (nar_z hx).1 hP
theorem pu_i {x y : Int32} (h : x = y) : Pu (.int y) w n (some (.int x)) w n := ⟨by rw [h], rfl, rfl⟩
theorem pu_n {x y : Nat} (h : x = y) : Pu (.int (nI y)) w n (some (.int (nI x))) w n := ⟨by rw [h], rfl, rfl⟩
theorem xw_copy {idx a0 a1 N0 N1 k : Nat} {f g : Nat → Int32} (hd : decode M.2.1 pc = .ok (.invokestatic idx, 3)) (h1 : Cond.methodLink M.1.cls idx arraycopyName ∈ TB) (hw0 : w a0 = ai N0 f) (hw1 : w a1 = ai N1 g) (hk0 : k ≤ N0) (hk1 : k ≤ N1) (hk : Nat.blt k 2147483648 = true) (hdd : 2 ≤ d) (hst : Nat.ble (st.map fun v => v.category).sum 8 = true)
    (kk : ∀ w' : ax_W, w' a1 = ai N1 (fun j => if j < k then f j else g j) → (∀ j, j ≠ a1 → w' j = w j) → Run M d q1 q2 (pc + 3) ls st w' n P) : Run M d q1 q2 pc ls (.int (nI k) :: .int (nI 0) :: .ref a1 :: .int (nI 0) :: .ref a0 :: st) w n P := by
  have h2 : k < 2147483648 := by simpa using hk
  refine x_copy hd h1 kn_copy ks_copy ki_copy hw0 hw1 (nI_pos (by omega)) (nI_pos (by omega)) (nI_pos h2) (by rw [n_cl h2, n_cl (by omega)]; omega) (by rw [n_cl h2, n_cl (by omega)]; omega) hdd hst ?_
  rw [n_cl h2, n_cl (by omega)]
  have e : va_cpy f g 0 0 k = fun j => if j < k then f j else g j := by
    funext j
    simp [va_cpy]
  rw [e]
  exact kk _ (up_same _ _ _) fun j hj => up_ne _ _ hj
/-- a method without an answer; one with an answer that changes the world -/
def Vo (F : ax_W → Prop) (n : Nat) : Option Value → ax_W → Nat → Prop := fun r w' n' => r = none ∧ n' = n ∧ F w'
def Va (F : Value → ax_W → Prop) (n : Nat) : Option Value → ax_W → Nat → Prop := fun r w' n' => ∃ v, r = some v ∧ n' = n ∧ F v w'
theorem vo_kk {F : ax_W → Prop} (kk : ∀ w', F w' → Run M d q1 q2 pc ls st w' n P) : ∀ r w' n', Vo F n r w' n' → Run M d q1 q2 pc ls (r.toList ++ st) w' n' P := by
  intro r w' n' hp
  obtain ⟨h1, h2, h3⟩ := hp
  subst h1 h2
  exact kk w' h3
theorem va_kk {F : Value → ax_W → Prop} (kk : ∀ v w', F v w' → Run M d q1 q2 pc ls (v :: st) w' n P) : ∀ r w' n', Va F n r w' n' → Run M d q1 q2 pc ls (r.toList ++ st) w' n' P := by
  intro r w' n' hp
  obtain ⟨v, h1, h2, h3⟩ := hp
  subst h1 h2
  exact kk v w' h3
theorem vo_i {F : ax_W → Prop} {w : ax_W} (h : F w) : Vo F n none w n := ⟨rfl, rfl, h⟩
theorem va_i {F : Value → ax_W → Prop} {v : Value} {w : ax_W} (h : F v w) : Va F n (some v) w n := ⟨v, rfl, rfl, h⟩
end NRULES
/-- one value of a row changed -/
def fup (f : Nat → Nat) (i v : Nat) : Nat → Nat := fun j => if j = i then v else f j
theorem fup_same (f : Nat → Nat) (i v : Nat) : fup f i v i = v := by simp [fup]
theorem fup_ne (f : Nat → Nat) {i j : Nat} (v : Nat) (h : j ≠ i) : fup f i v j = f j := by simp [fup, h]
theorem upd_same (f : Nat → Int32) (i : Nat) (v : Int32) : upd f i v i = v := by simp [upd]
theorem upd_ne (f : Nat → Int32) {i j : Nat} (v : Int32) (h : j ≠ i) : upd f i v j = f j := by simp [upd, h]
