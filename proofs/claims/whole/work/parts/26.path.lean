/-! the WHOLE CHAINS that end with NIGHTS which q allows, and what they come to -/
def pthO (C : Crt) (q : Nat → Bool) (sk : Nat) : Nat → Nat → Nat → List (List Nat)
  | 0, _, last => if kd C last = 4 then (if q last then [[]] else []) else []
  | m + 1, ch, last => if kd C last = 4 then (if q last then [[]] else []) else extF (fun b => pthO C q sk m (ch ||| 2 ^ b) b) (opn C last ch sk) 10 0
theorem pthO_all (C : Crt) (sk : Nat) : ∀ m ch last, pthO C (fun _ => true) sk m ch last = pthF C sk m ch last
  | 0, ch, last => by simp only [pthO, pthF, if_true]
  | m + 1, ch, last => by
    have e : (fun b => pthO C (fun _ => true) sk m (ch ||| 2 ^ b) b) = fun b => pthF C sk m (ch ||| 2 ^ b) b := funext fun b => pthO_all C sk m _ b
    simp only [pthO, pthF, if_true, e]
theorem pthO_len (C : Crt) (q : Nat → Bool) (sk : Nat) : ∀ m ch last, (pthO C q sk m ch last).length ≤ 10 ^ m
  | 0, ch, last => by simp only [pthO]; split <;> (try split) <;> simp
  | m + 1, ch, last => by
    simp only [pthO]
    split
    · have := Nat.one_le_pow (m + 1) 10 (by decide)
      split <;> simp <;> omega
    · have := extF_len (f := fun b => pthO C q sk m (ch ||| 2 ^ b) b) (op := opn C last ch sk) (N := 10 ^ m) (fun b => pthO_len C q sk m _ b) 10 0
      rw [Nat.pow_succ]
      omega
theorem extF_snoc (f : Nat → List (List Nat)) (op : Nat) : ∀ k b, extF f op (k + 1) b = extF f op k b ++ (if op.testBit (b + k) then (f (b + k)).map (fun p => (b + k) :: p) else [])
  | 0, b => by simp [extF]
  | k + 1, b => by
    rw [extF, extF_snoc f op k (b + 1)]
    conv => rhs; rw [extF]
    rw [List.append_assoc, show b + 1 + k = b + (k + 1) by omega]
/-- the first j of them -/
def preF (f : Nat → List (List Nat)) (op j : Nat) : List (List Nat) := extF f op j 0
theorem preF_0 (f : Nat → List (List Nat)) (op : Nat) : preF f op 0 = [] := rfl
theorem preF_s (f : Nat → List (List Nat)) (op j : Nat) : preF f op (j + 1) = preF f op j ++ (if op.testBit j then (f j).map (fun p => j :: p) else []) := by
  have := extF_snoc f op j 0
  rw [Nat.zero_add] at this
  exact this
theorem preF_end {f : Nat → List (List Nat)} {op k : Nat} (h : op < 2 ^ k) : ∀ j, preF f op (k + j) = preF f op k
  | 0 => rfl
  | j + 1 => by
    rw [show k + (j + 1) = k + j + 1 by omega, preF_s, preF_end h j, bit_lt h (by omega)]
    simp
theorem preF_cong {f g : Nat → List (List Nat)} {op : Nat} (h : ∀ b, op.testBit b = true → f b = g b) : ∀ j, preF f op j = preF g op j
  | 0 => rfl
  | j + 1 => by
    rw [preF_s, preF_s, preF_cong h j]
    by_cases hb : op.testBit j = true
    · rw [if_pos hb, if_pos hb, h j hb]
    · rw [if_neg hb, if_neg hb]
/-! what a rest of a chain comes to -/
def cosT (C : Crt) : Nat → Nat → List Nat → Nat
  | _, _, [] => 0
  | last, L, b :: p => cst C (some last) L b + cosT C b (L + 1) p
def dayT (C : Crt) : List Nat → Nat
  | [] => 0
  | b :: p => sp C b + dayT C p
def mskT : List Nat → Nat
  | [] => 0
  | b :: p => mskT p ||| 2 ^ b
def endT : Nat → List Nat → Nat
  | last, [] => last
  | _, b :: p => endT b p
/-! what several come to: the least days, what all have, what any has, the NIGHTS, the best one -/
def dayM (C : Crt) : List (List Nat) → Nat
  | [] => 100000
  | p :: X => if dayT C p < dayM C X then dayT C p else dayM C X
def allM : List (List Nat) → Nat
  | [] => 1023
  | p :: X => mskT p &&& allM X
def anyM : List (List Nat) → Nat
  | [] => 0
  | p :: X => mskT p ||| anyM X
def endM (last : Nat) : List (List Nat) → Nat
  | [] => 0
  | p :: X => 2 ^ endT last p ||| endM last X
abbrev Bst : Type := Option (Nat × List Nat)
def btC (o o2 : Bst) : Bst := match o2 with
  | none => o
  | some b => match o with
    | none => some b
    | some a => if b.1 < a.1 ∨ (b.1 = a.1 ∧ b.2.length < a.2.length) then some b else some a
def bstM (C : Crt) (last L : Nat) : List (List Nat) → Bst
  | [] => none
  | p :: X => btC (some (cosT C last L p, p)) (bstM C last L X)
theorem btC_none (o : Bst) : btC o none = o := rfl
theorem none_btC (o : Bst) : btC none o = o := by cases o <;> rfl
theorem btC_lt {a b : Nat × List Nat} (h : b.1 < a.1 ∨ (b.1 = a.1 ∧ b.2.length < a.2.length)) : btC (some a) (some b) = some b := if_pos h
theorem btC_ge {a b : Nat × List Nat} (h : ¬ (b.1 < a.1 ∨ (b.1 = a.1 ∧ b.2.length < a.2.length))) : btC (some a) (some b) = some a := if_neg h
theorem btC_assoc (a b c : Bst) : btC (btC a b) c = btC a (btC b c) := by
  cases a with
  | none => rw [none_btC, none_btC]
  | some a => cases b with
    | none => rw [none_btC, btC_none]
    | some b => cases c with
      | none => rfl
      | some c =>
        simp only [btC]
        by_cases h1 : b.1 < a.1 ∨ (b.1 = a.1 ∧ b.2.length < a.2.length)
        · by_cases h2 : c.1 < b.1 ∨ (c.1 = b.1 ∧ c.2.length < b.2.length)
          · simp only [if_pos h1, if_pos h2]
            rw [if_pos (by omega)]
          · simp only [if_pos h1, if_neg h2]
        · by_cases h2 : c.1 < b.1 ∨ (c.1 = b.1 ∧ c.2.length < b.2.length)
          · simp only [if_neg h1, if_pos h2]
          · simp only [if_neg h1, if_neg h2]
            rw [if_neg (by omega)]
theorem bstM_app (C : Crt) (last L : Nat) : ∀ X Y, bstM C last L (X ++ Y) = btC (bstM C last L X) (bstM C last L Y)
  | [], Y => by rw [List.nil_append, bstM, none_btC]
  | p :: X, Y => by
    rw [List.cons_append, bstM, bstM, bstM_app C last L X Y, btC_assoc]
theorem bstM_map (C : Crt) (last L b : Nat) : ∀ X, bstM C last L (X.map (fun p => b :: p)) = (bstM C b (L + 1) X).map (fun q => (cst C (some last) L b + q.1, b :: q.2))
  | [] => rfl
  | p :: X => by
    rw [List.map_cons, bstM, bstM, bstM_map C last L b X]
    cases bstM C b (L + 1) X with
    | none => rfl
    | some q =>
      show btC (some (cosT C last L (b :: p), b :: p)) (some (cst C (some last) L b + q.1, b :: q.2)) = _
      by_cases h : q.1 < cosT C b (L + 1) p ∨ (q.1 = cosT C b (L + 1) p ∧ q.2.length < p.length)
      · rw [btC_lt (b := q) h, btC_lt]
        · rfl
        · show cst C (some last) L b + q.1 < cst C (some last) L b + cosT C b (L + 1) p ∨ (cst C (some last) L b + q.1 = cst C (some last) L b + cosT C b (L + 1) p ∧ q.2.length + 1 < p.length + 1)
          omega
      · rw [btC_ge (b := q) h, btC_ge]
        · rfl
        · show ¬ (cst C (some last) L b + q.1 < cst C (some last) L b + cosT C b (L + 1) p ∨ (cst C (some last) L b + q.1 = cst C (some last) L b + cosT C b (L + 1) p ∧ q.2.length + 1 < p.length + 1))
          omega
theorem bstM_none (C : Crt) (last L : Nat) : ∀ X, bstM C last L X = none ↔ X = []
  | [] => ⟨fun _ => rfl, fun _ => rfl⟩
  | p :: X => by
    refine ⟨fun h => ?_, fun h => by cases h⟩
    rw [bstM] at h
    cases hb : bstM C last L X with
    | none => rw [hb] at h; cases h
    | some q => rw [hb] at h; simp only [btC] at h; split at h <;> cases h
theorem dayM_app (C : Crt) : ∀ X Y, dayM C (X ++ Y) = if dayM C Y < dayM C X then dayM C Y else dayM C X
  | [], Y => by
    rw [List.nil_append, dayM]
    have : dayM C Y ≤ 100000 := by
      cases Y with
      | nil => exact Nat.le_refl _
      | cons p Y =>
        have h : ∀ Y, dayM C Y ≤ 100000 := by
          intro Y
          induction Y with
          | nil => exact Nat.le_refl _
          | cons p Y ih => rw [dayM]; split <;> omega
        exact h _
    split <;> omega
  | p :: X, Y => by
    rw [List.cons_append, dayM, dayM, dayM_app C X Y]
    repeat' split
    all_goals omega
theorem dayM_map (C : Crt) (b : Nat) : ∀ X, X ≠ [] → (∀ p ∈ X, dayT C p + sp C b < 100000) → dayM C (X.map (fun p => b :: p)) = sp C b + dayM C X
  | [], h, _ => absurd rfl h
  | p :: X, _, hb => by
    have h0 := hb p List.mem_cons_self
    rw [List.map_cons, dayM, dayM, dayT]
    by_cases hX : X = []
    · subst hX
      show (if sp C b + dayT C p < 100000 then sp C b + dayT C p else 100000) = sp C b + (if dayT C p < 100000 then dayT C p else 100000)
      rw [if_pos (by omega), if_pos (by omega)]
    · rw [dayM_map C b X hX fun p hp => hb p (List.mem_cons_of_mem _ hp)]
      split <;> split <;> omega
theorem allM_lt : ∀ X, allM X < 1024
  | [] => by simp [allM]
  | p :: X => Nat.lt_of_le_of_lt Nat.and_le_right (allM_lt X)
theorem and_1023 {x : Nat} (h : x < 1024) : x &&& 1023 = x := by
  have := Nat.and_two_pow_sub_one_eq_mod x 10
  rw [show (2 : Nat) ^ 10 - 1 = 1023 by decide, show (2 : Nat) ^ 10 = 1024 by decide] at this
  rw [this]
  exact Nat.mod_eq_of_lt h
theorem allM_app : ∀ X Y, allM (X ++ Y) = allM X &&& allM Y
  | [], Y => by rw [List.nil_append, allM, Nat.and_comm, and_1023 (allM_lt Y)]
  | p :: X, Y => by rw [List.cons_append, allM, allM, allM_app X Y, Nat.and_assoc]
theorem allM_map (b : Nat) : ∀ X, X ≠ [] → (∀ p ∈ X, mskT p < 1024) → b < 10 → allM (X.map (fun p => b :: p)) = allM X ||| 2 ^ b
  | [], h, _, _ => absurd rfl h
  | p :: X, _, hm, hb => by
    have h0 := hm p List.mem_cons_self
    rw [List.map_cons, allM, allM, mskT]
    by_cases hX : X = []
    · subst hX
      simp only [List.map_nil, allM]
      rw [and_1023 (or_1024 h0 (pow_10 hb)), and_1023 h0]
    · rw [allM_map b X hX (fun p hp => hm p (List.mem_cons_of_mem _ hp)) hb]
      refine Nat.eq_of_testBit_eq fun i => ?_
      simp only [Nat.testBit_and, Nat.testBit_or]
      cases (mskT p).testBit i <;> cases (allM X).testBit i <;> cases (2 ^ b : Nat).testBit i <;> rfl
theorem anyM_app : ∀ X Y, anyM (X ++ Y) = anyM X ||| anyM Y
  | [], Y => by rw [List.nil_append, anyM, Nat.zero_or]
  | p :: X, Y => by rw [List.cons_append, anyM, anyM, anyM_app X Y, Nat.or_assoc]
theorem anyM_map (b : Nat) : ∀ X, X ≠ [] → anyM (X.map (fun p => b :: p)) = anyM X ||| 2 ^ b
  | [], h => absurd rfl h
  | p :: X, _ => by
    rw [List.map_cons, anyM, anyM, mskT]
    by_cases hX : X = []
    · subst hX
      simp only [List.map_nil, anyM, Nat.or_zero]
    · rw [anyM_map b X hX]
      refine Nat.eq_of_testBit_eq fun i => ?_
      simp only [Nat.testBit_or]
      cases (mskT p).testBit i <;> cases (anyM X).testBit i <;> cases (2 ^ b : Nat).testBit i <;> rfl
theorem endM_app (last : Nat) : ∀ X Y, endM last (X ++ Y) = endM last X ||| endM last Y
  | [], Y => by rw [List.nil_append, endM, Nat.zero_or]
  | p :: X, Y => by rw [List.cons_append, endM, endM, endM_app last X Y, Nat.or_assoc]
theorem endM_map (last b : Nat) : ∀ X, endM last (X.map (fun p => b :: p)) = endM b X
  | [] => rfl
  | p :: X => by rw [List.map_cons, endM, endM, endM_map last b X, endT]
/-! bounds -/
theorem cosT_le {C : Crt} (ok : okC C) : ∀ (p : List Nat) (last L : Nat), (∀ x ∈ p, x < cn C) → L + p.length ≤ 11 → cosT C last L p ≤ 60 * p.length
  | [], _, _, _, _ => Nat.le_refl _
  | b :: p, last, L, h, hL => by
    have h1 := cst_le ok (h b List.mem_cons_self) (some last) L
    simp only [List.length_cons] at hL ⊢
    have h2 := cosT_le ok p b (L + 1) (fun x hx => h x (List.mem_cons_of_mem _ hx)) (by omega)
    simp only [cosT]
    omega
theorem dayT_le {C : Crt} (ok : okC C) : ∀ (p : List Nat), (∀ x ∈ p, x < cn C) → dayT C p ≤ 20 * p.length
  | [], _ => Nat.le_refl _
  | b :: p, h => by
    have h1 := (ok.2.2.2.1 b (h b List.mem_cons_self)).2.2.1
    have h2 := dayT_le ok p (fun x hx => h x (List.mem_cons_of_mem _ hx))
    simp only [dayT, List.length_cons]
    omega
theorem mskT_lt {n : Nat} : ∀ (p : List Nat), (∀ x ∈ p, x < n) → mskT p < 2 ^ n
  | [], _ => Nat.two_pow_pos n
  | b :: p, h => Nat.or_lt_two_pow (mskT_lt p fun x hx => h x (List.mem_cons_of_mem _ hx)) (pow_lt (h b List.mem_cons_self))
theorem endT_lt {n : Nat} : ∀ (p : List Nat) (last : Nat), last < n → (∀ x ∈ p, x < n) → endT last p < n
  | [], _, h, _ => h
  | b :: p, _, _, h => endT_lt p b (h b List.mem_cons_self) fun x hx => h x (List.mem_cons_of_mem _ hx)
theorem endM_lt {n last : Nat} (hl : last < n) : ∀ (X : List (List Nat)), (∀ p ∈ X, ∀ x ∈ p, x < n) → endM last X < 2 ^ n
  | [], _ => Nat.two_pow_pos n
  | p :: X, h => Nat.or_lt_two_pow (pow_lt (endT_lt p last hl (h p List.mem_cons_self))) (endM_lt hl X fun p hp => h p (List.mem_cons_of_mem _ hp))
theorem anyM_lt {n : Nat} : ∀ (X : List (List Nat)), (∀ p ∈ X, ∀ x ∈ p, x < n) → anyM X < 2 ^ n
  | [], _ => Nat.two_pow_pos n
  | p :: X, h => Nat.or_lt_two_pow (mskT_lt p (h p List.mem_cons_self)) (anyM_lt X fun p hp => h p (List.mem_cons_of_mem _ hp))
theorem dayM_le {C : Crt} : ∀ Y, dayM C Y ≤ 100000
  | [] => Nat.le_refl _
  | p :: Y => by
    have := dayM_le (C := C) Y
    rw [dayM]; split <;> omega
theorem dayM_lt {C : Crt} {N : Nat} : ∀ X, X ≠ [] → (∀ p ∈ X, dayT C p < N) → dayM C X < N
  | [], h, _ => absurd rfl h
  | p :: X, _, h => by
    have h0 := h p List.mem_cons_self
    rw [dayM]
    split <;> omega
theorem bstM_mem {C : Crt} {last L : Nat} : ∀ {X q}, bstM C last L X = some q → q.2 ∈ X ∧ q.1 = cosT C last L q.2
  | [], q, h => by cases h
  | p :: X, q, h => by
    rw [bstM] at h
    cases hb : bstM C last L X with
    | none => rw [hb] at h; cases h; exact ⟨List.mem_cons_self, rfl⟩
    | some b =>
      rw [hb] at h
      have := bstM_mem hb
      simp only [btC] at h
      split at h
      · cases h; exact ⟨List.mem_cons_of_mem _ this.1, this.2⟩
      · cases h; exact ⟨List.mem_cons_self, rfl⟩
theorem pthO_mem {C : Crt} (ok : okC C) {q : Nat → Bool} {sk : Nat} : ∀ m ch last, last < cn C → ∀ p ∈ pthO C q sk m ch last, (∀ x ∈ p, x < cn C) ∧ p.length ≤ m
  | 0, ch, last, hl, p, hp => by
    simp only [pthO] at hp
    split at hp
    · split at hp
      · rw [List.mem_singleton.mp hp]; exact ⟨fun x hx => (by cases hx), Nat.le_refl 0⟩
      · cases hp
    · cases hp
  | m + 1, ch, last, hl, p, hp => by
    simp only [pthO] at hp
    split at hp
    · split at hp
      · rw [List.mem_singleton.mp hp]; exact ⟨fun x hx => (by cases hx), Nat.zero_le _⟩
      · cases hp
    · obtain ⟨c, p2, -, -, hc, h2, rfl⟩ := extF_mem _ _ hp
      have hcn : c < cn C := bit_in (opn_lt ok hl) hc
      have ih := pthO_mem ok m _ c hcn p2 h2
      refine ⟨fun x hx => ?_, by simp; exact ih.2⟩
      rcases List.mem_cons.mp hx with rfl | hx
      · exact hcn
      · exact ih.1 x hx
/-! by turns -/
theorem anyF_snoc (f : Nat → Bool) (op : Nat) : ∀ k b, anyF f op (k + 1) b = (anyF f op k b || (op.testBit (b + k) && f (b + k)))
  | 0, b => by simp [anyF]
  | k + 1, b => by
    rw [anyF, anyF_snoc f op k (b + 1)]
    conv => rhs; rw [anyF]
    rw [Bool.or_assoc, show b + 1 + k = b + (k + 1) by omega]
theorem anyF_end {f : Nat → Bool} {op k : Nat} (h : op < 2 ^ k) : ∀ j, anyF f op (k + j) 0 = anyF f op k 0
  | 0 => rfl
  | j + 1 => by
    rw [show k + (j + 1) = k + j + 1 by omega, anyF_snoc, anyF_end h j, bit_lt h (by omega)]
    simp
/-- as the reference counts it: by the first j -/
def winF (fs : Bool) (f : Nat → Bool) (op j : Nat) : Bool := if op = 0 then false else if anyF (fun b => f b == fs) op j 0 then fs else !fs
theorem winF_s (fs : Bool) (f : Nat → Bool) (op j : Nat) (h : op.testBit j = true) : winF fs f op (j + 1) = if fs then winF fs f op j || f j else winF fs f op j && f j := by
  have h0 : op ≠ 0 := by intro q; rw [q] at h; simp at h
  unfold winF
  rw [if_neg h0, if_neg h0, anyF_snoc, Nat.zero_add, h]
  cases fs <;> cases f j <;> cases anyF _ op j 0 <;> rfl
theorem winF_n (fs : Bool) (f : Nat → Bool) (op j : Nat) (h : op.testBit j = false) : winF fs f op (j + 1) = winF fs f op j := by
  unfold winF
  rw [anyF_snoc, Nat.zero_add, h]
  simp
theorem cnt_bit {m : Nat} : ∀ n b, b < n → m.testBit b = false → cnt (m ||| 2 ^ b) n = cnt m n + 1
  | 0, b, h, _ => absurd h (Nat.not_lt_zero b)
  | n + 1, b, h, hb => by
    simp only [cnt]
    by_cases hbn : b = n
    · subst hbn
      have e : cnt (m ||| 2 ^ b) b = cnt m b := by
        have : ∀ k, k ≤ b → cnt (m ||| 2 ^ b) k = cnt m k := by
          intro k
          induction k with
          | zero => intro _; rfl
          | succ k ih =>
            intro hk
            simp only [cnt]
            rw [ih (by omega), b_orp]
            have : ¬ b = k := by omega
            simp [this]
        exact this b (Nat.le_refl b)
      rw [e, b_orp, hb]
      simp
    · rw [cnt_bit n b (by omega) hb, b_orp]
      simp [hbn]
      omega
theorem cnt_full {m : Nat} : ∀ n, cnt m n = n → ∀ b, b < n → m.testBit b = true
  | 0, _, b, h => absurd h (Nat.not_lt_zero b)
  | n + 1, hc, b, h => by
    have hle := cnt_le m n
    simp only [cnt] at hc
    by_cases hm : m.testBit n = true
    · rw [hm] at hc
      simp at hc
      by_cases hbn : b = n
      · subst hbn; exact hm
      · exact cnt_full n (by omega) b (by omega)
    · simp only [Bool.not_eq_true] at hm
      rw [hm] at hc
      simp at hc
      omega
