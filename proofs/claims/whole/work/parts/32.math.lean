/-! what the survey finds is what the tables hold -/
theorem endT_get : ∀ (p : List Nat) (last : Nat), (last :: p).getD p.length 0 = endT last p
  | [], last => rfl
  | b :: p, last => by
    have h : (last :: b :: p).getD (b :: p).length 0 = (b :: p).getD p.length 0 := by simp
    rw [h]
    exact endT_get p b
theorem cosA_T (C : Crt) : ∀ (p : List Nat) (row : Nat → Nat) (L last : Nat), row L = last → (∀ i, i < p.length → row (L + 1 + i) = p.getD i 0) → cosA C row (L + 1 + p.length) = cosA C row (L + 1) + cosT C last (L + 1) p
  | [], row, L, last, _, _ => rfl
  | b :: p, row, L, last, h, hr => by
    have h0 : row (L + 1) = b := by simpa using hr 0 (by simp)
    have ih := cosA_T C p row (L + 1) b h0 (fun i hi => by
      have := hr (i + 1) (by simp; omega)
      rw [show L + 1 + (i + 1) = L + 1 + 1 + i by omega] at this
      simpa using this)
    rw [show L + 1 + (b :: p).length = L + 1 + 1 + p.length by simp; omega, ih]
    simp only [cosA, cosT, prv]
    rw [h0, h]
    omega
def cosR (C : Crt) (r : List Nat) : Nat := cosA C (fun i => r.getD i 0) r.length
theorem cosR_c (C : Crt) (v : Nat) (p : List Nat) : cosR C (v :: p) = cst C none 0 v + cosT C v 1 p := by
  have h := cosA_T C p (fun i => (v :: p).getD i 0) 0 v rfl (fun i hi => by rw [show 0 + 1 + i = i + 1 by omega]; simp)
  unfold cosR
  rw [show (v :: p).length = 0 + 1 + p.length by simp; omega, h]
  simp [cosA, prv]
theorem dayA_T (C : Crt) : ∀ (p : List Nat) (row : Nat → Nat) (L : Nat), (∀ i, i < p.length → row (L + i) = p.getD i 0) → dayA C row (L + p.length) = dayA C row L + dayT C p
  | [], row, L, _ => rfl
  | b :: p, row, L, hr => by
    have h0 : row L = b := by simpa using hr 0 (by simp)
    have ih := dayA_T C p row (L + 1) (fun i hi => by
      have := hr (i + 1) (by simp; omega)
      rw [show L + (i + 1) = L + 1 + i by omega] at this
      simpa using this)
    rw [show L + (b :: p).length = L + 1 + p.length by simp; omega, ih]
    simp only [dayA, dayT]
    rw [h0]
    omega
theorem dayR_c (C : Crt) (r : List Nat) : dayA C (fun i => r.getD i 0) r.length = dayT C r := by
  have h := dayA_T C r (fun i => r.getD i 0) 0 (fun i _ => by rw [Nat.zero_add])
  rw [Nat.zero_add] at h
  rw [h]
  simp [dayA]
theorem mskT_bit (a : Nat) : ∀ p, (mskT p).testBit a = true ↔ a ∈ p
  | [] => by simp [mskT]
  | b :: p => by
    rw [mskT, b_orp, Bool.or_eq_true, mskT_bit a p, decide_eq_true_iff, List.mem_cons]
    constructor
    · rintro (h | h)
      · exact Or.inr h
      · exact Or.inl h.symm
    · rintro (h | h)
      · exact Or.inr h.symm
      · exact Or.inl h
theorem mbL_msk (r : List Nat) : mbL r = mskT r := Nat.eq_of_testBit_eq fun i => Bool.eq_iff_iff.mpr ((mbL_bit r i).trans (mskT_bit i r).symm)
theorem fold_c (C : Crt) (s : Srv) (r : List Nat) (R : List (List Nat)) : foldN C s ((r :: R).map asR) = foldN C (noteS C s (fun i => r.getD i 0) r.length) (R.map asR) := rfl
def endR : List (List Nat) → Nat
  | [] => 0
  | r :: R => 2 ^ r.getD (r.length - 1) 0 ||| endR R
theorem endR_map (v : Nat) : ∀ P, endR (P.map (fun p => v :: p)) = endM v P
  | [] => rfl
  | p :: P => by
    rw [List.map_cons, endR, endM, endR_map v P, show (v :: p).length - 1 = p.length by simp, endT_get]
theorem fo_en (C : Crt) : ∀ R s, v_en (foldN C s (R.map asR)) = v_en s ||| endR R
  | [], s => (Nat.or_zero _).symm
  | r :: R, s => by
    rw [fold_c, fo_en C R]
    show (v_en s ||| 2 ^ r.getD (r.length - 1) 0) ||| endR R = v_en s ||| (2 ^ r.getD (r.length - 1) 0 ||| endR R)
    rw [Nat.or_assoc]
theorem fo_td (C : Crt) : ∀ R s, v_td (foldN C s (R.map asR)) = v_td s ||| anyM R
  | [], s => (Nat.or_zero _).symm
  | r :: R, s => by
    rw [fold_c, fo_td C R]
    show (v_td s ||| mbL r) ||| anyM R = v_td s ||| (mskT r ||| anyM R)
    rw [Nat.or_assoc, mbL_msk]
theorem fo_cm (C : Crt) : ∀ R s, 0 < v_fo s → v_cm s < 1024 → v_cm (foldN C s (R.map asR)) = v_cm s &&& allM R
  | [], s, _, h => (and_1023 h).symm
  | r :: R, s, h0, h => by
    have e : v_cm (noteS C s (fun i => r.getD i 0) r.length) = v_cm s &&& mskT r := by
      show (if v_fo s = 0 then mbL r else v_cm s &&& mbL r) = _
      rw [if_neg (by omega), mbL_msk]
    rw [fold_c, fo_cm C R _ (Nat.succ_pos _) (by rw [e]; exact Nat.lt_of_le_of_lt Nat.and_le_left h), e, allM, Nat.and_assoc]
theorem fo_fe (C : Crt) : ∀ R s, 0 < v_fo s → v_fe s ≤ 100000 → v_fe (foldN C s (R.map asR)) = if dayM C R < v_fe s then dayM C R else v_fe s
  | [], s, _, h => by
    show v_fe s = if 100000 < v_fe s then 100000 else v_fe s
    rw [if_neg (by omega)]
  | r :: R, s, h0, h => by
    have e : v_fe (noteS C s (fun i => r.getD i 0) r.length) = if dayT C r < v_fe s then dayT C r else v_fe s := by
      show (if v_fo s = 0 then dayA C (fun i => r.getD i 0) r.length else (if dayA C (fun i => r.getD i 0) r.length < v_fe s then dayA C (fun i => r.getD i 0) r.length else v_fe s)) = _
      rw [if_neg (by omega), dayR_c]
    have hle : (if dayT C r < v_fe s then dayT C r else v_fe s) ≤ 100000 := by split <;> omega
    rw [fold_c, fo_fe C R _ (Nat.succ_pos _) (by rw [e]; exact hle), e, dayM]
    repeat' split
    all_goals omega
/-! the best one -/
def bstR (C : Crt) : List (List Nat) → Bst
  | [] => none
  | r :: R => btC (some (cosR C r, r)) (bstR C R)
theorem bstR_map (C : Crt) (v : Nat) : ∀ P, bstR C (P.map (fun p => v :: p)) = (bstM C v 1 P).map (fun q => (cst C none 0 v + q.1, v :: q.2))
  | [] => rfl
  | p :: P => by
    rw [List.map_cons, bstR, bstM, bstR_map C v P, cosR_c]
    cases bstM C v 1 P with
    | none => rfl
    | some q =>
      show btC (some (cst C none 0 v + cosT C v 1 p, v :: p)) (some (cst C none 0 v + q.1, v :: q.2)) = _
      by_cases h : q.1 < cosT C v 1 p ∨ (q.1 = cosT C v 1 p ∧ q.2.length < p.length)
      · rw [btC_lt (b := q) h, btC_lt]
        · rfl
        · show cst C none 0 v + q.1 < cst C none 0 v + cosT C v 1 p ∨ (cst C none 0 v + q.1 = cst C none 0 v + cosT C v 1 p ∧ q.2.length + 1 < p.length + 1)
          omega
      · rw [btC_ge (b := q) h, btC_ge]
        · rfl
        · show ¬ (cst C none 0 v + q.1 < cst C none 0 v + cosT C v 1 p ∨ (cst C none 0 v + q.1 = cst C none 0 v + cosT C v 1 p ∧ q.2.length + 1 < p.length + 1))
          omega
def rlB (s : Srv) (o : Bst) : Prop := (v_fo s = 0 → o = none) ∧ (0 < v_fo s → ∃ b, o = some b ∧ v_bc s = b.1 ∧ v_bl s = b.2.length ∧ ∀ i, i < b.2.length → v_br s i = b.2.getD i 0)
theorem rlB_note {C : Crt} {s : Srv} {o : Bst} (h : rlB s o) (r : List Nat) : rlB (noteS C s (fun i => r.getD i 0) r.length) (btC o (some (cosR C r, r))) := by
  refine ⟨fun q => absurd q (Nat.succ_ne_zero _), fun _ => ?_⟩
  have yes : nbB C s (fun i => r.getD i 0) r.length = true → v_bc (noteS C s (fun i => r.getD i 0) r.length) = cosR C r ∧ v_bl (noteS C s (fun i => r.getD i 0) r.length) = r.length ∧ ∀ i, i < r.length → v_br (noteS C s (fun i => r.getD i 0) r.length) i = r.getD i 0 := by
    intro hb
    refine ⟨?_, ?_, fun i _ => ?_⟩
    · show (if nbB C s (fun i => r.getD i 0) r.length = true then cosR C r else v_bc s) = _
      rw [if_pos hb]
    · show (if nbB C s (fun i => r.getD i 0) r.length = true then r.length else v_bl s) = _
      rw [if_pos hb]
    · show (if nbB C s (fun i => r.getD i 0) r.length = true then (fun i => r.getD i 0) else v_br s) i = _
      rw [if_pos hb]
  have no : nbB C s (fun i => r.getD i 0) r.length = false → v_bc (noteS C s (fun i => r.getD i 0) r.length) = v_bc s ∧ v_bl (noteS C s (fun i => r.getD i 0) r.length) = v_bl s ∧ ∀ i, v_br (noteS C s (fun i => r.getD i 0) r.length) i = v_br s i := by
    intro hb
    refine ⟨?_, ?_, fun i => ?_⟩
    · show (if nbB C s (fun i => r.getD i 0) r.length = true then cosR C r else v_bc s) = _
      rw [if_neg (by rw [hb]; decide)]
    · show (if nbB C s (fun i => r.getD i 0) r.length = true then r.length else v_bl s) = _
      rw [if_neg (by rw [hb]; decide)]
    · show (if nbB C s (fun i => r.getD i 0) r.length = true then (fun i => r.getD i 0) else v_br s) i = _
      rw [if_neg (by rw [hb]; decide)]
  by_cases h0 : v_fo s = 0
  · rw [h.1 h0, none_btC]
    exact ⟨_, rfl, yes (decide_eq_true (Or.inl h0))⟩
  · obtain ⟨b, rfl, b1, b2, b3⟩ := h.2 (by omega)
    by_cases hlt : cosR C r < b.1 ∨ (cosR C r = b.1 ∧ r.length < b.2.length)
    · rw [btC_lt (b := (cosR C r, r)) hlt]
      refine ⟨_, rfl, yes (decide_eq_true (Or.inr ?_))⟩
      rw [b1, b2]
      exact hlt
    · rw [btC_ge (b := (cosR C r, r)) hlt]
      have hf : nbB C s (fun i => r.getD i 0) r.length = false := decide_eq_false (by
        rw [b1, b2]
        intro q
        rcases q with q | q
        · exact h0 q
        · exact hlt q)
      obtain ⟨n1, n2, n3⟩ := no hf
      exact ⟨b, rfl, n1.trans b1, n2.trans b2, fun i hi => (n3 i).trans (b3 i hi)⟩
theorem fo_best (C : Crt) : ∀ R s o, rlB s o → rlB (foldN C s (R.map asR)) (btC o (bstR C R))
  | [], s, o, h => h
  | r :: R, s, o, h => by
    rw [fold_c, bstR, ← btC_assoc]
    exact fo_best C R _ _ (rlB_note h r)
/-! the least to one NIGHT -/
def mnC (o o2 : Option Nat) : Option Nat := match o2 with
  | none => o
  | some b => match o with
    | none => some b
    | some a => if b < a then some b else some a
theorem none_mnC (o : Option Nat) : mnC none o = o := by cases o <;> rfl
theorem mnC_ss (a b : Nat) : mnC (some a) (some b) = some (if b < a then b else a) := by
  simp only [mnC]
  split <;> rfl
theorem mnC_assoc (a b c : Option Nat) : mnC (mnC a b) c = mnC a (mnC b c) := by
  cases a with
  | none => rw [none_mnC, none_mnC]
  | some a => cases b with
    | none => rw [none_mnC]; rfl
    | some b => cases c with
      | none => rfl
      | some c =>
        rw [mnC_ss, mnC_ss, mnC_ss, mnC_ss]
        congr 1
        repeat' split
        all_goals omega
def mnR (C : Crt) (a : Nat) : List (List Nat) → Option Nat
  | [] => none
  | r :: R => if r.getD (r.length - 1) 0 = a then mnC (some (cosR C r)) (mnR C a R) else mnR C a R
def rlL (s : Srv) (a : Nat) (o : Option Nat) : Prop := ((v_en s).testBit a = false ∧ o = none) ∨ ((v_en s).testBit a = true ∧ o = some (v_le s a))
theorem rlL_note {C : Crt} {s : Srv} {a : Nat} {o : Option Nat} (h : rlL s a o) (r : List Nat) : rlL (noteS C s (fun i => r.getD i 0) r.length) a (if r.getD (r.length - 1) 0 = a then mnC o (some (cosR C r)) else o) := by
  have e1 : (v_en (noteS C s (fun i => r.getD i 0) r.length)).testBit a = ((v_en s).testBit a || decide (r.getD (r.length - 1) 0 = a)) := by
    show (v_en s ||| 2 ^ r.getD (r.length - 1) 0).testBit a = _
    rw [b_orp]
  have e2 : v_le (noteS C s (fun i => r.getD i 0) r.length) a = (if (v_en s).testBit (r.getD (r.length - 1) 0) = false ∨ cosR C r < v_le s (r.getD (r.length - 1) 0) then fup (v_le s) (r.getD (r.length - 1) 0) (cosR C r) else v_le s) a := rfl
  unfold rlL
  rw [e1, e2]
  by_cases hr : r.getD (r.length - 1) 0 = a
  · rw [if_pos hr, hr]
    refine Or.inr ⟨by simp, ?_⟩
    rcases h with ⟨h1, h2⟩ | ⟨h1, h2⟩
    · rw [h2, none_mnC, if_pos (Or.inl h1), fup_same]
    · rw [h2, mnC_ss]
      by_cases hc : cosR C r < v_le s a
      · rw [if_pos hc, if_pos (Or.inr hc), fup_same]
      · rw [if_neg hc, if_neg (by rw [h1]; intro q; rcases q with q | q; · cases q
                                  · exact hc q)]
  · rw [if_neg hr]
    have e3 : (if (v_en s).testBit (r.getD (r.length - 1) 0) = false ∨ cosR C r < v_le s (r.getD (r.length - 1) 0) then fup (v_le s) (r.getD (r.length - 1) 0) (cosR C r) else v_le s) a = v_le s a := by
      split
      · exact fup_ne _ _ (fun q => hr q.symm)
      · rfl
    rw [e3, decide_eq_false hr, Bool.or_false]
    exact h
theorem fo_le (C : Crt) (a : Nat) : ∀ R s o, rlL s a o → rlL (foldN C s (R.map asR)) a (mnC o (mnR C a R))
  | [], s, o, h => h
  | r :: R, s, o, h => by
    have := fo_le C a R _ _ (rlL_note (C := C) h r)
    rw [fold_c, mnR]
    by_cases hr : r.getD (r.length - 1) 0 = a
    · rw [if_pos hr] at this ⊢
      rw [← mnC_assoc]
      exact this
    · rw [if_neg hr] at this ⊢
      exact this
theorem mnR_map (C : Crt) (a v : Nat) : ∀ P : List (List Nat), mnR C a (P.map (fun p => v :: p)) = (bstM C v 1 (P.filter (fun p => decide (endT v p = a)))).map (fun q => cst C none 0 v + q.1)
  | [] => rfl
  | p :: P => by
    have ih := mnR_map C a v P
    rw [List.map_cons, mnR, show (v :: p).length - 1 = p.length by simp, endT_get, ih, cosR_c]
    by_cases h : endT v p = a
    · rw [if_pos h, List.filter_cons_of_pos (by simpa using h), bstM]
      cases bstM C v 1 (P.filter (fun p => decide (endT v p = a))) with
      | none => rfl
      | some q =>
        show mnC (some (cst C none 0 v + cosT C v 1 p)) (some (cst C none 0 v + q.1)) = _
        rw [mnC_ss]
        by_cases hq : q.1 < cosT C v 1 p ∨ (q.1 = cosT C v 1 p ∧ q.2.length < p.length)
        · rw [btC_lt (b := q) hq]
          show _ = some (cst C none 0 v + q.1)
          congr 1
          split <;> omega
        · rw [btC_ge (b := q) hq]
          show _ = some (cst C none 0 v + cosT C v 1 p)
          congr 1
          split <;> omega
    · rw [if_neg h, List.filter_cons_of_neg (by simpa using h)]
theorem extF_filter {f g : Nat → List (List Nat)} {a op : Nat} (h : ∀ b, f b = (g b).filter (fun p => decide (endT b p = a))) (last : Nat) : ∀ k b, extF f op k b = (extF g op k b).filter (fun p => decide (endT last p = a))
  | 0, b => rfl
  | k + 1, b => by
    rw [extF, extF, extF_filter h last k (b + 1), List.filter_append]
    congr 1
    by_cases hb : op.testBit b = true
    · rw [if_pos hb, if_pos hb, h b, List.filter_map]
      rfl
    · rw [if_neg hb, if_neg hb]; rfl
theorem pthO_filter (C : Crt) (a sk : Nat) : ∀ m ch last, pthO C (onB (some a)) sk m ch last = (pthF C sk m ch last).filter (fun p => decide (endT last p = a))
  | 0, ch, last => by
    simp only [pthO, pthF]
    split
    · by_cases h : last = a
      · subst h; simp [onB, endT]
      · have : ¬ a = last := fun q => h q.symm
        simp [onB, endT, h, this]
    · rfl
  | m + 1, ch, last => by
    simp only [pthO, pthF]
    split
    · by_cases h : last = a
      · subst h; simp [onB, endT]
      · have : ¬ a = last := fun q => h q.symm
        simp [onB, endT, h, this]
    · exact extF_filter (fun b => pthO_filter C a sk m _ b) last 10 0
theorem note_cm0 {C : Crt} {s : Srv} (h : v_fo s = 0) (row : Nat → Nat) (L : Nat) : v_cm (noteS C s row L) = mbP row L := if_pos h
theorem note_fe0 {C : Crt} {s : Srv} (h : v_fo s = 0) (row : Nat → Nat) (L : Nat) : v_fe (noteS C s row L) = dayA C row L := if_pos h
/-! of one VERDICT -/
theorem P9_none (C : Crt) (sk v : Nat) : P9 C none sk v = pthF C sk 9 (2 ^ v) v := pthO_all C sk 9 (2 ^ v) v
theorem P9_some (C : Crt) (a sk v : Nat) : P9 C (some a) sk v = (P9 C none sk v).filter (fun p => decide (endT v p = a)) := by
  rw [P9_none]
  exact pthO_filter C a sk 9 (2 ^ v) v
theorem rows_P (C : Crt) (sk v : Nat) : rowsS C sk v = if sk.testBit v then [] else (P9 C none sk v).map (fun p => v :: p) := by
  rw [P9_none]; rfl
abbrev z0 : Srv := (0, v_bc zeV, v_bl zeV, v_br zeV, v_fe zeV, 0, 0, 0, v_le zeV)
theorem sur_0 (C : Crt) (sk v : Nat) : surZ C sk v = foldN C z0 ((rowsS C sk v).map asR) := rfl
theorem hw_yes {C : Crt} {sk v : Nat} (h : hwB C sk v = true) : rowsS C sk v = (P9 C none sk v).map (fun p => v :: p) ∧ P9 C none sk v ≠ [] := by
  unfold hwB at h
  simp only [Bool.and_eq_true, Bool.not_eq_true', decide_eq_true_eq] at h
  refine ⟨by rw [rows_P, if_neg (by rw [h.1]; decide)], List.length_pos_iff.mp h.2⟩
theorem hw_no {C : Crt} {sk v : Nat} (h : hwB C sk v = false) : rowsS C sk v = [] := by
  rw [rows_P]
  unfold hwB at h
  by_cases hb : sk.testBit v = true
  · rw [if_pos hb]
  · rw [if_neg hb]
    simp only [Bool.not_eq_true] at hb
    rw [hb] at h
    simp only [Bool.not_false, Bool.true_and, decide_eq_false_iff_not, Nat.not_lt, Nat.le_zero, List.length_eq_zero_iff] at h
    rw [h]
    rfl
theorem z_fo (C : Crt) (sk v : Nat) : v_fo (surZ C sk v) = if hwB C sk v then (P9 C none sk v).length else 0 := by
  rw [surZ_fo]
  cases h : hwB C sk v with
  | true => rw [if_pos rfl, (hw_yes h).1, List.length_map]
  | false => rw [if_neg (by decide), hw_no h]; rfl
theorem z_en (C : Crt) (sk v : Nat) : v_en (surZ C sk v) = if hwB C sk v then endM v (P9 C none sk v) else 0 := by
  rw [sur_0, fo_en]
  cases h : hwB C sk v with
  | true => rw [if_pos rfl, (hw_yes h).1, endR_map]; exact Nat.zero_or _
  | false => rw [if_neg (by decide), hw_no h]; rfl
theorem P9_mem {C : Crt} (okc : okC C) {o : Option Nat} {sk v : Nat} (hv : v < cn C) : ∀ p ∈ P9 C o sk v, (∀ x ∈ p, x < cn C) ∧ 1 + p.length ≤ 11 := fun p hp => by
  have := pthO_mem okc 9 _ v hv p hp
  exact ⟨this.1, by omega⟩
theorem z_td {C : Crt} (sk v : Nat) : v_td (surZ C sk v) = if hwB C sk v then anyM (P9 C none sk v) ||| 2 ^ v else 0 := by
  rw [sur_0, fo_td]
  cases h : hwB C sk v with
  | true => rw [if_pos rfl, (hw_yes h).1, anyM_map v _ (hw_yes h).2]; exact Nat.zero_or _
  | false => rw [if_neg (by decide), hw_no h]; rfl
theorem z_cm {C : Crt} (okc : okC C) {sk v : Nat} (hv : v < cn C) : v_cm (surZ C sk v) = if hwB C sk v then allM (P9 C none sk v) ||| 2 ^ v else 0 := by
  have hn := okc.1
  rw [sur_0]
  cases h : hwB C sk v with
  | true =>
    have hm : ∀ p ∈ P9 C none sk v, mskT p < 1024 := fun p hp => Nat.lt_of_lt_of_le (mskT_lt p (P9_mem okc hv p hp).1) okc.lt
    rw [if_pos rfl, (hw_yes h).1, ← allM_map v _ (hw_yes h).2 hm (by omega)]
    cases hP : P9 C none sk v with
    | nil => exact absurd hP (hw_yes h).2
    | cons p P =>
      have hp := hm p (by rw [hP]; exact List.mem_cons_self)
      have hvp : mskT (v :: p) < 1024 := or_1024 hp (pow_10 (by omega))
      have e : v_cm (noteS C z0 (fun i => (v :: p).getD i 0) (v :: p).length) = mskT (v :: p) := (note_cm0 rfl _ _).trans (mbL_msk (v :: p))
      rw [List.map_cons, fold_c, fo_cm C _ _ (Nat.succ_pos _) (by rw [e]; exact hvp), e, allM]
  | false => rw [if_neg (by decide), hw_no h]; rfl
theorem z_fe {C : Crt} (okc : okC C) {sk v : Nat} (hv : v < cn C) (h : hwB C sk v = true) : v_fe (surZ C sk v) = sp C v + dayM C (P9 C none sk v) := by
  have hsp := (okc.2.2.2.1 v hv).2.2.1
  have hd : ∀ p ∈ P9 C none sk v, dayT C p + sp C v < 100000 := fun p hp => by
    have h1 := P9_mem okc hv p hp
    have := dayT_le okc p h1.1
    omega
  rw [sur_0, (hw_yes h).1, ← dayM_map C v _ (hw_yes h).2 hd]
  cases hP : P9 C none sk v with
  | nil => exact absurd hP (hw_yes h).2
  | cons p P =>
    have hp := hd p (by rw [hP]; exact List.mem_cons_self)
    have e : v_fe (noteS C z0 (fun i => (v :: p).getD i 0) (v :: p).length) = dayT C (v :: p) := (note_fe0 rfl _ _).trans (dayR_c C (v :: p))
    have e2 : dayT C (v :: p) = sp C v + dayT C p := rfl
    rw [List.map_cons, fold_c, fo_fe C _ _ (Nat.succ_pos _) (by rw [e, e2]; omega), e, dayM]
    repeat' split
    all_goals omega
theorem z_best {C : Crt} {sk v : Nat} (h : hwB C sk v = true) : ∃ b, bstM C v 1 (P9 C none sk v) = some b ∧ v_bc (surZ C sk v) = cst C none 0 v + b.1 ∧ v_bl (surZ C sk v) = b.2.length + 1 ∧ ∀ i, i < b.2.length + 1 → v_br (surZ C sk v) i = (v :: b.2).getD i 0 := by
  obtain ⟨b, hb⟩ := bst_ne (C := C) (last := v) (L := 1) (hw_yes h).2
  have h1 : rlB z0 none := ⟨fun _ => rfl, fun q => absurd q (Nat.lt_irrefl 0)⟩
  have h2 := fo_best C (rowsS C sk v) z0 none h1
  rw [← sur_0, none_btC, (hw_yes h).1, bstR_map, hb] at h2
  have h3 : 0 < v_fo (surZ C sk v) := by
    rw [z_fo, h, if_pos rfl]
    exact List.length_pos_iff.mpr (hw_yes h).2
  obtain ⟨b2, e, q1, q2, q3⟩ := h2.2 h3
  cases e
  exact ⟨b, hb, q1, q2, fun i hi => q3 i hi⟩
theorem z_le {C : Crt} {sk v : Nat} (hs : sk.testBit v = false) (a : Nat) : ((v_en (surZ C sk v)).testBit a = false ∧ bstM C v 1 (P9 C (some a) sk v) = none) ∨ ((v_en (surZ C sk v)).testBit a = true ∧ ∃ q, bstM C v 1 (P9 C (some a) sk v) = some q ∧ v_le (surZ C sk v) a = cst C none 0 v + q.1) := by
  have h1 : rlL z0 a none := Or.inl ⟨Nat.zero_testBit a, rfl⟩
  have h2 := fo_le C a (rowsS C sk v) z0 none h1
  rw [← sur_0, none_mnC, rows_P, if_neg (by rw [hs]; decide), mnR_map, ← P9_some] at h2
  rcases h2 with ⟨q1, q2⟩ | ⟨q1, q2⟩
  · refine Or.inl ⟨q1, ?_⟩
    cases hb : bstM C v 1 (P9 C (some a) sk v) with
    | none => rfl
    | some q => rw [hb] at q2; cases q2
  · refine Or.inr ⟨q1, ?_⟩
    cases hb : bstM C v 1 (P9 C (some a) sk v) with
    | none => rw [hb] at q2; cases q2
    | some q =>
      rw [hb] at q2
      refine ⟨q, rfl, ?_⟩
      have := Option.some.inj q2
      exact this.symm
/-- a chain ends with a NIGHT -/
theorem endF_night {C : Crt} (okc : okC C) {sk : Nat} : ∀ m ch last, last < cn C → ∀ p ∈ pthF C sk m ch last, kd C (endT last p) = 4 ∧ endT last p < cn C
  | 0, ch, last, hl, p, hp => by
    simp only [pthF] at hp
    split at hp
    · next h => rw [List.mem_singleton.mp hp]; exact ⟨h, hl⟩
    · cases hp
  | m + 1, ch, last, hl, p, hp => by
    simp only [pthF] at hp
    split at hp
    · next h => rw [List.mem_singleton.mp hp]; exact ⟨h, hl⟩
    · obtain ⟨c, q, -, -, hc, hq, rfl⟩ := extF_mem _ _ hp
      exact endF_night okc m _ c (bit_in (opn_lt okc hl) hc) q hq
theorem endM_bit {v a : Nat} : ∀ P, (endM v P).testBit a = true ↔ ∃ p ∈ P, endT v p = a
  | [] => by simp [endM]
  | p :: P => by
    rw [endM, Nat.testBit_or, Bool.or_eq_true, endM_bit P, b_pow, decide_eq_true_iff]
    simp
theorem z_en_night {C : Crt} (okc : okC C) {sk v a : Nat} (hv : v < cn C) (h : (v_en (surZ C sk v)).testBit a = true) : kd C a = 4 ∧ a < cn C := by
  rw [z_en] at h
  cases hw : hwB C sk v with
  | false => rw [hw, if_neg (by decide), Nat.zero_testBit] at h; cases h
  | true =>
    rw [hw, if_pos rfl] at h
    obtain ⟨p, hp, rfl⟩ := (endM_bit _).mp h
    rw [P9_none] at hp
    exact endF_night okc 9 _ v hv p hp
