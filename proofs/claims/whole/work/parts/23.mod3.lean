/-! an item, as the reference reads it -/
abbrev pN (T : List Nat) (p : Nat) : Nat := p + fgS T p + 1
abbrev nuS (T : List Nat) (p : Nat) : Nat := numS T p (fgS T p)
def nzB (T : List Nat) (p c : Nat) : Bool := decide (fgS T p ≠ 0 ∧ ltI T (p + fgS T p) = nI c)
theorem nz_ne {T : List Nat} {p : Nat} (h : nzB T p 59 = true) : nzB T p 44 = false := by
  unfold nzB at h ⊢
  simp only [decide_eq_true_eq, decide_eq_false_iff_not] at h ⊢
  intro q
  have := h.2.symm.trans q.2
  exact absurd this (by decide +kernel)
theorem rd_1 {T : List Nat} {m p : Nat} : rdF T (m + 1) p = if nzB T p 59 then some ([nuS T p], pN T p) else if nzB T p 44 then (rdF T m (pN T p)).map (fun q => (nuS T p :: q.1, q.2)) else none := by
  simp only [rdF, nzB]
  by_cases h0 : fgS T p = 0
  · simp [h0]
  · by_cases h1 : ltI T (p + fgS T p) = nI 59
    · simp [h0, h1]
    · by_cases h2 : ltI T (p + fgS T p) = nI 44
      · simp only [h0, h1, if_false, ne_eq, not_false_eq_true, and_false, decide_false, h2, if_true, and_self, decide_true]
        rfl
      · simp [h0, h1, h2]
theorem rd_3 {T : List Nat} {p : Nat} : rdF T 3 p = if nzB T p 59 then some ([nuS T p], pN T p) else if nzB T p 44 then (if nzB T (pN T p) 59 then some ([nuS T p, nuS T (pN T p)], pN T (pN T p)) else if nzB T (pN T p) 44 then (if nzB T (pN T (pN T p)) 59 then some ([nuS T p, nuS T (pN T p), nuS T (pN T (pN T p))], pN T (pN T (pN T p))) else none) else none) else none := by
  have h0 : ∀ q, rdF T 0 q = none := fun _ => rfl
  rw [rd_1, rd_1, rd_1, h0]
  cases nzB T p 59 <;> cases nzB T p 44 <;> cases nzB T (pN T p) 59 <;> cases nzB T (pN T p) 44 <;> cases nzB T (pN T (pN T p)) 59 <;> cases nzB T (pN T (pN T p)) 44 <;> rfl
def itS (T : List Nat) (D : Crt) (p : Nat) : Option (Crt × Nat) := match rdF T 3 (p + 1) with
  | none => none
  | some q => (tlS D (ltI T p) q.1).map (fun D' => (D', q.2))
theorem raF_it (T : List Nat) (m : Nat) (D : Crt) (p : Nat) : raF T (m + 1) D p = if p < T.length then (match itS T D p with | none => (some p, D) | some q => raF T m q.1 q.2) else (none, D) := by
  simp only [raF, itS]
  by_cases h : p < T.length
  · rw [if_pos h, if_pos h]
    cases rdF T 3 (p + 1) with
    | none => rfl
    | some q =>
      simp only
      cases tlS D (ltI T p) q.1 <;> rfl
  · rw [if_neg h, if_neg h]
theorem nm_n {T : List Nat} (okt : okT T) {p N c : Nat} (hN : N < 1000) (hc : c < 1000) : nmB T p (nI N) (nI c) = (nzB T p c && decide (nuS T p ≤ N)) := by
  have h100 := num_100 (T := T) (p := p)
  have e3 : nuS T p = numS T p (fgS T p) := rfl
  unfold nmB nzB
  rw [← Bool.decide_and]
  refine decide_eq_decide.mpr ?_
  rw [hr_lt okt hc, n_lt (by omega) (by omega)]
  exact ⟨fun h => ⟨⟨h.1, h.2.2⟩, by omega⟩, fun h => ⟨h.1.1, by omega, h.1.2⟩⟩
theorem nm_m {T : List Nat} (okt : okT T) {p N c : Nat} (hN : N < 1000) (hc : c < 1000) : nmB T p (nI N - nI 1) (nI c) = (nzB T p c && decide (nuS T p < N)) := by
  have h100 := num_100 (T := T) (p := p)
  have e3 : nuS T p = numS T p (fgS T p) := rfl
  unfold nmB nzB
  rw [← Bool.decide_and]
  refine decide_eq_decide.mpr ?_
  have e2 : (nI (numS T p (fgS T p))).toInt = (numS T p (fgS T p) : Nat) := nI_toInt (by omega)
  rw [hr_lt okt hc, Int32.lt_iff_toInt_lt, m_sub1 (by omega), e2]
  exact ⟨fun h => ⟨⟨h.1, h.2.2⟩, by omega⟩, fun h => ⟨h.1.1, by omega, h.1.2⟩⟩
def sB (T : List Nat) (D : Crt) (p : Nat) : Bool := ((decide (cn D < 10) && nmB T p (nI 4) (nI 44)) && nmB T (pN T p) (nI 20) (nI 44)) && nmB T (pN T (pN T p)) (nI 20) (nI 59)
def vB (T : List Nat) (D : Crt) (p : Nat) : Bool := (true && nmB T p (nI (cn D) - nI 1) (nI 59)) && decide (¬ kd D (nuS T p) = 4)
def hB (T : List Nat) (D : Crt) (p : Nat) : Bool := ((true && nmB T p (nI (cn D) - nI 1) (nI 44)) && nmB T (pN T p) (nI (cn D) - nI 1) (nI 59)) && decide (¬ nuS T p = nuS T (pN T p) ∧ ¬ kd D (nuS T p) = 4)
def pB (T : List Nat) (D : Crt) (p : Nat) : Bool := ((decide (np D < 5) && nmB T p (nI (cn D) - nI 1) (nI 44)) && nmB T (pN T p) (nI (cn D) - nI 1) (nI 59)) && decide (kd D (nuS T p) = 4 ∧ kd D (nuS T (pN T p)) = 4)
theorem it_s {T : List Nat} (okt : okT T) {D : Crt} {p : Nat} (hl : ltI T p = nI 115) : itS T D p = if sB T D (p + 1) then some (adS D (nuS T (p + 1)) (nuS T (pN T (p + 1))) (nuS T (pN T (pN T (p + 1)))), pN T (pN T (pN T (p + 1)))) else none := by
  unfold itS sB
  rw [hl, rd_3, nm_n okt (by omega) (by omega), nm_n okt (by omega) (by omega), nm_n okt (by omega) (by omega)]
  have e1 := @nz_ne T (p + 1)
  have e2 := @nz_ne T (pN T (p + 1))
  revert e1 e2
  generalize nzB T (p + 1) 59 = a1
  generalize nzB T (p + 1) 44 = b1
  generalize nzB T (pN T (p + 1)) 59 = a2
  generalize nzB T (pN T (p + 1)) 44 = b2
  generalize nzB T (pN T (pN T (p + 1))) 59 = a3
  generalize nuS T (p + 1) = v1
  generalize nuS T (pN T (p + 1)) = v2
  generalize nuS T (pN T (pN T (p + 1))) = v3
  intro e1 e2
  cases a1 <;> cases b1 <;> cases a2 <;> cases b2 <;> cases a3 <;> simp_all [tl_s, okSt]
  by_cases hq : cn D < 10 ∧ v1 ≤ 4 ∧ v2 ≤ 20 ∧ v3 ≤ 20
  · rw [if_pos hq, if_pos ⟨⟨⟨hq.1, hq.2.1⟩, hq.2.2.1⟩, hq.2.2.2⟩]
  · rw [if_neg hq, if_neg (fun z => hq ⟨z.1.1.1, z.1.1.2, z.1.2, z.2⟩)]
theorem it_v {T : List Nat} (okt : okT T) {D : Crt} (ok : okC D) {p : Nat} (hl : ltI T p = nI 118) : itS T D p = if vB T D (p + 1) then some (adV D (nuS T (p + 1)), pN T (p + 1)) else none := by
  have hn := ok.1
  unfold itS vB
  rw [hl, rd_3, nm_m okt (by omega) (by omega)]
  have e1 := @nz_ne T (p + 1)
  revert e1
  generalize nzB T (p + 1) 59 = a1
  generalize nzB T (p + 1) 44 = b1
  generalize nzB T (pN T (p + 1)) 59 = a2
  generalize nzB T (pN T (p + 1)) 44 = b2
  generalize nzB T (pN T (pN T (p + 1))) 59 = a3
  generalize nuS T (p + 1) = v1
  intro e1
  cases a1 <;> cases b1 <;> cases a2 <;> cases b2 <;> cases a3 <;> simp_all [tl_v, okVd]
  all_goals (by_cases hq : v1 < cn D ∧ ¬ kd D v1 = 4)
  all_goals first | (rw [if_pos hq, if_pos hq]; done) | (rw [if_pos hq, if_pos hq]; rfl) | (rw [if_neg hq, if_neg hq]; done) | (rw [if_neg hq, if_neg hq]; rfl)
theorem it_r {T : List Nat} (okt : okT T) {D : Crt} (ok : okC D) {p : Nat} (hl : ltI T p = nI 114) : itS T D p = if hB T D (p + 1) then some (adH D (nuS T (p + 1)) (nuS T (pN T (p + 1))), pN T (pN T (p + 1))) else none := by
  have hn := ok.1
  unfold itS hB
  rw [hl, rd_3, nm_m okt (by omega) (by omega), nm_m okt (by omega) (by omega)]
  have e1 := @nz_ne T (p + 1)
  have e2 := @nz_ne T (pN T (p + 1))
  revert e1 e2
  generalize nzB T (p + 1) 59 = a1
  generalize nzB T (p + 1) 44 = b1
  generalize nzB T (pN T (p + 1)) 59 = a2
  generalize nzB T (pN T (p + 1)) 44 = b2
  generalize nzB T (pN T (pN T (p + 1))) 59 = a3
  generalize nuS T (p + 1) = v1
  generalize nuS T (pN T (p + 1)) = v2
  intro e1 e2
  cases a1 <;> cases b1 <;> cases a2 <;> cases b2 <;> cases a3 <;> simp_all [tl_r, okHg]
  all_goals (by_cases hq : v1 < cn D ∧ v2 < cn D ∧ ¬ v1 = v2 ∧ ¬ kd D v1 = 4)
  all_goals first | (rw [if_pos hq, if_pos ⟨⟨hq.1, hq.2.1⟩, hq.2.2⟩]; done) | (rw [if_pos hq, if_pos ⟨⟨hq.1, hq.2.1⟩, hq.2.2⟩]; rfl) | (rw [if_neg hq, if_neg (fun z => hq ⟨z.1.1, z.1.2, z.2⟩)]; done) | (rw [if_neg hq, if_neg (fun z => hq ⟨z.1.1, z.1.2, z.2⟩)]; rfl)
theorem it_p {T : List Nat} (okt : okT T) {D : Crt} (ok : okC D) {p : Nat} (hl : ltI T p = nI 112) : itS T D p = if pB T D (p + 1) then some (adP D (nuS T (p + 1)) (nuS T (pN T (p + 1))), pN T (pN T (p + 1))) else none := by
  have hn := ok.1
  unfold itS pB
  rw [hl, rd_3, nm_m okt (by omega) (by omega), nm_m okt (by omega) (by omega)]
  have e1 := @nz_ne T (p + 1)
  have e2 := @nz_ne T (pN T (p + 1))
  revert e1 e2
  generalize nzB T (p + 1) 59 = a1
  generalize nzB T (p + 1) 44 = b1
  generalize nzB T (pN T (p + 1)) 59 = a2
  generalize nzB T (pN T (p + 1)) 44 = b2
  generalize nzB T (pN T (pN T (p + 1))) 59 = a3
  generalize nuS T (p + 1) = v1
  generalize nuS T (pN T (p + 1)) = v2
  intro e1 e2
  cases a1 <;> cases b1 <;> cases a2 <;> cases b2 <;> cases a3 <;> simp_all [tl_p, okPn]
  all_goals (by_cases hq : np D < 5 ∧ v1 < cn D ∧ kd D v1 = 4 ∧ v2 < cn D ∧ kd D v2 = 4)
  all_goals first | (rw [if_pos hq, if_pos ⟨⟨⟨hq.1, hq.2.1⟩, hq.2.2.2.1⟩, hq.2.2.1, hq.2.2.2.2⟩]; done) | (rw [if_pos hq, if_pos ⟨⟨⟨hq.1, hq.2.1⟩, hq.2.2.2.1⟩, hq.2.2.1, hq.2.2.2.2⟩]; rfl) | (rw [if_neg hq, if_neg (fun z => hq ⟨z.1.1.1, z.1.1.2, z.2.1, z.1.2, z.2.2⟩)]; done) | (rw [if_neg hq, if_neg (fun z => hq ⟨z.1.1.1, z.1.1.2, z.2.1, z.1.2, z.2.2⟩)]; rfl)
theorem it_no {T : List Nat} {D : Crt} {p : Nat} (h1 : ¬ ltI T p = nI 115) (h2 : ¬ ltI T p = nI 118) (h3 : ¬ ltI T p = nI 114) (h4 : ¬ ltI T p = nI 112) : itS T D p = none := by
  unfold itS
  split
  · rfl
  · rw [tl_no h1 h2 h3 h4]; rfl
