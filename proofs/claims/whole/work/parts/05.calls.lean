/-! calls, new cells, arraycopy -/
def wsOf (M : ax_M) : List Cond := .code M.1 M.2.1 M.2.2.1 M.2.2.2 :: TB
def rmOf (d a1 a2 : Nat) : Room := { frames := d, cells := a1, slots := a2, locals := 40 * d }
def l_ent (M : ax_M) (As : List Value) : List (Option Value) := As.map some ++ List.replicate (M.2.2.1 - As.length) none
theorem lv_args_at : ∀ (vs : List Value) (k i : Nat) (v : Value), (∀ x ∈ vs, x.category = 1) → vs[i]? = some v → (k + i, v) ∈ lv_args k vs
  | [], _, _, _, _, h => by simp at h
  | x :: xs, k, 0, v, hc, h => by
    simp at h
    subst h
    simp [lv_args]
  | x :: xs, k, i + 1, v, hc, h => by
    have hx : ¬ x.category = 2 := by rw [hc x List.mem_cons_self]; decide
    simp only [lv_args, if_neg hx]
    refine List.mem_cons_of_mem _ ?_
    have := lv_args_at xs (k + 1) i v (fun y hy => hc y (List.mem_cons_of_mem _ hy)) (by simpa using h)
    rw [show k + (i + 1) = k + 1 + i by omega]
    exact this
theorem lg_sl_len : ∀ (vs : List Value), (∀ x ∈ vs, x.category = 1) → (lg_sl vs).length = vs.length
  | [], _ => rfl
  | x :: xs, hc => by
    have hx : ¬ x.category = 2 := by rw [hc x List.mem_cons_self]; decide
    have := lg_sl_len xs (fun y hy => hc y (List.mem_cons_of_mem _ hy))
    simp only [lg_sl, List.flatMap_cons, if_neg hx, List.length_append, List.length_cons] at this ⊢
    simp at this ⊢
    omega
def cat1 (As : List Value) : Bool := As.all fun v => v.category == 1
theorem met_of {M : ax_M} {d a1 a2 : Nat} {As : List Value} {w : ax_W} {n : Nat} {P : Option Value → ax_W → Nat → Prop} (hpl : plainName M.1.cls = true) (hcat : cat1 As = true) (hlen : As.length ≤ M.2.2.1) (h : Run M d a1 a2 0 (l_ent M As) [] w n P) (l : Launch) (B : ax_B) (D : va_G) (cA : FieldType → ClassId) :
    Met l M.1 (wsOf M) (rmOf d a1 a2) (va_Pc (As.map (ax_v B)) (fun U => ax_H B D cA w n U.heap ∧ ax_U B D cA U)) (ax_Q B D cA P) a1 a2 (fun a => B.1 ≤ a) := by
  refine Met.ofW (cc := M.2.1) (maxL := M.2.2.1) (ret := M.2.2.2) hpl rfl ?_
  intro p e s m args below meth c s₁ Bd hml hv
  obtain ⟨rfl, hH, hU⟩ := hv
  have hts := atoms_spec (ws := wsOf M) Bd.pre
  have hcat' : ∀ x ∈ As.map (ax_v B), x.category = 1 := by
    intro x hx
    obtain ⟨y, hy, rfl⟩ := List.mem_map.mp hx
    rw [ax_cat]
    simpa using List.all_eq_true.mp hcat y hy
  have hl := lv_entry (As.map (ax_v B)) (n := M.2.2.1) (by rw [lg_sl_len _ hcat', List.length_map]; exact hlen)
  rw [lg_entry_eq]
  generalize (lg_sl (As.map (ax_v B)) ++ List.replicate (M.2.2.1 - (lg_sl (As.map (ax_v B))).length) Slot.unset).toArray = ls' at hl ⊢
  refine h B D cA p l e _ s m _ below meth c s.heap [] ls' 0 0 a1 a2 ⟨Bd.exec, Bd.bytes, hml, Bd.returns, Bd.notSynchronized, findClass_of_methodNamed Bd.named, (name_of_methodNamed Bd.named Bd.method).1, fun w hw => hts w (List.mem_cons_of_mem _ hw), hU, Nat.le_refl _, Nat.le_refl _⟩ hH ⟨fun _ _ => rfl, fun _ h => by cases h⟩ ?_ (by omega) (by omega) (Nat.le_refl _) (Nat.le_refl _)
  refine ⟨hl.1, hl.2.1, by simp [l_ent]; omega, fun i v hv => ?_⟩
  have hi : As[i]? = some v := by
    unfold l_ent at hv
    rcases Nat.lt_or_ge i As.length with q | q
    · rw [List.getElem?_append_left (by simpa using q), List.getElem?_map] at hv
      cases hx : As[i]? with
      | none => rw [hx] at hv; simp at hv
      | some y => rw [hx] at hv; simpa using hv
    · rw [List.getElem?_append_right (by simpa using q), List.getElem?_replicate] at hv
      split at hv <;> simp at hv
  have h2 := lv_args_at (As.map (ax_v B)) 0 i (ax_v B v) hcat' (by rw [List.getElem?_map, hi]; rfl)
  rw [Nat.zero_add] at h2
  exact hl.2.2 _ h2
def Lk0 (M' : ax_M) (k : Nat) : Prop := Cond.code M'.1 M'.2.1 M'.2.2.1 M'.2.2.2 ∈ TB ∧ Cond.initialized M'.1.cls ∈ TB ∧ (M'.1.cls ≠ "java/lang/invoke/MethodHandle" ∧ M'.1.cls ≠ "java/lang/invoke/VarHandle" ∧ (parseMethodDescriptor M'.1.desc).map (fun d => d.parameters.length) = some k) ∧ plainName M'.1.cls = true ∧ M'.2.2.1 ≤ 21
def LkI (own : String) (idx : Nat) (M' : ax_M) : Prop := Cond.methodLink own idx M'.1 ∈ TB ∨ ∃ host, Cond.methodLinkNest own idx M'.1 host ∈ NB
def LkS (own : String) (idx : Nat) (M' : ax_M) (k : Nat) : Prop := Lk0 M' k ∧ LkI own idx M' ∧ Cond.static M'.1 ∈ TB
def LkV (own : String) (idx : Nat) (M' : ax_M) (k : Nat) : Prop := Lk0 M' k ∧ LkI own idx M' ∧ Cond.instanceMethod M'.1 ∈ TB ∧ Cond.selects M'.1.cls M'.1 M'.1 ∈ TB
def LkN (own : String) (idx : Nat) (M' : ax_M) (k : Nat) : Prop := Lk0 M' k ∧ LkI own idx M' ∧ M'.1.name = "<init>" ∧ M'.2.2.2 = none ∧ Cond.instanceMethod M'.1 ∈ TB
section CALLS
variable {M : ax_M} {d q1 q2 pc : Nat} {ls : List (Option Value)} {st : List Value} {w : ax_W} {n : Nat} {P : Option Value → ax_W → Nat → Prop}
theorem ws_pay {M' : ax_M} {s : State} {args : Array Value} (hts : ∀ w ∈ TB, w.before args s = true) (hc : Cond.code M'.1 M'.2.1 M'.2.2.1 M'.2.2.2 ∈ TB) : ∀ w ∈ wsOf M', ∀ (a' : Array Value) (U : State), s.WarmedH U.vm → w.before a' U = true := by
  intro w hw a' U hW
  have h1 : w ∈ TB := by
    rcases List.mem_cons.mp hw with h | h
    · rw [h]; exact hc
    · exact h
  exact word_at hW (good_of_word (TB_good w h1)) (hts w h1)
/-- behind a call -/
theorem ax_go {B : ax_B} {D : va_G} {cA : FieldType → ClassId} {p : Program} {l : Launch} {e : Env} {R : Room} {s : State} {m : MethodId} {args : Array Value} {below : List Frame} {meth : Method} {c : Code} {H : Heap} {locs : List Loc} {ls' : Array Slot} {cells slots a1 a2 : Nat} {st0 : List Value} {aa : Array Value} {Q : State → Prop} {P' : Option Value → ax_W → Nat → Prop}
    (hr : va_Run p l e R s m args below meth c H locs cells slots a1 a2 (F0 m pc ls' st0) (st.map (ax_v B)) (ax_Q B D cA P' aa) (fun a => B.1 ≤ a)) (hF : ax_F B s H locs)
    (kk : ∀ (r : Option Value) (w' : ax_W) (n' : Nat) (H' : Heap) (locs' : List Loc), P' r w' n' → ax_H B D cA w' n' H' → ax_F B s H' locs' → W p l e R s m args below meth c H' locs' (cells + a1) (slots + a2) Q (F0 m (pc + 3) ls' ((r.toList ++ st).map (ax_v B)))) : W p l e R s m args below meth c H locs cells slots Q (F0 m pc ls' st0) := by
  intro T hT X
  obtain ⟨v, st₀, t, T', L, h0, X', hL, e1, e2, ⟨r, w', n', hv, hp, hH, hq⟩, stp⟩ := hr T hT X
  have hv' : v = r.map (ax_v B) := by injection hv
  subst hv'
  obtain ⟨t2, b1, b2⟩ := kk r w' n' T'.heap (locs ++ L) hp (by rw [e1]; exact hH) ⟨fun q hq1 => by rw [e1, hq q hq1, h0]; exact hF.1 q hq1, fun q hq1 => by
    rcases List.mem_append.mp hq1 with h | h
    · exact hF.2 q h
    · exact hL q h⟩ T' rfl X'
  refine ⟨t2, stp t2 ?_, b2⟩
  have e3 : ((r.map (ax_v B)).toList ++ st.map (ax_v B)) = (r.toList ++ st).map (ax_v B) := by cases r <;> simp
  rw [e3]
  exact b1
theorem ax_pre {B : ax_B} {D : va_G} {cA : FieldType → ClassId} {s : State} {H : Heap} {locs : List Loc} {As : List Value} (hH : ax_H B D cA w n H) (hF : ax_F B s H locs) (hU0 : ax_U B D cA s) : FrameBlind (va_Pc (As.map (ax_v B)) (fun U => ax_H B D cA w n U.heap ∧ ax_U B D cA U)) ∧ ∀ U : State, U.heap = H → s.WarmedH U.vm → va_Pc (As.map (ax_v B)) (fun U => ax_H B D cA w n U.heap ∧ ax_U B D cA U) (As.map (ax_v B)).toArray U :=
  ⟨fun a U g mk q => ⟨q.1, q.2.1, ax_U_go (s := U) (U := U.calling g mk a) (State.WarmedH.refl U) q.2.2.2.2.1 (fun _ _ => rfl) q.2.2⟩,
    fun U hU hW => ⟨rfl, by rw [hU]; exact hH, ax_U_go hW (by rw [hU, hH.1]; omega) (fun q hq => by rw [hU]; exact hF.1 q hq) hU0⟩⟩
theorem ax_room {M' : ax_M} {d' a1 a2 k : Nat} {R : Room} (h0 : Lk0 M' k) (hdd : d' < d) (h1 : d ≤ R.frames) (h2 : 40 * d ≤ R.locals) : (rmOf d' a1 a2).frames + 1 ≤ R.frames ∧ 8 + (M'.2.2.1 + 11) + (rmOf d' a1 a2).locals ≤ R.locals := by
  have h3 := h0.2.2.2.2
  show d' + 1 ≤ R.frames ∧ 8 + (M'.2.2.1 + 11) + 40 * d' ≤ R.locals
  omega
theorem ax_hW {B : ax_B} {m : MethodId} {ls' : Array Slot} {st0 : List Value} (hst : Nat.ble (st.map fun v => v.category).sum 8 = true) : 2 * (F0 m pc ls' st0).monitorRoom + ((st.map (ax_v B)).map fun v => v.category).sum ≤ 8 := by
  rw [ax_cats]
  have := Nat.le_of_ble_eq_true hst
  show 2 * 0 + _ ≤ 8
  omega
/-- a static method of ours -/
theorem x_cs {M' : ax_M} {d' a1 a2 idx : Nat} {As : List Value} {P' : Option Value → ax_W → Nat → Prop} (hd : decode M.2.1 pc = .ok (.invokestatic idx, 3)) (hl : LkS M.1.cls idx M' As.length) (hdd : d' < d) (hcat : cat1 As = true) (hlen : Nat.ble As.length M'.2.2.1 = true) (hst : Nat.ble (st.map fun v => v.category).sum 8 = true) (hc : Run M' d' a1 a2 0 (l_ent M' As) [] w n P') (kk : ∀ r w' n', P' r w' n' → Run M d q1 q2 (pc + 3) ls (r.toList ++ st) w' n' P) : Run M d (a1 + q1) (a2 + q2) pc ls (As.reverse ++ st) w n P := by
  intro B D cA p l e R s m args below meth c H locs ls' cells slots mc ms C hH hF hL h4 h5 h6 h7
  obtain ⟨h0, hi, hs⟩ := hl
  have hts := C.2.2.2.2.2.2.2.1
  have hU := C.2.2.2.2.2.2.2.2.1
  have hM := met_of h0.2.2.2.1 hcat (Nat.le_of_ble_eq_true hlen) hc l B D cA
  have hpre := ax_pre (As := As) hH hF hU
  obtain ⟨hR1, hR2⟩ := ax_room (a1 := a1) (a2 := a2) h0 hdd C.2.2.2.2.2.2.2.2.2.1 C.2.2.2.2.2.2.2.2.2.2
  have hsz : ls'.size = M.2.2.1 := hL.1
  have hdesc : ∀ sig, parseMethodDescriptor M'.1.desc = some sig → As.length = sig.parameters.length := fun sig h => by
    have h2 := h0.2.2.1.2.2
    rw [h] at h2
    exact (Option.some.inj h2).symm
  have hr : va_Run p l e R s m args below meth c H locs cells slots a1 a2 (F0 m pc ls' ((As.reverse ++ st).map (ax_v B))) (st.map (ax_v B)) (ax_Q B D cA P' (As.map (ax_v B)).toArray) (fun a => B.1 ≤ a) := by
    have hstack : (F0 m pc ls' ((As.reverse ++ st).map (ax_v B))).stack = (As.map (ax_v B)).reverse ++ st.map (ax_v B) := by simp [List.map_append, List.map_reverse]
    rcases hi with hi | ⟨host, hi⟩
    · exact va_runS (As := As.map (ax_v B)) ⟨C.1, C.2.1, C.2.2.1, C.2.2.2.2.2.1, hts⟩ hM ⟨⟨rfl, rfl, hR1, hR2, ws_pay hts h0.1, List.mem_cons_self, hts _ h0.1, hts _ h0.2.1, ⟨h0.2.2.1.1, h0.2.2.1.2.1⟩, hdesc, hts _ hi⟩, hts _ hs⟩ hpre rfl (by simp) hsz hstack (ax_hW hst) hd ⟨by omega, by omega⟩
    · exact va_runSN (As := As.map (ax_v B)) ⟨C.1, C.2.1, C.2.2.1, C.2.2.2.2.2.1, hts⟩ hM ⟨⟨⟨rfl, rfl, hR1, hR2, ws_pay hts h0.1, List.mem_cons_self⟩, hts _ h0.1, hts _ h0.2.1, ⟨h0.2.2.1.1, h0.2.2.1.2.1⟩, hdesc, va_Nw.use (NB_on hi) (hU.2.1 _ hi)⟩, hts _ hs, trivial⟩ hpre rfl (by simp) hsz hstack (ax_hW hst) hd ⟨by omega, by omega⟩
  exact ax_go hr hF fun r w' n' H' locs' hp hH' hF' => kk r w' n' hp B D cA p l e R s m args below meth c H' locs' ls' (cells + a1) (slots + a2) mc ms C hH' hF' hL (by omega) (by omega) h6 h7
/-- a method of an object of ours -/
theorem x_cv {M' : ax_M} {d' a1 a2 idx b ci N : Nat} {T : u_T} {fs As : List Value} {P' : Option Value → ax_W → Nat → Prop} (hd : decode M.2.1 pc = .ok (.invokevirtual idx, 3)) (hl : LkV M.1.cls idx M' As.length) (hw : w b = ao ci fs) (hcl : vwCl[ci]? = some (M'.1.cls, T, N)) (hdd : d' < d) (hcat : cat1 As = true) (hlen : Nat.blt As.length M'.2.2.1 = true) (hst : Nat.ble (st.map fun v => v.category).sum 8 = true) (hc : Run M' d' a1 a2 0 (l_ent M' (.ref b :: As)) [] w n P') (kk : ∀ r w' n', P' r w' n' → Run M d q1 q2 (pc + 3) ls (r.toList ++ st) w' n' P) : Run M d (a1 + q1) (a2 + q2) pc ls (As.reverse ++ .ref b :: st) w n P := by
  intro B D cA p l e R s m args below meth c H locs ls' cells slots mc ms C hH hF hL h4 h5 h6 h7
  obtain ⟨h0, hi, hin, hse⟩ := hl
  have hts := C.2.2.2.2.2.2.2.1
  have hU := C.2.2.2.2.2.2.2.2.1
  have hlen' : As.length < M'.2.2.1 := by simpa using hlen
  have hM := met_of h0.2.2.2.1 (As := .ref b :: As) (by simpa [cat1, Value.category] using hcat) (by simp; omega) hc l B D cA
  have hpre := ax_pre (As := .ref b :: As) hH hF hU
  obtain ⟨ha, hat⟩ := hH.at hw (ax_live_o hcl)
  have hrecv := va_recv hU.1 (va_P_one hat) hcl (q0 := 0) rfl
  obtain ⟨hR1, hR2⟩ := ax_room (a1 := a1) (a2 := a2) h0 hdd C.2.2.2.2.2.2.2.2.2.1 C.2.2.2.2.2.2.2.2.2.2
  have hsz : ls'.size = M.2.2.1 := hL.1
  have hdesc : ∀ sig, parseMethodDescriptor M'.1.desc = some sig → As.length = sig.parameters.length := fun sig h => by
    have h2 := h0.2.2.1.2.2
    rw [h] at h2
    exact (Option.some.inj h2).symm
  have hr : va_Run p l e R s m args below meth c H locs cells slots a1 a2 (F0 m pc ls' ((As.reverse ++ .ref b :: st).map (ax_v B))) (st.map (ax_v B)) (ax_Q B D cA P' ((Value.ref b :: As).map (ax_v B)).toArray) (fun a => B.1 ≤ a) := by
    have hstack : (F0 m pc ls' ((As.reverse ++ .ref b :: st).map (ax_v B))).stack = (As.map (ax_v B)).reverse ++ .ref (B.1 + b) :: st.map (ax_v B) := by simp [List.map_append, List.map_reverse, ax_v]
    rcases hi with hi | ⟨host, hi⟩
    · exact va_runV (As := As.map (ax_v B)) ⟨C.1, C.2.1, C.2.2.1, C.2.2.2.2.2.1, hts⟩ hM ⟨⟨rfl, rfl, hR1, hR2, ws_pay hts h0.1, List.mem_cons_self, hts _ h0.1, hts _ h0.2.1, ⟨h0.2.2.1.1, h0.2.2.1.2.1⟩, hdesc, hts _ hi⟩, hts _ hin, hts _ hse⟩ ⟨hpre.1, hrecv, hpre.2⟩ rfl (by simp) hsz hstack (ax_hW hst) hd ⟨by omega, by omega⟩
    · exact va_runVN (As := As.map (ax_v B)) ⟨C.1, C.2.1, C.2.2.1, C.2.2.2.2.2.1, hts⟩ hM ⟨⟨⟨rfl, rfl, hR1, hR2, ws_pay hts h0.1, List.mem_cons_self⟩, hts _ h0.1, hts _ h0.2.1, ⟨h0.2.2.1.1, h0.2.2.1.2.1⟩, hdesc, va_Nw.use (NB_on hi) (hU.2.1 _ hi)⟩, hts _ hin, hts _ hse⟩ ⟨hpre.1, hrecv, hpre.2⟩ rfl (by simp) hsz hstack (ax_hW hst) hd ⟨by omega, by omega⟩
  exact ax_go hr hF fun r w' n' H' locs' hp hH' hF' => kk r w' n' hp B D cA p l e R s m args below meth c H' locs' ls' (cells + a1) (slots + a2) mc ms C hH' hF' hL (by omega) (by omega) h6 h7
/-- a constructor of ours -/
theorem x_ci {M' : ax_M} {d' a1 a2 idx b : Nat} {As : List Value} {P' : Option Value → ax_W → Nat → Prop} (hd : decode M.2.1 pc = .ok (.invokespecial idx, 3)) (hl : LkN M.1.cls idx M' As.length) (hdd : d' < d) (hcat : cat1 As = true) (hlen : Nat.blt As.length M'.2.2.1 = true) (hst : Nat.ble (st.map fun v => v.category).sum 8 = true) (hc : Run M' d' a1 a2 0 (l_ent M' (.ref b :: As)) [] w n P') (kk : ∀ r w' n', P' r w' n' → Run M d q1 q2 (pc + 3) ls (r.toList ++ st) w' n' P) : Run M d (a1 + q1) (a2 + q2) pc ls (As.reverse ++ .ref b :: st) w n P := by
  intro B D cA p l e R s m args below meth c H locs ls' cells slots mc ms C hH hF hL h4 h5 h6 h7
  obtain ⟨h0, hi, hnm, hret, hin⟩ := hl
  obtain ⟨y, bytes, maxL, ret⟩ := M'
  have hret' : ret = none := hret
  subst hret'
  have hts := C.2.2.2.2.2.2.2.1
  have hU := C.2.2.2.2.2.2.2.2.1
  have hlen' : As.length < maxL := by simpa using hlen
  have hM := met_of h0.2.2.2.1 (As := .ref b :: As) (by simpa [cat1, Value.category] using hcat) (by show As.length + 1 ≤ maxL; omega) hc l B D cA
  have hpre := ax_pre (As := .ref b :: As) hH hF hU
  obtain ⟨hR1, hR2⟩ := ax_room (a1 := a1) (a2 := a2) h0 hdd C.2.2.2.2.2.2.2.2.2.1 C.2.2.2.2.2.2.2.2.2.2
  have hsz : ls'.size = M.2.2.1 := hL.1
  have hdesc : ∀ sig, parseMethodDescriptor y.desc = some sig → As.length = sig.parameters.length := fun sig h => by
    have h2 := h0.2.2.1.2.2
    rw [h] at h2
    exact (Option.some.inj h2).symm
  have hr : va_Run p l e R s m args below meth c H locs cells slots a1 a2 (F0 m pc ls' ((As.reverse ++ .ref b :: st).map (ax_v B))) (st.map (ax_v B)) (ax_Q B D cA P' ((Value.ref b :: As).map (ax_v B)).toArray) (fun a => B.1 ≤ a) := by
    have hstack : (F0 m pc ls' ((As.reverse ++ .ref b :: st).map (ax_v B))).stack = (As.map (ax_v B)).reverse ++ .ref (B.1 + b) :: st.map (ax_v B) := by simp [List.map_append, List.map_reverse, ax_v]
    rcases hi with hi | ⟨host, hi⟩
    · exact va_runI (As := As.map (ax_v B)) ⟨C.1, C.2.1, C.2.2.1, C.2.2.2.2.2.1, hts⟩ hM ⟨⟨rfl, rfl, hR1, hR2, ws_pay hts h0.1, List.mem_cons_self, hts _ h0.1, hts _ h0.2.1, ⟨h0.2.2.1.1, h0.2.2.1.2.1⟩, hdesc, hts _ hi⟩, hnm, hts _ hin⟩ hpre rfl (by simp) hsz hstack (ax_hW hst) hd ⟨by omega, by omega⟩
    · exact va_runIN (As := As.map (ax_v B)) ⟨C.1, C.2.1, C.2.2.1, C.2.2.2.2.2.1, hts⟩ hM ⟨⟨⟨rfl, rfl, hR1, hR2, ws_pay hts h0.1, List.mem_cons_self⟩, hts _ h0.1, hts _ h0.2.1, ⟨h0.2.2.1.1, h0.2.2.1.2.1⟩, hdesc, va_Nw.use (NB_on hi) (hU.2.1 _ hi)⟩, hnm, hts _ hin⟩ hpre rfl (by simp) hsz hstack (ax_hW hst) hd ⟨by omega, by omega⟩
  exact ax_go hr hF fun r w' n' H' locs' hp hH' hF' => kk r w' n' hp B D cA p l e R s m args below meth c H' locs' ls' (cells + a1) (slots + a2) mc ms C hH' hF' hL (by omega) (by omega) h6 h7
theorem x_objInit {idx a : Nat} (hd : decode M.2.1 pc = .ok (.invokespecial idx, 3)) (h1 : Cond.methodLink M.1.cls idx objectInit ∈ TB) (h2 : Cond.instanceMethod objectInit ∈ TB) (h3 : Cond.code objectInit ⟨#[0xb1]⟩ 1 none ∈ TB) (hdd : 0 < d) (hst : Nat.ble (st.map fun v => v.category).sum 8 = true) (kk : Run M d q1 q2 (pc + 3) ls st w n P) : Run M d q1 q2 pc ls (.ref a :: st) w n P := by
  intro B D cA p l e R s m args below meth c H locs ls' cells slots mc ms C hH hF hL h4 h5 h6 h7
  have hts := C.2.2.2.2.2.2.2.1
  have hsz : ls'.size = M.2.2.1 := hL.1
  have hfr := C.2.2.2.2.2.2.2.2.2.1
  have hlo := C.2.2.2.2.2.2.2.2.2.2
  refine W.objInit (a := B.1 + a) (rest := st.map (ax_v B)) C.1 C.2.1 C.2.2.2.2.2.1 (hts _ h1) (hts _ h2) (hts _ h3) rfl (hsz.trans C.2.2.1.symm) rfl hd (by omega) ?_ ?_
  · have := ax_hW (B := B) (m := m) (pc := pc) (ls' := ls') (st0 := []) hst
    change 2 * 0 + _ ≤ _ at this
    show 2 * 0 + _ + 12 ≤ _
    omega
  · exact kk B D cA p l e R s m args below meth c H locs ls' cells slots mc ms C hH hF hL h4 h5 h6 h7
/-! new cells -/
theorem ax_H.push {B : ax_B} {D : va_G} {cA : FieldType → ClassId} {H H1 : Heap} {x : ax_C} (h : ax_H B D cA w n H) (h1 : va_at D vwCl (B.1 + n, ax_e B cA x) H1) (hz : H1.size = H.size + 1) (hq : ∀ q, q < H.size → H1[q]? = H[q]?) : ax_H B D cA (ax_up w n x) (n + 1) H1 := by
  have h0 := h.1
  refine ⟨by rw [hz, h0]; omega, fun k hk => ?_, fun k hk => by rw [up_ne _ _ (by omega)]; exact h.2.2 k (by omega)⟩
  by_cases hka : k = n
  · subst hka
    rw [up_same]
    exact h1
  · rw [up_ne _ _ hka]
    exact (h.2.1 k (by omega)).kept (hq _ (by show B.1 + k < H.size; omega))
theorem ax_F.push {B : ax_B} {D : va_G} {cA : FieldType → ClassId} {s : State} {H H1 : Heap} {locs : List Loc} (h : ax_F B s H locs) (hH : ax_H B D cA w n H) (hq : ∀ q, q < H.size → H1[q]? = H[q]?) : ax_F B s H1 locs := by
  have h0 := hH.1
  exact ⟨fun q h1 => by rw [hq q (by omega)]; exact h.1 q h1, h.2⟩
theorem x_new {idx ci N : Nat} {C : String} {T : u_T} {fs : List Value} (hd : decode M.2.1 pc = .ok (.new idx, 3)) (hcl : vwCl[ci]? = some (C, T, N)) (h1 : Cond.classLink M.1.cls idx C ∈ TB) (h2 : Cond.instantiable C N ∈ TB) (h3 : Cond.initialized C ∈ TB) (hfs : ∀ ty : Nat → FieldType, (∀ k, k < N → parseFieldDescriptor (T k).2.2.1 = some (ty k)) → ∀ j, j < N → defaultValue (ty j) = vp_V fs j) (hfs0 : ∀ B, fs.map (ax_v B) = fs) (kk : Run M d q1 q2 (pc + 3) ls (.ref n :: st) (ax_up w n (ao ci fs)) (n + 1) P) : Run M d (1 + q1) (N + q2) pc ls st w n P := by
  intro B D cA p l e R s m args below meth c H locs ls' cells slots mc ms X hH hF hL h4 h5 h6 h7
  have hts := X.2.2.2.2.2.2.2.1
  have hU := X.2.2.2.2.2.2.2.2.1
  obtain ⟨c1, c2, ty0, c3⟩ := ClOk_all hcl
  have hKn := hU.1.1 ci _ hcl
  have e5 : (Value.ref n :: st).map (ax_v B) = .ref (B.1 + n) :: st.map (ax_v B) := rfl
  refine W.newcK X.1 X.2.1 X.2.2.2.2.2.1 (hts _ h1) (hts _ h2) (hts _ h3) rfl hd (by omega) (by omega) hKn.2.1 hH.1 fun H1 kC hkC e1 z1 o1 => ?_
  have o1' : ∀ q, q < H.size → H1[q]? = H[q]? := fun q hq => o1 q (by rw [hH.1] at hq; exact hq)
  have hat : va_at D vwCl (B.1 + n, ax_e B cA (ao ci fs)) H1 := by
    refine ⟨_, hcl, ?_⟩
    show t_OB _ _ _ _ _ (vp_V (fs.map (ax_v B)))
    rw [hfs0]
    exact (u_born ty0 hts c1 hKn hkC e1 c3).to (hfs ty0 c3)
  exact kk B D cA p l e R s m args below meth c H1 locs ls' (cells + 1) (slots + N) mc ms X (hH.push hat (by rw [z1, hH.1]) o1') (hF.push hH o1') hL (by omega) (by omega) h6 h7
theorem ni_pos {N : Nat} (hN : N < 2147483648) : ¬ nI N < 0 := by
  intro h
  have := Int32.lt_iff_toInt_lt.mp h
  rw [show (nI N).toInt = (N : Int) from Int32.toInt_ofNat_of_lt (by omega)] at this
  simp at this
  omega
theorem ni_cl {N : Nat} (hN : N < 2147483648) : (nI N).toNatClampNeg = N := by
  show ((nI N).toInt).toNat = N
  rw [show (nI N).toInt = (N : Int) from Int32.toInt_ofNat_of_lt (by omega)]
  rfl
theorem x_newa {at_ : ArrayType} {ty : FieldType} {N : Nat} (hty : (at_ = .int ∧ ty = .int) ∨ (at_ = .byte ∧ ty = .byte)) (hd : decode M.2.1 pc = .ok (.newarray at_, 2)) (h1 : Cond.arrayClass ty ∈ TB) (hN : N < 100000) (kk : Run M d q1 q2 (pc + 2) ls (.ref n :: st) (ax_up w n (.inl (ty, N, fun _ => 0))) (n + 1) P) : Run M d (1 + q1) (N + q2) pc ls (.int (nI N) :: st) w n P := by
  intro B D cA p l e R s m args below meth c H locs ls' cells slots mc ms X hH hF hL h4 h5 h6 h7
  have hts := X.2.2.2.2.2.2.2.1
  have hU := X.2.2.2.2.2.2.2.2.1
  have hn : ¬ nI N < 0 := ni_pos (by omega)
  have hNN : (nI N).toNatClampNeg = N := ni_cl (by omega)
  rcases hty with ⟨rfl, rfl⟩ | ⟨rfl, rfl⟩
  · refine va_newaK (atype := .int) X.1 X.2.1 (hts _ h1) rfl hd rfl hn hNN (by show N * 4 ≤ _; omega) (by omega) (by omega) hH.1 fun H1 c0 e1 z1 o1 hAr hNm => ?_
    have hcA : c0 = cA .int := Option.some.inj (hNm.symm.trans (hU.1.2 0 _ rfl).2)
    subst hcA
    have o1' : ∀ q, q < H.size → H1[q]? = H[q]? := fun q hq => o1 q (by rw [hH.1] at hq; exact hq)
    exact kk B D cA p l e R s m args below meth c H1 locs ls' (cells + 1) (slots + N) mc ms X (hH.push e1 (by rw [z1, hH.1]) o1') (hF.push hH o1') hL (by omega) (by omega) h6 h7
  · refine va_newaK (atype := .byte) X.1 X.2.1 (hts _ h1) rfl hd rfl hn hNN (by show N * 1 ≤ _; omega) (by omega) (by omega) hH.1 fun H1 c0 e1 z1 o1 hAr hNm => ?_
    have hcA : c0 = cA .byte := Option.some.inj (hNm.symm.trans (hU.1.2 1 _ rfl).2)
    subst hcA
    have o1' : ∀ q, q < H.size → H1[q]? = H[q]? := fun q hq => o1 q (by rw [hH.1] at hq; exact hq)
    exact kk B D cA p l e R s m args below meth c H1 locs ls' (cells + 1) (slots + N) mc ms X (hH.push e1 (by rw [z1, hH.1]) o1') (hF.push hH o1') hL (by omega) (by omega) h6 h7
theorem x_newq {idx N : Nat} (hd : decode M.2.1 pc = .ok (.anewarray idx, 3)) (h1 : Cond.classLink M.1.cls idx RX1 ∈ TB) (hN : N < 100000) (kk : Run M d q1 q2 (pc + 3) ls (.ref n :: st) (ax_up w n (aq N (fun _ => none))) (n + 1) P) : Run M d (1 + q1) (N + q2) pc ls (.int (nI N) :: st) w n P := by
  intro B D cA p l e R s m args below meth c H locs ls' cells slots mc ms X hH hF hL h4 h5 h6 h7
  have hts := X.2.2.2.2.2.2.2.1
  have hU := X.2.2.2.2.2.2.2.2.1
  have hn : ¬ nI N < 0 := ni_pos (by omega)
  have hNN : (nI N).toNatClampNeg = N := ni_cl (by omega)
  refine W.anew X.1 X.2.1 X.2.2.2.2.2.1 (hts _ h1) (va_AO.use hU.2.2.2.2) rfl hd rfl hn (by rw [hNN]; omega) (by omega) (by rw [hNN]; omega) fun c0 kA comp f1 f2 f3 f4 => ?_
  generalize hH1 : H.push ({ cls := c0, slots := Array.replicate (nI N).toNatClampNeg .null, vm := .none } : Cell) = H1
  have z1 : H1.size = H.size + 1 := by rw [← hH1, Array.size_push]
  have e1 : H1[H.size]? = some (arrV c0 N (fun _ => .null)) := by rw [← hH1, Array.getElem?_push_size, hNN, ← arrV_new]
  have o1 : ∀ q : Nat, q < H.size → H1[q]? = H[q]? := fun q hq => by rw [← hH1, Array.getElem?_push, if_neg (Nat.ne_of_lt hq)]
  obtain ⟨kA', comp', g1, g2, g3, g4⟩ := (hU.1.2 2 _ rfl).2
  have hcA : c0 = cA ty_H := by first | exact Option.some.inj (f1.symm.trans g4) | exact Option.some.inj (f4.symm.trans g4)
  subst hcA
  have h8 := kk B D cA p l e R s m args below meth c H1 locs ls' (cells + 1) (slots + N) mc ms X (hH.push (x := aq N (fun _ => none)) (by
    show H1[B.1 + n]? = _
    rw [← hH.1]
    exact e1) z1 o1) (hF.push hH o1) hL (by omega) (by omega) h6 h7
  rw [hNN]
  have e5 : (Value.ref n :: st).map (ax_v B) = .ref H.size :: st.map (ax_v B) := by rw [hH.1]; rfl
  rw [e5] at h8
  exact h8
/-- System.arraycopy between int arrays -/
theorem x_copy {idx a0 a1 n0 n1 : Nat} {f g : Nat → Int32} {sp dp k : Int32} (hd : decode M.2.1 pc = .ok (.invokestatic idx, 3)) (h1 : Cond.methodLink M.1.cls idx arraycopyName ∈ TB) (h2 : Cond.native arraycopyName ∈ TB) (h3 : Cond.static arraycopyName ∈ TB) (hi : Cond.initialized "java/lang/System" ∈ TB) (hw0 : w a0 = ai n0 f) (hw1 : w a1 = ai n1 g)
    (g1 : ¬ sp < 0) (g2 : ¬ dp < 0) (g3 : ¬ k < 0) (g4 : sp.toNatClampNeg + k.toNatClampNeg ≤ n0) (g5 : dp.toNatClampNeg + k.toNatClampNeg ≤ n1) (hdd : 2 ≤ d) (hst : Nat.ble (st.map fun v => v.category).sum 8 = true)
    (kk : Run M d q1 q2 (pc + 3) ls st (ax_up w a1 (ai n1 (va_cpy f g sp.toNatClampNeg dp.toNatClampNeg k.toNatClampNeg))) n P) : Run M d q1 q2 pc ls (.int k :: .int dp :: .ref a1 :: .int sp :: .ref a0 :: st) w n P := by
  intro B D cA p l e R s m args below meth c H locs ls' cells slots mc ms C hH hF hL h4 h5 h6 h7
  have hts := C.2.2.2.2.2.2.2.1
  have hK := C.2.2.2.2.2.2.2.2.1.1
  have hfr := C.2.2.2.2.2.2.2.2.2.1
  have hlo := C.2.2.2.2.2.2.2.2.2.2
  obtain ⟨ha0, hat0⟩ := hH.at hw0 ax_live_i
  obtain ⟨ha1, hat1⟩ := hH.at hw1 ax_live_i
  have nn : ∀ z : Int32, ¬ z < 0 → z.toInt = (z.toNatClampNeg : Int) := by
    intro z hz
    have hz0 : (0 : Int) ≤ z.toInt := by
      have := Int32.not_lt.mp hz
      simpa using Int32.le_iff_toInt_le.mp this
    show z.toInt = ((z.toInt.toNat : Nat) : Int)
    omega
  intro T hT X
  have hc0 : H[B.1 + a0]? = some (vp_cell (cA .int) (n0, .inl f)) := hat0
  have hc1 : H[B.1 + a1]? = some (vp_cell (cA .int) (n1, .inl g)) := hat1
  obtain ⟨-, k0, hk0, cm0, hkk0⟩ := (hK.2 0 _ rfl).1 n0 (fun j => .int (f j))
  have hsum := ax_hW (B := B) (m := m) (pc := pc) (ls' := ls') (st0 := []) hst
  obtain ⟨vm', X', step⟩ := X.arraycopy C.1 C.2.2.2.2.2.1 (hts _ h1) (hts _ h2) (hts _ h3) (hts _ hi) (src := B.1 + a0) (dst := B.1 + a1) (cs := vp_cell (cA .int) (n0, .inl f)) (cd := vp_cell (cA .int) (n1, .inl g)) (srcPos := sp) (destPos := dp) (n := k) (by rw [hT]; exact hc0) (by rw [hT]; exact hc1)
    (fun _ h => by cases h) (fun _ h => by cases h) (fun h => by cases h) (fun h => by cases h) hk0 hk0 hkk0 hkk0 (by simp [refKind]) g1 g2 g3
    (by rw [nn sp g1, nn k g3]; show ¬ _ > ((arrV (cA .int) n0 (fun j => .int (f j))).slots.size : Int); rw [arrV_size]; omega)
    (by rw [nn dp g2, nn k g3]; show ¬ _ > ((arrV (cA .int) n1 (fun j => .int (g j))).slots.size : Int); rw [arrV_size]; omega)
    (fun vm₁ _ i hi => by
      have e : (vp_cell (cA .int) (n0, .inl f)).slots.getD (sp.toNatClampNeg + i) .null = .int (f (sp.toNatClampNeg + i)) := by
        show (arrV (cA .int) n0 (fun j => .int (f j))).slots.getD _ _ = _
        rw [Array.getD_eq_getD_getElem?, arrV_read _ _ (by omega)]
        rfl
      refine ⟨?_, ?_⟩
      · rw [e]
        rfl
      · rw [e]
        exact trivial)
    (g := F0 m pc ls' (.int k :: .int dp :: .ref (B.1 + a1) :: .int sp :: .ref (B.1 + a0) :: st.map (ax_v B))) rfl (by rw [C.2.2.1]; exact hL.1) (rest := st.map (ax_v B)) rfl (by rw [C.2.1]; exact hd) (by omega) (by
      change 2 * 0 + _ ≤ _ at hsum
      show 2 * 0 + _ + (nativeFrameWords "java/lang/System" "arraycopy" 5 + 11) ≤ _
      have hnf : nativeFrameWords "java/lang/System" "arraycopy" 5 ≤ 60 := by decide +kernel
      omega)
  have e1 : copied (vp_cell (cA .int) (n0, .inl f)) (vp_cell (cA .int) (n1, .inl g)) sp dp k = vp_cell (cA .int) (n1, .inl (va_cpy f g sp.toNatClampNeg dp.toNatClampNeg k.toNatClampNeg)) := va_copied (fun z => .int z) (cA .int) (cA .int) f g g4
  rw [e1] at X' step
  have hl : B.1 + a1 < H.size := (Array.getElem?_eq_some_iff.mp hc1).1
  have hheap : ((T.setVm vm').setCell (B.1 + a1) (vp_cell (cA .int) (n1, .inl (va_cpy f g sp.toNatClampNeg dp.toNatClampNeg k.toNatClampNeg)))).heap = H.setIfInBounds (B.1 + a1) (vp_cell (cA .int) (n1, .inl (va_cpy f g sp.toNatClampNeg dp.toNatClampNeg k.toNatClampNeg))) := by rw [← hT]; rfl
  have oq : ∀ q : Nat, q ≠ B.1 + a1 → (H.setIfInBounds (B.1 + a1) (vp_cell (cA .int) (n1, .inl (va_cpy f g sp.toNatClampNeg dp.toNatClampNeg k.toNatClampNeg))))[q]? = H[q]? := fun q hq => by simp [Array.getElem?_setIfInBounds, Ne.symm hq]
  obtain ⟨t, a1', b1⟩ := kk B D cA p l e R s m args below meth c _ _ ls' cells slots mc ms C (hH.put ha1 (show (H.setIfInBounds (B.1 + a1) _)[B.1 + a1]? = some _ by simp [Array.getElem?_setIfInBounds, hl]) (by simp) oq) (by
    refine ⟨fun q h => by rw [oq q (by omega)]; exact hF.1 q h, fun q hq => ?_⟩
    rcases List.mem_append.mp hq with h | h
    · exact hF.2 q h
    · obtain ⟨z, -, hz⟩ := List.mem_map.mp h
      rw [← hz]
      exact Nat.le_add_right _ _) hL h4 h5 h6 h7 _ hheap X'
  exact ⟨t, step t a1', b1⟩
theorem x_ldc {idx : Nat} {v : Int32} (hd : decode M.2.1 pc = .ok (.ldc idx, 2)) (h : Cond.constant M.1.cls idx v ∈ TB) (kk : Run M d q1 q2 (pc + 2) ls (.int v :: st) w n P) : Run M d q1 q2 pc ls st w n P := by
  intro B D cA p l e R s m args below meth c H locs ls' cells slots mc ms C hH hF hL h4 h5 h6 h7
  exact lv_ldc C.1 C.2.1 C.2.2.2.2.2.1 (C.2.2.2.2.2.2.2.1 _ h) hd (kk B D cA p l e R s m args below meth c H locs ls' cells slots mc ms C hH hF hL h4 h5 h6 h7)
theorem x_ldc2 {idx : Nat} {v : Int64} (hd : decode M.2.1 pc = .ok (.ldc2_w idx, 3)) (h : Cond.constantLong M.1.cls idx v ∈ TB) (kk : Run M d q1 q2 (pc + 3) ls (.long v :: st) w n P) : Run M d q1 q2 pc ls st w n P := by
  intro B D cA p l e R s m args below meth c H locs ls' cells slots mc ms C hH hF hL h4 h5 h6 h7
  exact lv_ldc2 C.1 C.2.1 C.2.2.2.2.2.1 (C.2.2.2.2.2.2.2.1 _ h) hd (kk B D cA p l e R s m args below meth c H locs ls' cells slots mc ms C hH hF hL h4 h5 h6 h7)
theorem x_ldcS (hd : decode M.2.1 pc = .ok (.ldc 62, 2)) (ho : M.1.cls = RX6) (kk : Run M d q1 q2 (pc + 2) ls (.float 0 :: st) w n P) : Run M d q1 q2 pc ls st w n P := by
  intro B D cA p l e R s m args below meth c H locs ls' cells slots mc ms C hH hF hL h4 h5 h6 h7
  exact va_ldcS C.1 C.2.1 C.2.2.2.2.2.1 (by rw [ho]; exact C.2.2.2.2.2.2.2.2.1.2.2.2.1.2.1) hd (kk B D cA p l e R s m args below meth c H locs ls' cells slots mc ms C hH hF hL h4 h5 h6 h7)
/-- an answer v that leaves the world as it is -/
abbrev Pu (v : Value) (w : ax_W) (n : Nat) : Option Value → ax_W → Nat → Prop := fun r w' n' => r = some v ∧ w' = w ∧ n' = n
theorem pu_kk {P' : Option Value → ax_W → Nat → Prop} {v : Value} (kk : Run M d q1 q2 pc ls (v :: st) w n P) : ∀ r w' n', Pu v w n r w' n' → Run M d q1 q2 pc ls (r.toList ++ st) w' n' P := by
  intro r w' n' hp
  obtain ⟨h1, h2, h3⟩ := hp
  subst h1 h2 h3
  exact kk
theorem zz_room {a : Nat} : 0 + a = a := Nat.zero_add a
theorem x_mmax {idx : Nat} {x y : Int32} (hd : decode M.2.1 pc = .ok (.invokestatic idx, 3)) (h1 : Cond.methodLink M.1.cls idx Lib.Math.max.name ∈ TB) (h2 : Cond.static Lib.Math.max.name ∈ TB) (h3 : Cond.initialized "java/lang/Math" ∈ TB) (h4 : Cond.code Lib.Math.max.name Lib.Math.max.code 2 (some .int) ∈ TB) (hdd : 0 < d) (hst : Nat.ble (st.map fun v => v.category).sum 8 = true) (kk : Run M d q1 q2 (pc + 3) ls (.int (if x < y then y else x) :: st) w n P) : Run M d q1 q2 pc ls (.int y :: .int x :: st) w n P := by
  intro B D cA p l e R s m args below meth c H locs ls' cells slots mc ms C hH hF hL g4 g5 g6 g7
  have hts := C.2.2.2.2.2.2.2.1
  have hfr := C.2.2.2.2.2.2.2.2.2.1
  have hlo := C.2.2.2.2.2.2.2.2.2.2
  have hsum := ax_hW (B := B) (m := m) (pc := pc) (ls' := ls') (st0 := []) hst
  change 2 * 0 + _ ≤ _ at hsum
  exact va_mmax C.1 C.2.1 (C.2.2.1.trans hL.1.symm) C.2.2.2.2.2.1 (hts _ h1) (hts _ h2) (hts _ h3) (hts _ h4) (by omega) (by omega) (by omega) (by omega) hd (kk B D cA p l e R s m args below meth c H locs ls' cells slots mc ms C hH hF hL g4 g5 g6 g7)
theorem x_mmin {idx : Nat} {x y : Int32} (hd : decode M.2.1 pc = .ok (.invokestatic idx, 3)) (h1 : Cond.methodLink M.1.cls idx Lib.Math.min.name ∈ TB) (h2 : Cond.static Lib.Math.min.name ∈ TB) (h3 : Cond.initialized "java/lang/Math" ∈ TB) (h4 : Cond.code Lib.Math.min.name Lib.Math.min.code 2 (some .int) ∈ TB) (hdd : 0 < d) (hst : Nat.ble (st.map fun v => v.category).sum 8 = true) (kk : Run M d q1 q2 (pc + 3) ls (.int (if y < x then y else x) :: st) w n P) : Run M d q1 q2 pc ls (.int y :: .int x :: st) w n P := by
  intro B D cA p l e R s m args below meth c H locs ls' cells slots mc ms C hH hF hL g4 g5 g6 g7
  have hts := C.2.2.2.2.2.2.2.1
  have hfr := C.2.2.2.2.2.2.2.2.2.1
  have hlo := C.2.2.2.2.2.2.2.2.2.2
  have hsum := ax_hW (B := B) (m := m) (pc := pc) (ls' := ls') (st0 := []) hst
  change 2 * 0 + _ ≤ _ at hsum
  exact va_mmin C.1 C.2.1 (C.2.2.1.trans hL.1.symm) C.2.2.2.2.2.1 (hts _ h1) (hts _ h2) (hts _ h3) (hts _ h4) (by omega) (by omega) (by omega) (by omega) hd (kk B D cA p l e R s m args below meth c H locs ls' cells slots mc ms C hH hF hL g4 g5 g6 g7)
theorem x_cs0 {M' : ax_M} {d' a1 a2 idx : Nat} {P' : Option Value → ax_W → Nat → Prop} (hd : decode M.2.1 pc = .ok (.invokestatic idx, 3)) (hl : LkS M.1.cls idx M' 0) (hdd : d' < d) (hcat : cat1 [] = true) (hlen : Nat.ble 0 M'.2.2.1 = true) (hst : Nat.ble (st.map fun v => v.category).sum 8 = true) (hc : Run M' d' a1 a2 0 (l_ent M' []) [] w n P') (kk : ∀ r w' n', P' r w' n' → Run M d q1 q2 (pc + 3) ls (r.toList ++ st) w' n' P) : Run M d (a1 + q1) (a2 + q2) pc ls (st) w n P := x_cs (As := []) hd hl hdd hcat hlen hst hc kk
theorem x_cs0p {M' : ax_M} {d' idx : Nat} {v : Value} (hd : decode M.2.1 pc = .ok (.invokestatic idx, 3)) (hl : LkS M.1.cls idx M' 0) (hdd : d' < d) (hcat : cat1 [] = true) (hlen : Nat.ble 0 M'.2.2.1 = true) (hst : Nat.ble (st.map fun v => v.category).sum 8 = true) (hc : Run M' d' 0 0 0 (l_ent M' []) [] w n (Pu v w n)) (kk : Run M d q1 q2 (pc + 3) ls (v :: st) w n P) : Run M d q1 q2 pc ls (st) w n P := by
  have h := x_cs0 (q1 := q1) (q2 := q2) hd hl hdd hcat hlen hst hc (pu_kk (P' := P) kk)
  rwa [Nat.zero_add, Nat.zero_add] at h
theorem x_cs1 {M' : ax_M} {d' a1 a2 idx : Nat} {y0 : Value} {P' : Option Value → ax_W → Nat → Prop} (hd : decode M.2.1 pc = .ok (.invokestatic idx, 3)) (hl : LkS M.1.cls idx M' 1) (hdd : d' < d) (hcat : cat1 [y0] = true) (hlen : Nat.ble 1 M'.2.2.1 = true) (hst : Nat.ble (st.map fun v => v.category).sum 8 = true) (hc : Run M' d' a1 a2 0 (l_ent M' [y0]) [] w n P') (kk : ∀ r w' n', P' r w' n' → Run M d q1 q2 (pc + 3) ls (r.toList ++ st) w' n' P) : Run M d (a1 + q1) (a2 + q2) pc ls (y0 :: st) w n P := x_cs (As := [y0]) hd hl hdd hcat hlen hst hc kk
theorem x_cs1p {M' : ax_M} {d' idx : Nat} {y0 : Value} {v : Value} (hd : decode M.2.1 pc = .ok (.invokestatic idx, 3)) (hl : LkS M.1.cls idx M' 1) (hdd : d' < d) (hcat : cat1 [y0] = true) (hlen : Nat.ble 1 M'.2.2.1 = true) (hst : Nat.ble (st.map fun v => v.category).sum 8 = true) (hc : Run M' d' 0 0 0 (l_ent M' [y0]) [] w n (Pu v w n)) (kk : Run M d q1 q2 (pc + 3) ls (v :: st) w n P) : Run M d q1 q2 pc ls (y0 :: st) w n P := by
  have h := x_cs1 (q1 := q1) (q2 := q2) hd hl hdd hcat hlen hst hc (pu_kk (P' := P) kk)
  rwa [Nat.zero_add, Nat.zero_add] at h
theorem x_cs2 {M' : ax_M} {d' a1 a2 idx : Nat} {y0 y1 : Value} {P' : Option Value → ax_W → Nat → Prop} (hd : decode M.2.1 pc = .ok (.invokestatic idx, 3)) (hl : LkS M.1.cls idx M' 2) (hdd : d' < d) (hcat : cat1 [y0, y1] = true) (hlen : Nat.ble 2 M'.2.2.1 = true) (hst : Nat.ble (st.map fun v => v.category).sum 8 = true) (hc : Run M' d' a1 a2 0 (l_ent M' [y0, y1]) [] w n P') (kk : ∀ r w' n', P' r w' n' → Run M d q1 q2 (pc + 3) ls (r.toList ++ st) w' n' P) : Run M d (a1 + q1) (a2 + q2) pc ls (y1 :: y0 :: st) w n P := x_cs (As := [y0, y1]) hd hl hdd hcat hlen hst hc kk
theorem x_cs2p {M' : ax_M} {d' idx : Nat} {y0 y1 : Value} {v : Value} (hd : decode M.2.1 pc = .ok (.invokestatic idx, 3)) (hl : LkS M.1.cls idx M' 2) (hdd : d' < d) (hcat : cat1 [y0, y1] = true) (hlen : Nat.ble 2 M'.2.2.1 = true) (hst : Nat.ble (st.map fun v => v.category).sum 8 = true) (hc : Run M' d' 0 0 0 (l_ent M' [y0, y1]) [] w n (Pu v w n)) (kk : Run M d q1 q2 (pc + 3) ls (v :: st) w n P) : Run M d q1 q2 pc ls (y1 :: y0 :: st) w n P := by
  have h := x_cs2 (q1 := q1) (q2 := q2) hd hl hdd hcat hlen hst hc (pu_kk (P' := P) kk)
  rwa [Nat.zero_add, Nat.zero_add] at h
theorem x_cs3 {M' : ax_M} {d' a1 a2 idx : Nat} {y0 y1 y2 : Value} {P' : Option Value → ax_W → Nat → Prop} (hd : decode M.2.1 pc = .ok (.invokestatic idx, 3)) (hl : LkS M.1.cls idx M' 3) (hdd : d' < d) (hcat : cat1 [y0, y1, y2] = true) (hlen : Nat.ble 3 M'.2.2.1 = true) (hst : Nat.ble (st.map fun v => v.category).sum 8 = true) (hc : Run M' d' a1 a2 0 (l_ent M' [y0, y1, y2]) [] w n P') (kk : ∀ r w' n', P' r w' n' → Run M d q1 q2 (pc + 3) ls (r.toList ++ st) w' n' P) : Run M d (a1 + q1) (a2 + q2) pc ls (y2 :: y1 :: y0 :: st) w n P := x_cs (As := [y0, y1, y2]) hd hl hdd hcat hlen hst hc kk
theorem x_cs3p {M' : ax_M} {d' idx : Nat} {y0 y1 y2 : Value} {v : Value} (hd : decode M.2.1 pc = .ok (.invokestatic idx, 3)) (hl : LkS M.1.cls idx M' 3) (hdd : d' < d) (hcat : cat1 [y0, y1, y2] = true) (hlen : Nat.ble 3 M'.2.2.1 = true) (hst : Nat.ble (st.map fun v => v.category).sum 8 = true) (hc : Run M' d' 0 0 0 (l_ent M' [y0, y1, y2]) [] w n (Pu v w n)) (kk : Run M d q1 q2 (pc + 3) ls (v :: st) w n P) : Run M d q1 q2 pc ls (y2 :: y1 :: y0 :: st) w n P := by
  have h := x_cs3 (q1 := q1) (q2 := q2) hd hl hdd hcat hlen hst hc (pu_kk (P' := P) kk)
  rwa [Nat.zero_add, Nat.zero_add] at h
theorem x_cs4 {M' : ax_M} {d' a1 a2 idx : Nat} {y0 y1 y2 y3 : Value} {P' : Option Value → ax_W → Nat → Prop} (hd : decode M.2.1 pc = .ok (.invokestatic idx, 3)) (hl : LkS M.1.cls idx M' 4) (hdd : d' < d) (hcat : cat1 [y0, y1, y2, y3] = true) (hlen : Nat.ble 4 M'.2.2.1 = true) (hst : Nat.ble (st.map fun v => v.category).sum 8 = true) (hc : Run M' d' a1 a2 0 (l_ent M' [y0, y1, y2, y3]) [] w n P') (kk : ∀ r w' n', P' r w' n' → Run M d q1 q2 (pc + 3) ls (r.toList ++ st) w' n' P) : Run M d (a1 + q1) (a2 + q2) pc ls (y3 :: y2 :: y1 :: y0 :: st) w n P := x_cs (As := [y0, y1, y2, y3]) hd hl hdd hcat hlen hst hc kk
theorem x_cs4p {M' : ax_M} {d' idx : Nat} {y0 y1 y2 y3 : Value} {v : Value} (hd : decode M.2.1 pc = .ok (.invokestatic idx, 3)) (hl : LkS M.1.cls idx M' 4) (hdd : d' < d) (hcat : cat1 [y0, y1, y2, y3] = true) (hlen : Nat.ble 4 M'.2.2.1 = true) (hst : Nat.ble (st.map fun v => v.category).sum 8 = true) (hc : Run M' d' 0 0 0 (l_ent M' [y0, y1, y2, y3]) [] w n (Pu v w n)) (kk : Run M d q1 q2 (pc + 3) ls (v :: st) w n P) : Run M d q1 q2 pc ls (y3 :: y2 :: y1 :: y0 :: st) w n P := by
  have h := x_cs4 (q1 := q1) (q2 := q2) hd hl hdd hcat hlen hst hc (pu_kk (P' := P) kk)
  rwa [Nat.zero_add, Nat.zero_add] at h
theorem x_cs5 {M' : ax_M} {d' a1 a2 idx : Nat} {y0 y1 y2 y3 y4 : Value} {P' : Option Value → ax_W → Nat → Prop} (hd : decode M.2.1 pc = .ok (.invokestatic idx, 3)) (hl : LkS M.1.cls idx M' 5) (hdd : d' < d) (hcat : cat1 [y0, y1, y2, y3, y4] = true) (hlen : Nat.ble 5 M'.2.2.1 = true) (hst : Nat.ble (st.map fun v => v.category).sum 8 = true) (hc : Run M' d' a1 a2 0 (l_ent M' [y0, y1, y2, y3, y4]) [] w n P') (kk : ∀ r w' n', P' r w' n' → Run M d q1 q2 (pc + 3) ls (r.toList ++ st) w' n' P) : Run M d (a1 + q1) (a2 + q2) pc ls (y4 :: y3 :: y2 :: y1 :: y0 :: st) w n P := x_cs (As := [y0, y1, y2, y3, y4]) hd hl hdd hcat hlen hst hc kk
theorem x_cs5p {M' : ax_M} {d' idx : Nat} {y0 y1 y2 y3 y4 : Value} {v : Value} (hd : decode M.2.1 pc = .ok (.invokestatic idx, 3)) (hl : LkS M.1.cls idx M' 5) (hdd : d' < d) (hcat : cat1 [y0, y1, y2, y3, y4] = true) (hlen : Nat.ble 5 M'.2.2.1 = true) (hst : Nat.ble (st.map fun v => v.category).sum 8 = true) (hc : Run M' d' 0 0 0 (l_ent M' [y0, y1, y2, y3, y4]) [] w n (Pu v w n)) (kk : Run M d q1 q2 (pc + 3) ls (v :: st) w n P) : Run M d q1 q2 pc ls (y4 :: y3 :: y2 :: y1 :: y0 :: st) w n P := by
  have h := x_cs5 (q1 := q1) (q2 := q2) hd hl hdd hcat hlen hst hc (pu_kk (P' := P) kk)
  rwa [Nat.zero_add, Nat.zero_add] at h
theorem x_cv0 {M' : ax_M} {d' a1 a2 idx b : Nat} {ci N : Nat} {T : u_T} {fs : List Value} {P' : Option Value → ax_W → Nat → Prop} (hd : decode M.2.1 pc = .ok (.invokevirtual idx, 3)) (hl : LkV M.1.cls idx M' 0) (hw : w b = ao ci fs) (hcl : vwCl[ci]? = some (M'.1.cls, T, N)) (hdd : d' < d) (hcat : cat1 [] = true) (hlen : Nat.blt 0 M'.2.2.1 = true) (hst : Nat.ble (st.map fun v => v.category).sum 8 = true) (hc : Run M' d' a1 a2 0 (l_ent M' [.ref b]) [] w n P') (kk : ∀ r w' n', P' r w' n' → Run M d q1 q2 (pc + 3) ls (r.toList ++ st) w' n' P) : Run M d (a1 + q1) (a2 + q2) pc ls (.ref b :: st) w n P := x_cv (As := []) hd hl hw hcl hdd hcat hlen hst hc kk
theorem x_cv0p {M' : ax_M} {d' idx b : Nat} {ci N : Nat} {T : u_T} {fs : List Value} {v : Value} (hd : decode M.2.1 pc = .ok (.invokevirtual idx, 3)) (hl : LkV M.1.cls idx M' 0) (hw : w b = ao ci fs) (hcl : vwCl[ci]? = some (M'.1.cls, T, N)) (hdd : d' < d) (hcat : cat1 [] = true) (hlen : Nat.blt 0 M'.2.2.1 = true) (hst : Nat.ble (st.map fun v => v.category).sum 8 = true) (hc : Run M' d' 0 0 0 (l_ent M' [.ref b]) [] w n (Pu v w n)) (kk : Run M d q1 q2 (pc + 3) ls (v :: st) w n P) : Run M d q1 q2 pc ls (.ref b :: st) w n P := by
  have h := x_cv0 (q1 := q1) (q2 := q2) hd hl hw hcl hdd hcat hlen hst hc (pu_kk (P' := P) kk)
  rwa [Nat.zero_add, Nat.zero_add] at h
theorem x_cv1 {M' : ax_M} {d' a1 a2 idx b : Nat} {ci N : Nat} {T : u_T} {fs : List Value} {y0 : Value} {P' : Option Value → ax_W → Nat → Prop} (hd : decode M.2.1 pc = .ok (.invokevirtual idx, 3)) (hl : LkV M.1.cls idx M' 1) (hw : w b = ao ci fs) (hcl : vwCl[ci]? = some (M'.1.cls, T, N)) (hdd : d' < d) (hcat : cat1 [y0] = true) (hlen : Nat.blt 1 M'.2.2.1 = true) (hst : Nat.ble (st.map fun v => v.category).sum 8 = true) (hc : Run M' d' a1 a2 0 (l_ent M' [.ref b, y0]) [] w n P') (kk : ∀ r w' n', P' r w' n' → Run M d q1 q2 (pc + 3) ls (r.toList ++ st) w' n' P) : Run M d (a1 + q1) (a2 + q2) pc ls (y0 :: .ref b :: st) w n P := x_cv (As := [y0]) hd hl hw hcl hdd hcat hlen hst hc kk
theorem x_cv1p {M' : ax_M} {d' idx b : Nat} {ci N : Nat} {T : u_T} {fs : List Value} {y0 : Value} {v : Value} (hd : decode M.2.1 pc = .ok (.invokevirtual idx, 3)) (hl : LkV M.1.cls idx M' 1) (hw : w b = ao ci fs) (hcl : vwCl[ci]? = some (M'.1.cls, T, N)) (hdd : d' < d) (hcat : cat1 [y0] = true) (hlen : Nat.blt 1 M'.2.2.1 = true) (hst : Nat.ble (st.map fun v => v.category).sum 8 = true) (hc : Run M' d' 0 0 0 (l_ent M' [.ref b, y0]) [] w n (Pu v w n)) (kk : Run M d q1 q2 (pc + 3) ls (v :: st) w n P) : Run M d q1 q2 pc ls (y0 :: .ref b :: st) w n P := by
  have h := x_cv1 (q1 := q1) (q2 := q2) hd hl hw hcl hdd hcat hlen hst hc (pu_kk (P' := P) kk)
  rwa [Nat.zero_add, Nat.zero_add] at h
theorem x_cv2 {M' : ax_M} {d' a1 a2 idx b : Nat} {ci N : Nat} {T : u_T} {fs : List Value} {y0 y1 : Value} {P' : Option Value → ax_W → Nat → Prop} (hd : decode M.2.1 pc = .ok (.invokevirtual idx, 3)) (hl : LkV M.1.cls idx M' 2) (hw : w b = ao ci fs) (hcl : vwCl[ci]? = some (M'.1.cls, T, N)) (hdd : d' < d) (hcat : cat1 [y0, y1] = true) (hlen : Nat.blt 2 M'.2.2.1 = true) (hst : Nat.ble (st.map fun v => v.category).sum 8 = true) (hc : Run M' d' a1 a2 0 (l_ent M' [.ref b, y0, y1]) [] w n P') (kk : ∀ r w' n', P' r w' n' → Run M d q1 q2 (pc + 3) ls (r.toList ++ st) w' n' P) : Run M d (a1 + q1) (a2 + q2) pc ls (y1 :: y0 :: .ref b :: st) w n P := x_cv (As := [y0, y1]) hd hl hw hcl hdd hcat hlen hst hc kk
theorem x_cv2p {M' : ax_M} {d' idx b : Nat} {ci N : Nat} {T : u_T} {fs : List Value} {y0 y1 : Value} {v : Value} (hd : decode M.2.1 pc = .ok (.invokevirtual idx, 3)) (hl : LkV M.1.cls idx M' 2) (hw : w b = ao ci fs) (hcl : vwCl[ci]? = some (M'.1.cls, T, N)) (hdd : d' < d) (hcat : cat1 [y0, y1] = true) (hlen : Nat.blt 2 M'.2.2.1 = true) (hst : Nat.ble (st.map fun v => v.category).sum 8 = true) (hc : Run M' d' 0 0 0 (l_ent M' [.ref b, y0, y1]) [] w n (Pu v w n)) (kk : Run M d q1 q2 (pc + 3) ls (v :: st) w n P) : Run M d q1 q2 pc ls (y1 :: y0 :: .ref b :: st) w n P := by
  have h := x_cv2 (q1 := q1) (q2 := q2) hd hl hw hcl hdd hcat hlen hst hc (pu_kk (P' := P) kk)
  rwa [Nat.zero_add, Nat.zero_add] at h
theorem x_cv3 {M' : ax_M} {d' a1 a2 idx b : Nat} {ci N : Nat} {T : u_T} {fs : List Value} {y0 y1 y2 : Value} {P' : Option Value → ax_W → Nat → Prop} (hd : decode M.2.1 pc = .ok (.invokevirtual idx, 3)) (hl : LkV M.1.cls idx M' 3) (hw : w b = ao ci fs) (hcl : vwCl[ci]? = some (M'.1.cls, T, N)) (hdd : d' < d) (hcat : cat1 [y0, y1, y2] = true) (hlen : Nat.blt 3 M'.2.2.1 = true) (hst : Nat.ble (st.map fun v => v.category).sum 8 = true) (hc : Run M' d' a1 a2 0 (l_ent M' [.ref b, y0, y1, y2]) [] w n P') (kk : ∀ r w' n', P' r w' n' → Run M d q1 q2 (pc + 3) ls (r.toList ++ st) w' n' P) : Run M d (a1 + q1) (a2 + q2) pc ls (y2 :: y1 :: y0 :: .ref b :: st) w n P := x_cv (As := [y0, y1, y2]) hd hl hw hcl hdd hcat hlen hst hc kk
theorem x_cv3p {M' : ax_M} {d' idx b : Nat} {ci N : Nat} {T : u_T} {fs : List Value} {y0 y1 y2 : Value} {v : Value} (hd : decode M.2.1 pc = .ok (.invokevirtual idx, 3)) (hl : LkV M.1.cls idx M' 3) (hw : w b = ao ci fs) (hcl : vwCl[ci]? = some (M'.1.cls, T, N)) (hdd : d' < d) (hcat : cat1 [y0, y1, y2] = true) (hlen : Nat.blt 3 M'.2.2.1 = true) (hst : Nat.ble (st.map fun v => v.category).sum 8 = true) (hc : Run M' d' 0 0 0 (l_ent M' [.ref b, y0, y1, y2]) [] w n (Pu v w n)) (kk : Run M d q1 q2 (pc + 3) ls (v :: st) w n P) : Run M d q1 q2 pc ls (y2 :: y1 :: y0 :: .ref b :: st) w n P := by
  have h := x_cv3 (q1 := q1) (q2 := q2) hd hl hw hcl hdd hcat hlen hst hc (pu_kk (P' := P) kk)
  rwa [Nat.zero_add, Nat.zero_add] at h
theorem x_ci0 {M' : ax_M} {d' a1 a2 idx b : Nat} {P' : Option Value → ax_W → Nat → Prop} (hd : decode M.2.1 pc = .ok (.invokespecial idx, 3)) (hl : LkN M.1.cls idx M' 0) (hdd : d' < d) (hcat : cat1 [] = true) (hlen : Nat.blt 0 M'.2.2.1 = true) (hst : Nat.ble (st.map fun v => v.category).sum 8 = true) (hc : Run M' d' a1 a2 0 (l_ent M' [.ref b]) [] w n P') (kk : ∀ r w' n', P' r w' n' → Run M d q1 q2 (pc + 3) ls (r.toList ++ st) w' n' P) : Run M d (a1 + q1) (a2 + q2) pc ls (.ref b :: st) w n P := x_ci (As := []) hd hl hdd hcat hlen hst hc kk
theorem x_ci1 {M' : ax_M} {d' a1 a2 idx b : Nat} {y0 : Value} {P' : Option Value → ax_W → Nat → Prop} (hd : decode M.2.1 pc = .ok (.invokespecial idx, 3)) (hl : LkN M.1.cls idx M' 1) (hdd : d' < d) (hcat : cat1 [y0] = true) (hlen : Nat.blt 1 M'.2.2.1 = true) (hst : Nat.ble (st.map fun v => v.category).sum 8 = true) (hc : Run M' d' a1 a2 0 (l_ent M' [.ref b, y0]) [] w n P') (kk : ∀ r w' n', P' r w' n' → Run M d q1 q2 (pc + 3) ls (r.toList ++ st) w' n' P) : Run M d (a1 + q1) (a2 + q2) pc ls (y0 :: .ref b :: st) w n P := x_ci (As := [y0]) hd hl hdd hcat hlen hst hc kk
theorem x_ci2 {M' : ax_M} {d' a1 a2 idx b : Nat} {y0 y1 : Value} {P' : Option Value → ax_W → Nat → Prop} (hd : decode M.2.1 pc = .ok (.invokespecial idx, 3)) (hl : LkN M.1.cls idx M' 2) (hdd : d' < d) (hcat : cat1 [y0, y1] = true) (hlen : Nat.blt 2 M'.2.2.1 = true) (hst : Nat.ble (st.map fun v => v.category).sum 8 = true) (hc : Run M' d' a1 a2 0 (l_ent M' [.ref b, y0, y1]) [] w n P') (kk : ∀ r w' n', P' r w' n' → Run M d q1 q2 (pc + 3) ls (r.toList ++ st) w' n' P) : Run M d (a1 + q1) (a2 + q2) pc ls (y1 :: y0 :: .ref b :: st) w n P := x_ci (As := [y0, y1]) hd hl hdd hcat hlen hst hc kk
theorem x_ci3 {M' : ax_M} {d' a1 a2 idx b : Nat} {y0 y1 y2 : Value} {P' : Option Value → ax_W → Nat → Prop} (hd : decode M.2.1 pc = .ok (.invokespecial idx, 3)) (hl : LkN M.1.cls idx M' 3) (hdd : d' < d) (hcat : cat1 [y0, y1, y2] = true) (hlen : Nat.blt 3 M'.2.2.1 = true) (hst : Nat.ble (st.map fun v => v.category).sum 8 = true) (hc : Run M' d' a1 a2 0 (l_ent M' [.ref b, y0, y1, y2]) [] w n P') (kk : ∀ r w' n', P' r w' n' → Run M d q1 q2 (pc + 3) ls (r.toList ++ st) w' n' P) : Run M d (a1 + q1) (a2 + q2) pc ls (y2 :: y1 :: y0 :: .ref b :: st) w n P := x_ci (As := [y0, y1, y2]) hd hl hdd hcat hlen hst hc kk
end CALLS
