/-! THE CLAIM OUT OF ONE WALK OF THE LAW'S BODY. Your part is whole_start (and what it stands on); all else here is the same for every law, but numbers. -/
def R_law : String := "HeardBackwardLaw"
def lw_P (b : Addr) (xs : List Int32) (args : Array Value) (s : State) : Prop := args = #[.ref b] ∧ s.IntsAt b xs ∧ xs.length ≤ 256 ∧ (Jvm.Cond.and given_1 narrow_1).before args s = true
def lw_Q (_ : Array Value) (s : State) (o : Outcome) (t : State) : Prop := o = .returned (some (.int 1)) ∧ Framed s o t [] 600000 7302250
def lw_Z (below : List Frame) (a : Array Value) (s : State) : State → Prop := fun t => ∃ o, t.status = .running ∧ Ended t below o ∧ lw_Q a s o t
/-- the law's own end, with 1 on the stack, nothing written that was there before, its room as the claim has it -/
theorem lw_ret {p : Program} {l : Launch} {e : Env} {s : State} {m : MethodId} {below : List Frame} {meth : Method} {c : Code} {b : Nat} (hx : p.tables.exec = Jvm.exec) (hb : c.code = code) (hr : meth.sig.returnType = ret) (hlocks : meth.locks = false) {pc : Nat} {H : Heap} {ls : Array Slot} (hdg : decode code pc = .ok (.ireturn, 1)) : W p l e room_1 s m #[Value.ref b] below meth c H [] 600000 7302250 (lw_Z below #[Value.ref b] s) (F0 m pc ls [.int 1]) := by
  intro T hT X
  obtain ⟨fs, hret, hrun, hended, hW, hframe⟩ := X.leave (v := some (.int 1)) (hlocks := hlocks) (fun h => by rw [hr] at h; cases h)
  have hmeth' : T.vm.method? m = some meth := X.method'
  refine ⟨T.setFrames fs, ?_, .returned (some (.int 1)), hrun, hended, rfl, ⟨_, rfl⟩, hW, hframe⟩
  jvm_step X.here [X.here.top, hx, hb, hdg, hmeth', hr, ret, narrow_b1]
  (try refine ⟨rfl, ?_⟩); (try refine ⟨rfl, ?_⟩)
  first | (intro acts; rw [hret _ acts rfl rfl rfl]) | rw [hret _ _ rfl rfl rfl]
  exact Steps.refl _
/-- what holds at the law's entry: the machine, the code, the tables' words (any of lw_tbl by 'hts w (by decide +kernel)'), the script of L ints xs at the cell b, what the Statement gives of the start (any of its parts by flat_of_before) -/
def lw_At (p : Program) (s : State) (m : MethodId) (meth : Method) (c : Code) (b L : Nat) (xs : Nat → Int32) : Prop :=
  p.tables.exec = Jvm.exec ∧ c.code = code ∧ meth.sig.returnType = ret ∧ c.maxLocals = 4 ∧ s.vm.findClass R_law = some m.cls ∧ (∀ w ∈ lw_tbl, w.before #[Value.ref b] s = true) ∧ va_X b L xs s s.heap ∧ b < s.heap.size ∧ meth.locks = false ∧ (Jvm.Cond.and given_1 narrow_1).before #[Value.ref b] s = true
section WGEN
variable {M : ax_M} {d pc : Nat} {st : List Value} {w : ax_W} {n : Nat} {B : ax_B} {D : va_G} {cA : FieldType → ClassId} {p : Program} {l : Launch} {e : Env} {R : Room} {s : State} {m : MethodId} {args : Array Value} {below : List Frame} {meth : Method} {c : Code} {H : Heap} {locs : List Loc} {ls' : Array Slot} {cells slots : Nat} {Q : State → Prop}
theorem w_new {idx ci N : Nat} {C : String} {T : u_T} {fs : List Value} (X : ax_X B D cA M d R p s m args meth c) (hH : ax_H B D cA w n H) (hF : ax_F B s H locs) (hd : decode M.2.1 pc = .ok (.new idx, 3)) (hcl : vwCl[ci]? = some (C, T, N)) (h1 : Cond.classLink M.1.cls idx C ∈ TB) (h2 : Cond.instantiable C N ∈ TB) (h3 : Cond.initialized C ∈ TB) (hfs : ∀ ty : Nat → FieldType, (∀ k, k < N → parseFieldDescriptor (T k).2.2.1 = some (ty k)) → ∀ j, j < N → defaultValue (ty j) = vp_V fs j) (hfs0 : ∀ B, fs.map (ax_v B) = fs) (g1 : cells + 1 ≤ R.cells) (g2 : slots + N ≤ R.slots)
    (kk : ∀ H1, ax_H B D cA (ax_up w n (ao ci fs)) (n + 1) H1 → ax_F B s H1 locs → W p l e R s m args below meth c H1 locs (cells + 1) (slots + N) Q (F0 m (pc + 3) ls' (.ref (B.1 + n) :: st.map (ax_v B)))) : W p l e R s m args below meth c H locs cells slots Q (F0 m pc ls' (st.map (ax_v B))) := by
  have hts := X.2.2.2.2.2.2.2.1
  have hU := X.2.2.2.2.2.2.2.2.1
  obtain ⟨c1, c2, ty0, c3⟩ := ClOk_all hcl
  have hKn := hU.1.1 ci _ hcl
  refine W.newcK X.1 X.2.1 X.2.2.2.2.2.1 (hts _ h1) (hts _ h2) (hts _ h3) rfl hd (by omega) (by omega) hKn.2.1 hH.1 fun H1 kC hkC e1 z1 o1 => ?_
  have o1' : ∀ q, q < H.size → H1[q]? = H[q]? := fun q hq => o1 q (by rw [hH.1] at hq; exact hq)
  have hat : va_at D vwCl (B.1 + n, ax_e B cA (ao ci fs)) H1 := by
    refine ⟨_, hcl, ?_⟩
    show t_OB _ _ _ _ _ (vp_V (fs.map (ax_v B)))
    rw [hfs0]
    exact (u_born ty0 hts c1 hKn hkC e1 c3).to (hfs ty0 c3)
  exact kk H1 (hH.push hat (by rw [z1, hH.1]) o1') (hF.push hH o1')
theorem w_ci {M' : ax_M} {d' a1 a2 idx b : Nat} {P' : Option Value → ax_W → Nat → Prop} (C : ax_X B D cA M d R p s m args meth c) (hH : ax_H B D cA w n H) (hF : ax_F B s H locs) (hsz : ls'.size = M.2.2.1) (hd : decode M.2.1 pc = .ok (.invokespecial idx, 3)) (hl : LkN M.1.cls idx M' 0) (hdd : d' < d) (hlen : Nat.blt 0 M'.2.2.1 = true) (hst : Nat.ble (st.map fun v => v.category).sum 8 = true) (g1 : cells + a1 ≤ R.cells) (g2 : slots + a2 ≤ R.slots) (hc : Run M' d' a1 a2 0 (l_ent M' [.ref b]) [] w n P')
    (kk : ∀ r w' n' H' locs', P' r w' n' → ax_H B D cA w' n' H' → ax_F B s H' locs' → W p l e R s m args below meth c H' locs' (cells + a1) (slots + a2) Q (F0 m (pc + 3) ls' ((r.toList ++ st).map (ax_v B)))) : W p l e R s m args below meth c H locs cells slots Q (F0 m pc ls' (.ref (B.1 + b) :: st.map (ax_v B))) := by
  obtain ⟨h0, hi, hnm, hret, hin⟩ := hl
  obtain ⟨y, bytes, maxL, ret⟩ := M'
  have hret' : ret = none := hret
  subst hret'
  have hts := C.2.2.2.2.2.2.2.1
  have hU := C.2.2.2.2.2.2.2.2.1
  have hlen' : 0 < maxL := by simpa using hlen
  have hM := met_of h0.2.2.2.1 (As := [.ref b]) rfl (by show 1 ≤ maxL; omega) hc l B D cA
  have hpre := ax_pre (As := [.ref b]) hH hF hU
  obtain ⟨hR1, hR2⟩ := ax_room (a1 := a1) (a2 := a2) h0 hdd C.2.2.2.2.2.2.2.2.2.1 C.2.2.2.2.2.2.2.2.2.2
  have hdesc : ∀ sig, parseMethodDescriptor y.desc = some sig → ([] : List Value).length = sig.parameters.length := fun sig h => by
    have h2 := h0.2.2.1.2.2
    rw [h] at h2
    exact (Option.some.inj h2).symm
  have hr : va_Run p l e R s m args below meth c H locs cells slots a1 a2 (F0 m pc ls' (.ref (B.1 + b) :: st.map (ax_v B))) (st.map (ax_v B)) (ax_Q B D cA P' ([Value.ref b].map (ax_v B)).toArray) (fun a => B.1 ≤ a) := by
    rcases hi with hi | ⟨host, hi⟩
    · exact va_runI (As := []) ⟨C.1, C.2.1, C.2.2.1, C.2.2.2.2.2.1, hts⟩ hM ⟨⟨rfl, rfl, hR1, hR2, ws_pay hts h0.1, List.mem_cons_self, hts _ h0.1, hts _ h0.2.1, ⟨h0.2.2.1.1, h0.2.2.1.2.1⟩, hdesc, hts _ hi⟩, hnm, hts _ hin⟩ hpre rfl rfl hsz rfl (ax_hW hst) hd ⟨by omega, by omega⟩
    · exact va_runIN (As := []) ⟨C.1, C.2.1, C.2.2.1, C.2.2.2.2.2.1, hts⟩ hM ⟨⟨⟨rfl, rfl, hR1, hR2, ws_pay hts h0.1, List.mem_cons_self⟩, hts _ h0.1, hts _ h0.2.1, ⟨h0.2.2.1.1, h0.2.2.1.2.1⟩, hdesc, va_Nw.use (NB_on hi) (hU.2.1 _ hi)⟩, hnm, hts _ hin⟩ hpre rfl rfl hsz rfl (ax_hW hst) hd ⟨by omega, by omega⟩
  exact ax_go hr hF fun r w' n' H' locs' hp hH' hF' => kk r w' n' H' locs' hp hH' hF'
theorem w_cv {M' : ax_M} {d' idx b ci N : Nat} {T : u_T} {fs As : List Value} {P' : Option Value → ax_W → Nat → Prop} (C : ax_X B D cA M d R p s m args meth c) (hH : ax_H B D cA w n H) (hF : ax_F B s H locs) (hsz : ls'.size = M.2.2.1) (hd : decode M.2.1 pc = .ok (.invokevirtual idx, 3)) (hl : LkV M.1.cls idx M' As.length) (hw : w b = ao ci fs) (hcl : vwCl[ci]? = some (M'.1.cls, T, N)) (hdd : d' < d) (hcat : cat1 As = true) (hlen : Nat.blt As.length M'.2.2.1 = true) (hst : Nat.ble (st.map fun v => v.category).sum 8 = true) (g1 : cells ≤ R.cells) (g2 : slots ≤ R.slots) (hc : Run M' d' 0 0 0 (l_ent M' (.ref b :: As)) [] w n P')
    (kk : ∀ r w' n' H' locs', P' r w' n' → ax_H B D cA w' n' H' → ax_F B s H' locs' → W p l e R s m args below meth c H' locs' cells slots Q (F0 m (pc + 3) ls' ((r.toList ++ st).map (ax_v B)))) : W p l e R s m args below meth c H locs cells slots Q (F0 m pc ls' ((As.reverse ++ .ref b :: st).map (ax_v B))) := by
  obtain ⟨h0, hi, hin, hse⟩ := hl
  have hts := C.2.2.2.2.2.2.2.1
  have hU := C.2.2.2.2.2.2.2.2.1
  have hlen' : As.length < M'.2.2.1 := by simpa using hlen
  have hM := met_of h0.2.2.2.1 (As := .ref b :: As) (by simpa [cat1, Value.category] using hcat) (by simp; omega) hc l B D cA
  have hpre := ax_pre (As := .ref b :: As) hH hF hU
  obtain ⟨ha, hat⟩ := hH.at hw (ax_live_o hcl)
  have hrecv := va_recv hU.1 (va_P_one hat) hcl (q0 := 0) rfl
  obtain ⟨hR1, hR2⟩ := ax_room (a1 := 0) (a2 := 0) h0 hdd C.2.2.2.2.2.2.2.2.2.1 C.2.2.2.2.2.2.2.2.2.2
  have hdesc : ∀ sig, parseMethodDescriptor M'.1.desc = some sig → As.length = sig.parameters.length := fun sig h => by
    have h2 := h0.2.2.1.2.2
    rw [h] at h2
    exact (Option.some.inj h2).symm
  have hr : va_Run p l e R s m args below meth c H locs cells slots 0 0 (F0 m pc ls' ((As.reverse ++ .ref b :: st).map (ax_v B))) (st.map (ax_v B)) (ax_Q B D cA P' ((Value.ref b :: As).map (ax_v B)).toArray) (fun a => B.1 ≤ a) := by
    have hstack : (F0 m pc ls' ((As.reverse ++ .ref b :: st).map (ax_v B))).stack = (As.map (ax_v B)).reverse ++ .ref (B.1 + b) :: st.map (ax_v B) := by simp [List.map_append, List.map_reverse, ax_v]
    rcases hi with hi | ⟨host, hi⟩
    · exact va_runV (As := As.map (ax_v B)) ⟨C.1, C.2.1, C.2.2.1, C.2.2.2.2.2.1, hts⟩ hM ⟨⟨rfl, rfl, hR1, hR2, ws_pay hts h0.1, List.mem_cons_self, hts _ h0.1, hts _ h0.2.1, ⟨h0.2.2.1.1, h0.2.2.1.2.1⟩, hdesc, hts _ hi⟩, hts _ hin, hts _ hse⟩ ⟨hpre.1, hrecv, hpre.2⟩ rfl (by simp) hsz hstack (ax_hW hst) hd ⟨by omega, by omega⟩
    · exact va_runVN (As := As.map (ax_v B)) ⟨C.1, C.2.1, C.2.2.1, C.2.2.2.2.2.1, hts⟩ hM ⟨⟨⟨rfl, rfl, hR1, hR2, ws_pay hts h0.1, List.mem_cons_self⟩, hts _ h0.1, hts _ h0.2.1, ⟨h0.2.2.1.1, h0.2.2.1.2.1⟩, hdesc, va_Nw.use (NB_on hi) (hU.2.1 _ hi)⟩, hts _ hin, hts _ hse⟩ ⟨hpre.1, hrecv, hpre.2⟩ rfl (by simp) hsz hstack (ax_hW hst) hd ⟨by omega, by omega⟩
  exact ax_go hr hF fun r w' n' H' locs' hp hH' hF' => kk r w' n' H' locs' hp hH' hF'
end WGEN
def m_L (nm : String) : ax_M := (⟨RL, nm, ""⟩, code, 4, ret)
/-- what the law's body stands on -/
def LwX (nm : String) (B : ax_B) (D : va_G) (cA : FieldType → ClassId) (p : Program) (s : State) (m : MethodId) (meth : Method) (c : Code) (b L : Nat) (xs : Nat → Int32) : Prop := ax_X B D cA (m_L nm) 2000 room_1 p s m #[.ref b] meth c ∧ va_X b L xs s s.heap ∧ b < B.1 ∧ L ≤ 256 ∧ B.1 = s.heap.size
/-- the law at pc, at the place i of the script -/
def RLw (B : ax_B) (D : va_G) (cA : FieldType → ClassId) (p : Program) (l : Launch) (e : Env) (s : State) (m : MethodId) (below : List Frame) (meth : Method) (c : Code) (b : Nat) (pc i : Nat) (st : List Value) (w : ax_W) : Prop := ∀ (H : Heap) (locs : List Loc) (ls' : Array Slot), ax_H B D cA w 72 H → ax_F B s H locs → lv_has ls' 4 [(0, .ref b), (1, .ref (B.1 + 0)), (2, .ref (B.1 + 51)), (3, .int (nI i))] → W p l e room_1 s m #[Value.ref b] below meth c H locs 300 200000 (lw_Z below #[Value.ref b] s) (F0 m pc ls' (st.map (ax_v B)))
section RLAW
variable {nm : String} {B : ax_B} {D : va_G} {cA : FieldType → ClassId} {p : Program} {l : Launch} {e : Env} {s : State} {m : MethodId} {below : List Frame} {meth : Method} {c : Code} {b L : Nat} {xs : Nat → Int32} {pc i : Nat} {st : List Value} {w : ax_W}
theorem LwX.S (X : LwX nm B D cA p s m meth c b L xs) {H : Heap} {locs : List Loc} {n : Nat} (hH : ax_H B D cA w n H) (hF : ax_F B s H locs) : va_S (fun q : Nat => s.heap.size ≤ q) s.heap H locs := by
  obtain ⟨-, -, -, -, h5⟩ := X
  exact ⟨by rw [hH.1]; omega, fun q hq _ => hF.1 q (by omega), fun q hq => by rw [← h5]; exact hF.2 q hq⟩
theorem rl_a1 (X : LwX nm B D cA p s m meth c b L xs) (hd : decode code pc = .ok (.aload_n 1, 1)) (kk : RLw B D cA p l e s m below meth c b (pc + 1) i (.ref 0 :: st) w) : RLw B D cA p l e s m below meth c b pc i st w :=
  fun H locs ls' hH hF hl => lv_aload_n X.1.1 X.1.2.1 hd rfl (lv_at hl 1 rfl) (kk H locs ls' hH hF hl)
theorem rl_a2 (X : LwX nm B D cA p s m meth c b L xs) (hd : decode code pc = .ok (.aload_n 2, 1)) (kk : RLw B D cA p l e s m below meth c b (pc + 1) i (.ref 51 :: st) w) : RLw B D cA p l e s m below meth c b pc i st w :=
  fun H locs ls' hH hF hl => lv_aload_n X.1.1 X.1.2.1 hd rfl (lv_at hl 2 rfl) (kk H locs ls' hH hF hl)
/-- one int of the script -/
theorem rl_arg (X : LwX nm B D cA p s m meth c b L xs) {k : Nat} {z : Int} (h0 : decode code pc = .ok (.aload_n 0, 1)) (h1 : decode code (pc + 1) = .ok (.iload_n 3, 1)) (h2 : decode code (pc + 1 + 1) = .ok (.iconst z, 1)) (hz : Int32.ofInt z = nI k) (h3 : decode code (pc + 1 + 1 + 1) = .ok (.iadd, 1)) (h4 : decode code (pc + 1 + 1 + 1 + 1) = .ok (.iaload, 1)) (hk : i + k < L) (kk : RLw B D cA p l e s m below meth c b (pc + 1 + 1 + 1 + 1 + 1) i (.int (xs (i + k)) :: st) w) : RLw B D cA p l e s m below meth c b pc i st w := by
  intro H locs ls' hH hF hl
  obtain ⟨X1, X2, X3, X4, X5⟩ := id X
  refine lv_aload_n X1.1 X1.2.1 h0 rfl (lv_at hl 0 rfl) ?_
  refine lv_iload_n X1.1 X1.2.1 h1 rfl (lv_at hl 3 rfl) ?_
  refine lv_iconst (v := nI k) X1.1 X1.2.1 h2 hz ?_
  refine lv_iadd X1.1 X1.2.1 h3 ?_
  rw [nI_add]
  refine va_sld (A := fun q : Nat => s.heap.size ≤ q) X1.1 X1.2.1 X2 (by omega) (Nat.not_le.mpr (by omega)) (X.S hH hF) (n_in hk (by omega)) h4 ?_
  rw [n_cl (by omega)]
  exact kk H locs ls' hH hF hl
theorem rl_call (X : LwX nm B D cA p s m meth c b L xs) {M' : ax_M} {d' idx c0 ci N : Nat} {T : u_T} {fs As : List Value} {r : Int32} {F : ax_W → Prop} (hd : decode code pc = .ok (.invokevirtual idx, 3)) (hl : LkV RL idx M' As.length) (hw : w c0 = ao ci fs) (hcl : vwCl[ci]? = some (M'.1.cls, T, N)) (hdd : d' < 2000) (hcat : cat1 As = true) (hlen : Nat.blt As.length M'.2.2.1 = true) (hst : Nat.ble (st.map fun v => v.category).sum 8 = true) (hc : Run M' d' 0 0 0 (l_ent M' (.ref c0 :: As)) [] w 72 (Va (fun v w' => v = .int r ∧ F w') 72)) (kk : ∀ w', F w' → RLw B D cA p l e s m below meth c b (pc + 3) i (.int r :: st) w') : RLw B D cA p l e s m below meth c b pc i (As.reverse ++ .ref c0 :: st) w := by
  intro H locs ls' hH hF hl2
  refine w_cv (M := m_L nm) X.1 hH hF hl2.1 hd hl hw hcl hdd hcat hlen hst (by decide) (by decide) hc (fun r2 w' n' H' locs' hp hH' hF' => ?_)
  obtain ⟨v, rfl, rfl, rfl, hFw⟩ := hp
  exact kk w' hFw H' locs' ls' hH' hF' hl2
theorem rl_eq (X : LwX nm B D cA p s m meth c b L xs) {x : Int32} {off : Int} {tgt : Nat} (hd : decode code pc = .ok (.if_icmp .eq off, 3)) (ht : (pc : Int) + off = (tgt : Int)) (kk : RLw B D cA p l e s m below meth c b tgt i st w) : RLw B D cA p l e s m below meth c b pc i (.int x :: .int x :: st) w :=
  fun H locs ls' hH hF hl => lv_icmp_eq X.1.1 X.1.2.1 hd ht (fun _ => kk H locs ls' hH hF hl) (fun q => absurd rfl q)
end RLAW
/-! both sides hold the same -/
def Nx (w : ax_W) : Prop := ∃ (T : List Nat) (C : Crt) (h : Hrg) (L K : List Hrg), isX w T C h L K ∧ isM w T C h L K ∧ okX T C h L K ∧ okW C
theorem Nx.X0 {w : ax_W} (h : Nx w) : ∃ fs, w 0 = ao 6 fs := by
  obtain ⟨T, C, h, L, K, hx, -⟩ := h
  exact ⟨_, hx.1⟩
def Pair (mx mm : ax_M) (As : List Value) (w : ax_W) : Prop := ∃ (r : Int32) (F : ax_W → Prop) (dx dm : Nat), dx < 2000 ∧ dm < 2000 ∧ Run mx dx 0 0 0 (l_ent mx (.ref 0 :: As)) [] w 72 (Va (fun v w' => v = .int r ∧ F w') 72) ∧ ∀ w1, F w1 → (∃ fs, w1 51 = ao 7 fs) ∧ Run mm dm 0 0 0 (l_ent mm (.ref 51 :: As)) [] w1 72 (Va (fun v w' => v = .int r ∧ Nx w') 72)
theorem pair_of {mx mm : ax_M} {As : List Value} {w : ax_W} {r : Int32} {T T' : List Nat} {C C' : Crt} {h h' : Hrg} {L K L' K' : List Hrg} {dx dm : Nat} (hm0 : isM w T C h L K) (g1 : dx < 2000) (g2 : dm < 2000) (hx : Run mx dx 0 0 0 (l_ent mx (.ref 0 :: As)) [] w 72 (PX r T' C' h' L' K' w 72)) (hm : ∀ w1, isM w1 T C h L K → Run mm dm 0 0 0 (l_ent mm (.ref 51 :: As)) [] w1 72 (PM r T' C' h' L' K' w1 72)) (ok : okX T' C' h' L' K') (hw : okW C') : Pair mx mm As w := by
  refine ⟨r, fun w' => isX w' T' C' h' L' K' ∧ isM w' T C h L K, dx, dm, g1, g2, hx.mono ?_, fun w1 hF => ⟨?_, (hm w1 hF.2).mono ?_⟩⟩
  · intro v w' n' hp
    obtain ⟨x, rfl, rfl, rfl, h1, h2⟩ := hp
    exact va_i ⟨rfl, h1, hm0.go h2⟩
  · obtain ⟨a, s, r2, D2, -, -, -, hK, -⟩ := hF.2
    exact ⟨_, hK⟩
  · intro v w' n' hp
    obtain ⟨x, rfl, rfl, rfl, h1, h2⟩ := hp
    exact va_i ⟨rfl, T', C', h', L', K', hF.1.go h2, h1, ok, hw⟩
theorem p_write {w : ax_W} (hn : Nx w) (x : Int32) : Pair m_X6_write m_X7_write [.int x] w := by
  obtain ⟨T, C, h, L, K, hx, hm, ok, hw⟩ := hn
  exact pair_of hm (by omega) (by omega) (c_write hx ok x) (fun w1 h1 => m_write h1 ok.1 x) (okX_write ok x) hw
theorem p_wipe {w : ax_W} (hn : Nx w) : Pair m_X6_wipe m_X7_wipe [] w := by
  obtain ⟨T, C, h, L, K, hx, hm, ok, hw⟩ := hn
  exact pair_of hm (by omega) (by omega) (c_wipe hx) (fun w1 h1 => m_wipe h1) (okX_wipe ok) hw
theorem p_fault {w : ax_W} (hn : Nx w) : Pair m_X6_fault m_X7_fault [] w := by
  obtain ⟨T, C, h, L, K, hx, hm, ok, hw⟩ := hn
  exact pair_of hm (by omega) (by omega) (c_fault hx ok) (fun w1 h1 => m_fault h1 ok.1 ok.2.1) ok hw
theorem p_statement {w : ax_W} (hn : Nx w) (x y : Int32) : Pair m_X6_statement m_X7_statement [.int x, .int y] w := by
  obtain ⟨T, C, h, L, K, hx, hm, ok, hw⟩ := hn
  exact pair_of hm (by omega) (by omega) (c_statement hx ok x y) (fun w1 h1 => m_statement h1 ok x y) ok hw
theorem p_argued {w : ax_W} (hn : Nx w) (x : Int32) : Pair m_X6_argued m_X7_argued [.int x] w := by
  obtain ⟨T, C, h, L, K, hx, hm, ok, hw⟩ := hn
  exact pair_of hm (by omega) (by omega) (c_argued hx ok x) (fun w1 h1 => m_argued h1 ok x) ok hw
theorem p_next {w : ax_W} (hn : Nx w) : Pair m_X6_next m_X7_next [] w := by
  obtain ⟨T, C, h, L, K, hx, hm, ok, hw⟩ := hn
  exact pair_of hm (by omega) (by omega) (c_next hx ok) (fun w1 h1 => m_next h1 ok) ok hw
theorem p_trial {w : ax_W} (hn : Nx w) (x : Int32) : Pair m_X6_trial m_X7_trial [.int x] w := by
  obtain ⟨T, C, h, L, K, hx, hm, ok, hw⟩ := hn
  exact pair_of hm (by omega) (by omega) (c_trial hx ok x) (fun w1 h1 => m_trial h1 ok x) ok hw
theorem p_chains {w : ax_W} (hn : Nx w) (x : Int32) : Pair m_X6_chains m_X7_chains [.int x] w := by
  obtain ⟨T, C, h, L, K, hx, hm, ok, hw⟩ := hn
  exact pair_of hm (by omega) (by omega) (c_chains hx ok x) (fun w1 h1 => m_chains h1 ok x) ok hw
theorem p_shortest {w : ax_W} (hn : Nx w) (x y : Int32) : Pair m_X6_shortest m_X7_shortest [.int x, .int y] w := by
  obtain ⟨T, C, h, L, K, hx, hm, ok, hw⟩ := hn
  exact pair_of hm (by omega) (by omega) (c_shortest hx ok x y) (fun w1 h1 => m_shortest h1 ok x y) ok hw
theorem p_nights {w : ax_W} (hn : Nx w) (x : Int32) : Pair m_X6_nights m_X7_nights [.int x] w := by
  obtain ⟨T, C, h, L, K, hx, hm, ok, hw⟩ := hn
  exact pair_of hm (by omega) (by omega) (c_nights hx ok x) (fun w1 h1 => m_nights h1 ok x) ok hw
theorem p_needed {w : ax_W} (hn : Nx w) (x : Int32) : Pair m_X6_needed m_X7_needed [.int x] w := by
  obtain ⟨T, C, h, L, K, hx, hm, ok, hw⟩ := hn
  exact pair_of hm (by omega) (by omega) (c_needed hx ok x) (fun w1 h1 => m_needed h1 ok x) ok hw
theorem p_forgotten {w : ax_W} (hn : Nx w) : Pair m_X6_forgotten m_X7_forgotten [] w := by
  obtain ⟨T, C, h, L, K, hx, hm, ok, hw⟩ := hn
  exact pair_of hm (by omega) (by omega) (c_forgotten hx ok) (fun w1 h1 => m_forgotten h1 ok) ok hw
theorem p_both {w : ax_W} (hn : Nx w) (x y z : Int32) : Pair m_X6_both m_X7_both [.int x, .int y, .int z] w := by
  obtain ⟨T, C, h, L, K, hx, hm, ok, hw⟩ := hn
  exact pair_of hm (by omega) (by omega) (c_both hx ok x y z) (fun w1 h1 => m_both h1 ok x y z) ok hw
theorem p_days {w : ax_W} (hn : Nx w) (x : Int32) : Pair m_X6_days m_X7_days [.int x] w := by
  obtain ⟨T, C, h, L, K, hx, hm, ok, hw⟩ := hn
  exact pair_of hm (by omega) (by omega) (c_days hx ok x) (fun w1 h1 => m_days h1 ok x) ok hw
theorem p_who {w : ax_W} (hn : Nx w) (x : Int32) : Pair m_X6_who m_X7_who [.int x] w := by
  obtain ⟨T, C, h, L, K, hx, hm, ok, hw⟩ := hn
  exact pair_of hm (by omega) (by omega) (c_who hx ok x) (fun w1 h1 => m_who h1 ok x) ok hw
theorem p_fits {w : ax_W} (hn : Nx w) (x : Int32) : Pair m_X6_fits m_X7_fits [.int x] w := by
  obtain ⟨T, C, h, L, K, hx, hm, ok, hw⟩ := hn
  exact pair_of hm (by omega) (by omega) (c_fits hx ok x) (fun w1 h1 => m_fits h1 ok x) ok hw
theorem p_look {w : ax_W} (hn : Nx w) (x y : Int32) : Pair m_X6_look m_X7_look [.int x, .int y] w := by
  obtain ⟨T, C, h, L, K, hx, hm, ok, hw⟩ := hn
  exact pair_of hm (by omega) (by omega) (c_look hx ok x y) (fun w1 h1 => m_look h1 ok x y) ok hw
theorem p_laid {w : ax_W} (hn : Nx w) (x y : Int32) : Pair m_X6_laid m_X7_laid [.int x, .int y] w := by
  obtain ⟨T, C, h, L, K, hx, hm, ok, hw⟩ := hn
  exact pair_of hm (by omega) (by omega) (c_laid hx ok x y) (fun w1 h1 => m_laid h1 ok x y) ok hw
theorem p_odds {w : ax_W} (hn : Nx w) (x y z : Int32) : Pair m_X6_odds m_X7_odds [.int x, .int y, .int z] w := by
  obtain ⟨T, C, h, L, K, hx, hm, ok, hw⟩ := hn
  exact pair_of hm (by omega) (by omega) (c_odds hx ok x y z) (fun w1 h1 => m_odds h1 ok x y z) ok hw
theorem p_count {w : ax_W} (hn : Nx w) (x : Int32) : Pair m_X6_count m_X7_count [.int x] w := by
  obtain ⟨T, C, h, L, K, hx, hm, ok, hw⟩ := hn
  exact pair_of hm (by omega) (by omega) (c_count hx ok x) (fun w1 h1 => m_count h1 ok x) ok hw
theorem p_byTurns {w : ax_W} (hn : Nx w) (x y : Int32) : Pair m_X6_byTurns m_X7_byTurns [.int x, .int y] w := by
  obtain ⟨T, C, h, L, K, hx, hm, ok, hw⟩ := hn
  exact pair_of hm (by omega) (by omega) (c_byTurns hx ok x y) (fun w1 h1 => m_byTurns h1 ok hw x y) ok hw
theorem p_trialBy {w : ax_W} (hn : Nx w) (x y z : Int32) : Pair m_X6_trialBy m_X7_trialBy [.int x, .int y, .int z] w := by
  obtain ⟨T, C, h, L, K, hx, hm, ok, hw⟩ := hn
  exact pair_of hm (by omega) (by omega) (c_trialBy hx ok x y z) (fun w1 h1 => m_trialBy h1 ok hw x y z) ok hw
theorem p_drop {w : ax_W} (hn : Nx w) : Pair m_X6_drop m_X7_drop [] w := by
  obtain ⟨T, C, h, L, K, hx, hm, ok, hw⟩ := hn
  exact pair_of hm (by omega) (by omega) (c_drop hx ok) (fun w1 h1 => m_drop h1 ok) (okX_drop ok) hw
theorem p_lay {w : ax_W} (hn : Nx w) : Pair m_X6_lay m_X7_lay [] w := by
  obtain ⟨T, C, h, L, K, hx, hm, ok, hw⟩ := hn
  by_cases q : laB T = true
  · have hq := q
    have c1 := c_lay (n := 72) hx ok
    rw [if_pos q] at c1
    refine pair_of (dm := 5) hm (by omega) (by omega) c1 (fun w1 h1 => ?_) (okX_lay ok) (okW_raS T)
    have c2 := m_lay (n := 72) h1 ok.1 ok.2.1
    rw [if_pos q] at c2
    exact c2
  · have hq := q
    have c1 := c_lay (n := 72) hx ok
    rw [if_neg q] at c1
    refine pair_of (dm := 5) hm (by omega) (by omega) c1 (fun w1 h1 => ?_) ok hw
    have c2 := m_lay (n := 72) h1 ok.1 ok.2.1
    rw [if_neg q] at c2
    exact c2
theorem p_argue {w : ax_W} (hn : Nx w) (x : Int32) : Pair m_X6_argue m_X7_argue [.int x] w := by
  obtain ⟨T, C, h, L, K, hx, hm, ok, hw⟩ := hn
  by_cases q : inB x (cn C) = true
  · by_cases q2 : arB C h x = true
    · have hq := q
      have c1 := c_argue (n := 72) hx ok x
      rw [if_pos q, if_pos q2] at c1
      refine pair_of (dm := 2) hm (by omega) (by omega) c1 (fun w1 h1 => ?_) (okX_sh ok (okH_arg ok.2.1 ok.2.2.1 q2).1) hw
      have c2 := m_argue (n := 72) h1 ok x
      rw [if_pos q, if_pos q2] at c2
      exact c2
    · have hq := q
      have c1 := c_argue (n := 72) hx ok x
      rw [if_pos q, if_neg q2] at c1
      refine pair_of (dm := 2) hm (by omega) (by omega) c1 (fun w1 h1 => ?_) ok hw
      have c2 := m_argue (n := 72) h1 ok x
      rw [if_pos q, if_neg q2] at c2
      exact c2
  · have hq := q
    have c1 := c_argue (n := 72) hx ok x
    rw [if_neg q] at c1
    refine pair_of (dm := 2) hm (by omega) (by omega) c1 (fun w1 h1 => ?_) ok hw
    have c2 := m_argue (n := 72) h1 ok x
    rw [if_neg q] at c2
    exact c2
theorem p_strike {w : ax_W} (hn : Nx w) (x : Int32) : Pair m_X6_strike m_X7_strike [.int x] w := by
  obtain ⟨T, C, h, L, K, hx, hm, ok, hw⟩ := hn
  by_cases q : inB x (cn C) = true
  · by_cases q2 : (mbL h.1).testBit x.toNatClampNeg = true
    · have hq := q
      have c1 := c_strike (n := 72) hx ok x
      rw [if_pos q, if_pos q2] at c1
      refine pair_of (dm := 2) hm (by omega) (by omega) c1 (fun w1 h1 => ?_) ok hw
      have c2 := m_strike (n := 72) h1 ok x
      rw [if_pos q, if_pos q2] at c2
      exact c2
    · have hn10 := ok.2.1.1
      have hlt : x.toNatClampNeg < cn C := by
        obtain ⟨a, ha, e⟩ := inB_of q (by omega)
        rw [e, n_cl (by omega)]
        exact ha
      have c1 := c_strike (n := 72) hx ok x
      rw [if_pos q, if_neg q2] at c1
      refine pair_of (dm := 2) hm (by omega) (by omega) c1 (fun w1 h1 => ?_) (okX_strike ok hlt) hw
      have c2 := m_strike (n := 72) h1 ok x
      rw [if_pos q, if_neg q2] at c2
      exact c2
  · have hq := q
    have c1 := c_strike (n := 72) hx ok x
    rw [if_neg q] at c1
    refine pair_of (dm := 2) hm (by omega) (by omega) c1 (fun w1 h1 => ?_) ok hw
    have c2 := m_strike (n := 72) h1 ok x
    rw [if_neg q] at c2
    exact c2
theorem p_undo {w : ax_W} (hn : Nx w) : Pair m_X6_undo m_X7_undo [] w := by
  obtain ⟨T, C, h, L, K, hx, hm, ok, hw⟩ := hn
  by_cases q : 0 < L.length
  · have hq := q
    have c1 := c_undo (n := 72) hx ok
    rw [if_pos q] at c1
    refine pair_of (dm := 1) hm (by omega) (by omega) c1 (fun w1 h1 => ?_) (okX_undo ok q) hw
    have c2 := m_undo (n := 72) h1 ok
    rw [if_pos q] at c2
    exact c2
  · have hq := q
    have c1 := c_undo (n := 72) hx ok
    rw [if_neg q] at c1
    refine pair_of (dm := 1) hm (by omega) (by omega) c1 (fun w1 h1 => ?_) ok hw
    have c2 := m_undo (n := 72) h1 ok
    rw [if_neg q] at c2
    exact c2
theorem p_keep {w : ax_W} (hn : Nx w) : Pair m_X6_keep m_X7_keep [] w := by
  obtain ⟨T, C, h, L, K, hx, hm, ok, hw⟩ := hn
  by_cases q : K.length < 2
  · have hq := q
    have c1 := c_keep (n := 72) hx ok
    rw [if_pos q] at c1
    refine pair_of (dm := 1) hm (by omega) (by omega) c1 (fun w1 h1 => ?_) (okX_keep ok) hw
    have c2 := m_keep (n := 72) h1 ok
    rw [if_pos q] at c2
    exact c2
  · have hq := q
    have c1 := c_keep (n := 72) hx ok
    rw [if_neg q] at c1
    refine pair_of (dm := 1) hm (by omega) (by omega) c1 (fun w1 h1 => ?_) ok hw
    have c2 := m_keep (n := 72) h1 ok
    rw [if_neg q] at c2
    exact c2
theorem p_back {w : ax_W} (hn : Nx w) : Pair m_X6_back m_X7_back [] w := by
  obtain ⟨T, C, h, L, K, hx, hm, ok, hw⟩ := hn
  by_cases q : 0 < K.length
  · have hq := q
    have c1 := c_back (n := 72) hx ok
    rw [if_pos q] at c1
    refine pair_of (dm := 1) hm (by omega) (by omega) c1 (fun w1 h1 => ?_) (okX_back ok q) hw
    have c2 := m_back (n := 72) h1 ok
    rw [if_pos q] at c2
    exact c2
  · have hq := q
    have c1 := c_back (n := 72) hx ok
    rw [if_neg q] at c1
    refine pair_of (dm := 1) hm (by omega) (by omega) c1 (fun w1 h1 => ?_) ok hw
    have c2 := m_back (n := 72) h1 ok
    rw [if_neg q] at c2
    exact c2
