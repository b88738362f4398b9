/-! the JDK's String: length and charAt of the one constant -/
theorem dJ0_length_8abf5_0 : decode cJ0_length_8abf5 0 = .ok (.aload_n 0, 1) := by decide +kernel
theorem dJ0_length_8abf5_1 : decode cJ0_length_8abf5 1 = .ok (.getfield 9, 3) := by decide +kernel
theorem dJ0_length_8abf5_4 : decode cJ0_length_8abf5 4 = .ok (.arraylength, 1) := by decide +kernel
theorem dJ0_length_8abf5_5 : decode cJ0_length_8abf5 5 = .ok (.aload_n 0, 1) := by decide +kernel
theorem dJ0_length_8abf5_6 : decode cJ0_length_8abf5 6 = .ok (.invokevirtual 335, 3) := by decide +kernel
theorem dJ0_length_8abf5_9 : decode cJ0_length_8abf5 9 = .ok (.ishr, 1) := by decide +kernel
theorem dJ0_length_8abf5_10 : decode cJ0_length_8abf5 10 = .ok (.ireturn, 1) := by decide +kernel
theorem dJ0_charAt_5068e_0 : decode cJ0_charAt_5068e 0 = .ok (.aload_n 0, 1) := by decide +kernel
theorem dJ0_charAt_5068e_1 : decode cJ0_charAt_5068e 1 = .ok (.invokevirtual 492, 3) := by decide +kernel
theorem dJ0_charAt_5068e_4 : decode cJ0_charAt_5068e 4 = .ok (.ifCond .eq 12, 3) := by decide +kernel
theorem dJ0_charAt_5068e_7 : decode cJ0_charAt_5068e 7 = .ok (.aload_n 0, 1) := by decide +kernel
theorem dJ0_charAt_5068e_8 : decode cJ0_charAt_5068e 8 = .ok (.getfield 9, 3) := by decide +kernel
theorem dJ0_charAt_5068e_11 : decode cJ0_charAt_5068e 11 = .ok (.iload_n 1, 1) := by decide +kernel
theorem dJ0_charAt_5068e_12 : decode cJ0_charAt_5068e 12 = .ok (.invokestatic 495, 3) := by decide +kernel
theorem dJ0_charAt_5068e_15 : decode cJ0_charAt_5068e 15 = .ok (.ireturn, 1) := by decide +kernel
theorem dJ0_charAt_5068e_16 : decode cJ0_charAt_5068e 16 = .ok (.aload_n 0, 1) := by decide +kernel
theorem dJ0_charAt_5068e_17 : decode cJ0_charAt_5068e 17 = .ok (.getfield 9, 3) := by decide +kernel
theorem dJ0_charAt_5068e_20 : decode cJ0_charAt_5068e 20 = .ok (.iload_n 1, 1) := by decide +kernel
theorem dJ0_charAt_5068e_21 : decode cJ0_charAt_5068e 21 = .ok (.invokestatic 498, 3) := by decide +kernel
theorem dJ0_charAt_5068e_24 : decode cJ0_charAt_5068e 24 = .ok (.ireturn, 1) := by decide +kernel
theorem dJ0_coder_7d493_0 : decode cJ0_coder_7d493 0 = .ok (.getstatic 38, 3) := by decide +kernel
theorem dJ0_coder_7d493_3 : decode cJ0_coder_7d493 3 = .ok (.ifCond .eq 10, 3) := by decide +kernel
theorem dJ0_coder_7d493_6 : decode cJ0_coder_7d493 6 = .ok (.aload_n 0, 1) := by decide +kernel
theorem dJ0_coder_7d493_7 : decode cJ0_coder_7d493 7 = .ok (.getfield 15, 3) := by decide +kernel
theorem dJ0_coder_7d493_10 : decode cJ0_coder_7d493 10 = .ok (.goto 4, 3) := by decide +kernel
theorem dJ0_coder_7d493_13 : decode cJ0_coder_7d493 13 = .ok (.iconst 1, 1) := by decide +kernel
theorem dJ0_coder_7d493_14 : decode cJ0_coder_7d493 14 = .ok (.ireturn, 1) := by decide +kernel
theorem dJ0_isLatin1_aae02_0 : decode cJ0_isLatin1_aae02 0 = .ok (.getstatic 38, 3) := by decide +kernel
theorem dJ0_isLatin1_aae02_3 : decode cJ0_isLatin1_aae02 3 = .ok (.ifCond .eq 14, 3) := by decide +kernel
theorem dJ0_isLatin1_aae02_6 : decode cJ0_isLatin1_aae02 6 = .ok (.aload_n 0, 1) := by decide +kernel
theorem dJ0_isLatin1_aae02_7 : decode cJ0_isLatin1_aae02 7 = .ok (.getfield 15, 3) := by decide +kernel
theorem dJ0_isLatin1_aae02_10 : decode cJ0_isLatin1_aae02 10 = .ok (.ifCond .ne 7, 3) := by decide +kernel
theorem dJ0_isLatin1_aae02_13 : decode cJ0_isLatin1_aae02 13 = .ok (.iconst 1, 1) := by decide +kernel
theorem dJ0_isLatin1_aae02_14 : decode cJ0_isLatin1_aae02 14 = .ok (.goto 4, 3) := by decide +kernel
theorem dJ0_isLatin1_aae02_17 : decode cJ0_isLatin1_aae02 17 = .ok (.iconst 0, 1) := by decide +kernel
theorem dJ0_isLatin1_aae02_18 : decode cJ0_isLatin1_aae02 18 = .ok (.ireturn, 1) := by decide +kernel
theorem dJ0_checkIndex_df160_0 : decode cJ0_checkIndex_df160 0 = .ok (.iload_n 0, 1) := by decide +kernel
theorem dJ0_checkIndex_df160_1 : decode cJ0_checkIndex_df160 1 = .ok (.iload_n 1, 1) := by decide +kernel
theorem dJ0_checkIndex_df160_2 : decode cJ0_checkIndex_df160 2 = .ok (.getstatic 1053, 3) := by decide +kernel
theorem dJ0_checkIndex_df160_5 : decode cJ0_checkIndex_df160 5 = .ok (.invokestatic 1059, 3) := by decide +kernel
theorem dJ0_checkIndex_df160_8 : decode cJ0_checkIndex_df160 8 = .ok (.pop, 1) := by decide +kernel
theorem dJ0_checkIndex_df160_9 : decode cJ0_checkIndex_df160 9 = .ok (.return_, 1) := by decide +kernel
theorem dJ1_charAt_3b067_0 : decode cJ1_charAt_3b067 0 = .ok (.iload_n 1, 1) := by decide +kernel
theorem dJ1_charAt_3b067_1 : decode cJ1_charAt_3b067 1 = .ok (.aload_n 0, 1) := by decide +kernel
theorem dJ1_charAt_3b067_2 : decode cJ1_charAt_3b067 2 = .ok (.arraylength, 1) := by decide +kernel
theorem dJ1_charAt_3b067_3 : decode cJ1_charAt_3b067 3 = .ok (.invokestatic 9, 3) := by decide +kernel
theorem dJ1_charAt_3b067_6 : decode cJ1_charAt_3b067 6 = .ok (.aload_n 0, 1) := by decide +kernel
theorem dJ1_charAt_3b067_7 : decode cJ1_charAt_3b067 7 = .ok (.iload_n 1, 1) := by decide +kernel
theorem dJ1_charAt_3b067_8 : decode cJ1_charAt_3b067 8 = .ok (.baload, 1) := by decide +kernel
theorem dJ1_charAt_3b067_9 : decode cJ1_charAt_3b067 9 = .ok (.sipush 255, 3) := by decide +kernel
theorem dJ1_charAt_3b067_12 : decode cJ1_charAt_3b067 12 = .ok (.iand, 1) := by decide +kernel
theorem dJ1_charAt_3b067_13 : decode cJ1_charAt_3b067 13 = .ok (.i2c, 1) := by decide +kernel
theorem dJ1_charAt_3b067_14 : decode cJ1_charAt_3b067 14 = .ok (.ireturn, 1) := by decide +kernel
theorem dJ3_checkIndex_8e157_0 : decode cJ3_checkIndex_8e157 0 = .ok (.iload_n 0, 1) := by decide +kernel
theorem dJ3_checkIndex_8e157_1 : decode cJ3_checkIndex_8e157 1 = .ok (.ifCond .lt 8, 3) := by decide +kernel
theorem dJ3_checkIndex_8e157_4 : decode cJ3_checkIndex_8e157 4 = .ok (.iload_n 0, 1) := by decide +kernel
theorem dJ3_checkIndex_8e157_5 : decode cJ3_checkIndex_8e157 5 = .ok (.iload_n 1, 1) := by decide +kernel
theorem dJ3_checkIndex_8e157_6 : decode cJ3_checkIndex_8e157 6 = .ok (.if_icmp .lt 10, 3) := by decide +kernel
theorem dJ3_checkIndex_8e157_9 : decode cJ3_checkIndex_8e157 9 = .ok (.aload_n 2, 1) := by decide +kernel
theorem dJ3_checkIndex_8e157_10 : decode cJ3_checkIndex_8e157 10 = .ok (.iload_n 0, 1) := by decide +kernel
theorem dJ3_checkIndex_8e157_11 : decode cJ3_checkIndex_8e157 11 = .ok (.iload_n 1, 1) := by decide +kernel
theorem dJ3_checkIndex_8e157_12 : decode cJ3_checkIndex_8e157 12 = .ok (.invokestatic 95, 3) := by decide +kernel
theorem dJ3_checkIndex_8e157_15 : decode cJ3_checkIndex_8e157 15 = .ok (.athrow, 1) := by decide +kernel
theorem dJ3_checkIndex_8e157_16 : decode cJ3_checkIndex_8e157 16 = .ok (.iload_n 0, 1) := by decide +kernel
theorem dJ3_checkIndex_8e157_17 : decode cJ3_checkIndex_8e157 17 = .ok (.ireturn, 1) := by decide +kernel
theorem kg_38 : Cond.fieldLink RJ0 38 "java/lang/String" "COMPACT_STRINGS" "Z" ∈ TB := TB_in (List.mem_of_getElem? (i := 251) (by decide +kernel)) rfl
theorem kg_1053 : Cond.fieldLink RJ0 1053 "jdk/internal/util/Preconditions" "SIOOBE_FORMATTER" "Ljava/util/function/BiFunction;" ∈ TB := TB_in (List.mem_of_getElem? (i := 267) (by decide +kernel)) rfl
theorem kg_9 : Cond.fieldLink RJ0 9 "java/lang/String" "value" "[B" ∈ TB := TB_in (List.mem_of_getElem? (i := 973) (by decide +kernel)) rfl
theorem kg_15 : Cond.fieldLink RJ0 15 "java/lang/String" "coder" "B" ∈ TB := TB_in (List.mem_of_getElem? (i := 974) (by decide +kernel)) rfl
section STR
variable {M : ax_M} {d q1 q2 pc : Nat} {ls : List (Option Value)} {st : List Value} {w : ax_W} {n : Nat} {P : Option Value → ax_W → Nat → Prop}
theorem old_kept {B : ax_B} {s : State} {H : Heap} {locs : List Loc} (hF : ax_F B s H locs) : ∀ a : Nat, a < s.heap.size → ¬ (B.1 ≤ a) → H[a]? = s.heap[a]? := fun a _ h => hF.1 a (by omega)
theorem x_sgetc (hd : decode M.2.1 pc = .ok (.getfield 15, 3)) (ho : M.1.cls = RJ0) (kk : Run M d q1 q2 (pc + 3) ls (.int 0 :: st) w n P) : Run M d q1 q2 pc ls (.float 0 :: st) w n P := by
  intro B D cA p l e R s m args below meth c H locs ls' cells slots mc ms C hH hF hL h4 h5 h6 h7
  have k2 := kk B D cA p l e R s m args below meth c H locs ls' cells slots mc ms C hH hF hL h4 h5 h6 h7
  obtain ⟨⟨a, hv, -⟩, -⟩ := C.2.2.2.2.2.2.2.2.1.2.2.2.1
  obtain ⟨cf, k, fi, f, cell, g1, g2, g3, g4, g5, g6⟩ := ((hv 0 (by decide)).2.1).kept (old_kept hF)
  exact W.getf C.1 C.2.1 (by rw [← ho]; exact C.2.2.2.2.2.1) (C.2.2.2.2.2.2.2.1 _ kg_15) g1 g2 g3 g4 (v := .int 0) g5 rfl rfl hd k2
theorem x_sgetC (hd : decode M.2.1 pc = .ok (.getstatic 38, 3)) (ho : M.1.cls = RJ0) (kk : Run M d q1 q2 (pc + 3) ls (.int 1 :: st) w n P) : Run M d q1 q2 pc ls st w n P := by
  intro B D cA p l e R s m args below meth c H locs ls' cells slots mc ms C hH hF hL h4 h5 h6 h7
  have k2 := kk B D cA p l e R s m args below meth c H locs ls' cells slots mc ms C hH hF hL h4 h5 h6 h7
  obtain ⟨-, -, hz, -⟩ := C.2.2.2.2.2.2.2.2.1.2.2.2.1
  obtain ⟨cf, kf, fi, f, a, cell, g1, g2, g3, g4, g5, g6, g7, g8⟩ := hz.kept (old_kept hF)
  exact W.gets C.1 C.2.1 (by rw [← ho]; exact C.2.2.2.2.2.1) (C.2.2.2.2.2.2.2.1 _ kg_38) g1 g2 g3 g4 g5 (fun q => by rw [q] at g6; cases g6) (v := .int 1) g7 rfl hd k2
theorem x_slen (hd : decode M.2.1 pc = .ok (.getfield 9, 3)) (hd2 : decode M.2.1 (pc + 3) = .ok (.arraylength, 1)) (ho : M.1.cls = RJ0) (kk : Run M d q1 q2 (pc + 3 + 1) ls (.int (nI 127) :: st) w n P) : Run M d q1 q2 pc ls (.float 0 :: st) w n P := by
  intro B D cA p l e R s m args below meth c H locs ls' cells slots mc ms C hH hF hL h4 h5 h6 h7
  have k2 := kk B D cA p l e R s m args below meth c H locs ls' cells slots mc ms C hH hF hL h4 h5 h6 h7
  obtain ⟨⟨a, hv, -⟩, -⟩ := C.2.2.2.2.2.2.2.2.1.2.2.2.1
  obtain ⟨cf, k, fi, f, cell, g1, g2, g3, g4, g5, g6⟩ := ((hv 0 (by decide)).2.2.1).kept (old_kept hF)
  obtain ⟨cell2, b1, b2, b3, b4, b5, b6, b7⟩ := ((hv 0 (by decide)).2.2.2).kept (old_kept hF)
  refine W.getf C.1 C.2.1 (by rw [← ho]; exact C.2.2.2.2.2.1) (C.2.2.2.2.2.2.2.1 _ kg_9) g1 g2 g3 g4 (v := .ref a) g5 rfl rfl hd ?_
  exact W.alen (n := nI 127) C.1 C.2.1 b1 b2 b5 rfl rfl hd2 k2
/-- a method of the String constant -/
theorem x_cvS {M' : ax_M} {d' a1 a2 idx : Nat} {As : List Value} {P' : Option Value → ax_W → Nat → Prop} (hd : decode M.2.1 pc = .ok (.invokevirtual idx, 3)) (hl : LkV M.1.cls idx M' As.length) (hcls : M'.1.cls = "java/lang/String") (hdd : d' < d) (hcat : cat1 As = true) (hlen : Nat.blt As.length M'.2.2.1 = true) (hst : Nat.ble (st.map fun v => v.category).sum 8 = true) (hc : Run M' d' a1 a2 0 (l_ent M' (.float 0 :: As)) [] w n P') (kk : ∀ r w' n', P' r w' n' → Run M d q1 q2 (pc + 3) ls (r.toList ++ st) w' n' P) : Run M d (a1 + q1) (a2 + q2) pc ls (As.reverse ++ .float 0 :: st) w n P := by
  intro B D cA p l e R s m args below meth c H locs ls' cells slots mc ms C hH hF hL h4 h5 h6 h7
  obtain ⟨h0, hi, hin, hse⟩ := hl
  have hts := C.2.2.2.2.2.2.2.1
  have hU := C.2.2.2.2.2.2.2.2.1
  have hlen' : As.length < M'.2.2.1 := by simpa using hlen
  have hM := met_of h0.2.2.2.1 (As := .float 0 :: As) (by simpa [cat1, Value.category] using hcat) (by simp; omega) hc l B D cA
  have hpre := ax_pre (As := .float 0 :: As) hH hF hU
  have hrecv : ∃ cell : Cell, H[B.2]? = some cell ∧ cell.vm.isStatics = false ∧ s.vm.findClass M'.1.cls = some cell.cls := by
    obtain ⟨⟨a, hv, -⟩, -⟩ := hU.2.2.2.1
    obtain ⟨cell, b1, b2, b3, -⟩ := ((hv 0 (by decide)).1).kept (old_kept hF)
    exact ⟨cell, b1, b2, by rw [hcls]; exact b3⟩
  obtain ⟨hR1, hR2⟩ := ax_room (a1 := a1) (a2 := a2) h0 hdd C.2.2.2.2.2.2.2.2.2.1 C.2.2.2.2.2.2.2.2.2.2
  have hsz : ls'.size = M.2.2.1 := hL.1
  have hdesc : ∀ sig, parseMethodDescriptor M'.1.desc = some sig → As.length = sig.parameters.length := fun sig h => by
    have h2 := h0.2.2.1.2.2
    rw [h] at h2
    exact (Option.some.inj h2).symm
  have hr : va_Run p l e R s m args below meth c H locs cells slots a1 a2 (F0 m pc ls' ((As.reverse ++ .float 0 :: st).map (ax_v B))) (st.map (ax_v B)) (ax_Q B D cA P' ((Value.float 0 :: As).map (ax_v B)).toArray) (fun a => B.1 ≤ a) := by
    have hstack : (F0 m pc ls' ((As.reverse ++ .float 0 :: st).map (ax_v B))).stack = (As.map (ax_v B)).reverse ++ .ref B.2 :: st.map (ax_v B) := by simp [List.map_append, List.map_reverse, ax_v]
    rcases hi with hi | ⟨host, hi⟩
    · exact va_runV (As := As.map (ax_v B)) ⟨C.1, C.2.1, C.2.2.1, C.2.2.2.2.2.1, hts⟩ hM ⟨⟨rfl, rfl, hR1, hR2, ws_pay hts h0.1, List.mem_cons_self, hts _ h0.1, hts _ h0.2.1, ⟨h0.2.2.1.1, h0.2.2.1.2.1⟩, hdesc, hts _ hi⟩, hts _ hin, hts _ hse⟩ ⟨hpre.1, hrecv, hpre.2⟩ rfl (by simp) hsz hstack (ax_hW hst) hd ⟨by omega, by omega⟩
    · exact va_runVN (As := As.map (ax_v B)) ⟨C.1, C.2.1, C.2.2.1, C.2.2.2.2.2.1, hts⟩ hM ⟨⟨⟨rfl, rfl, hR1, hR2, ws_pay hts h0.1, List.mem_cons_self⟩, hts _ h0.1, hts _ h0.2.1, ⟨h0.2.2.1.1, h0.2.2.1.2.1⟩, hdesc, va_Nw.use (NB_on hi) (hU.2.1 _ hi)⟩, hts _ hin, hts _ hse⟩ ⟨hpre.1, hrecv, hpre.2⟩ rfl (by simp) hsz hstack (ax_hW hst) hd ⟨by omega, by omega⟩
  exact ax_go hr hF fun r w' n' H' locs' hp hH' hF' => kk r w' n' hp B D cA p l e R s m args below meth c H' locs' ls' (cells + a1) (slots + a2) mc ms C hH' hF' hL (by omega) (by omega) h6 h7
theorem x_cvS0p {M' : ax_M} {d' idx : Nat} {v : Value} (hd : decode M.2.1 pc = .ok (.invokevirtual idx, 3)) (hl : LkV M.1.cls idx M' 0) (hcls : M'.1.cls = "java/lang/String") (hdd : d' < d) (hlen : Nat.blt 0 M'.2.2.1 = true) (hst : Nat.ble (st.map fun v => v.category).sum 8 = true) (hc : Run M' d' 0 0 0 (l_ent M' [.float 0]) [] w n (Pu v w n)) (kk : Run M d q1 q2 (pc + 3) ls (v :: st) w n P) : Run M d q1 q2 pc ls (.float 0 :: st) w n P := by
  have h := x_cvS (As := []) (q1 := q1) (q2 := q2) hd hl hcls hdd rfl hlen hst hc (pu_kk (P' := P) kk)
  rw [Nat.zero_add, Nat.zero_add] at h
  exact h
theorem x_cvS1p {M' : ax_M} {d' idx : Nat} {y v : Value} (hd : decode M.2.1 pc = .ok (.invokevirtual idx, 3)) (hl : LkV M.1.cls idx M' 1) (hcls : M'.1.cls = "java/lang/String") (hdd : d' < d) (hcat : cat1 [y] = true) (hlen : Nat.blt 1 M'.2.2.1 = true) (hst : Nat.ble (st.map fun v => v.category).sum 8 = true) (hc : Run M' d' 0 0 0 (l_ent M' [.float 0, y]) [] w n (Pu v w n)) (kk : Run M d q1 q2 (pc + 3) ls (v :: st) w n P) : Run M d q1 q2 pc ls (y :: .float 0 :: st) w n P := by
  have h := x_cvS (As := [y]) (q1 := q1) (q2 := q2) hd hl hcls hdd hcat hlen hst hc (pu_kk (P' := P) kk)
  rw [Nat.zero_add, Nat.zero_add] at h
  exact h
/-- a contract at values of which only some are known -/
theorem met_gen {d' a1 a2 : Nat} {P' : Option Value → ax_W → Nat → Prop} {Vs : List Value} {ks : List (Option Value)} (X : State → Prop) (hpl : plainName M.1.cls = true) (hcat : cat1 Vs = true) (hlen : Vs.length ≤ M.2.2.1) (hks : ks.length = M.2.2.1) (h : Run M d' a1 a2 0 ks [] w n P') (l : Launch) (B : ax_B) (D : va_G) (cA : FieldType → ClassId) (hk : ∀ (i : Nat) (v : Value), ks[i]? = some (some v) → Vs[i]? = some (ax_v B v)) :
    Met l M.1 (wsOf M) (rmOf d' a1 a2) (va_Pc Vs (fun U => ax_H B D cA w n U.heap ∧ ax_U B D cA U ∧ X U)) (ax_Q B D cA P') a1 a2 (fun a => B.1 ≤ a) := by
  refine Met.ofW (cc := M.2.1) (maxL := M.2.2.1) (ret := M.2.2.2) hpl rfl ?_
  intro p e s m args below meth c s₁ Bd hml hv
  obtain ⟨rfl, hH, hU, -⟩ := hv
  have hts := atoms_spec (ws := wsOf M) Bd.pre
  have hcat' : ∀ x ∈ Vs, x.category = 1 := fun x hx => by simpa using List.all_eq_true.mp hcat x hx
  have hl := lv_entry Vs (n := M.2.2.1) (by rw [lg_sl_len _ hcat']; exact hlen)
  rw [lg_entry_eq]
  generalize (lg_sl Vs ++ List.replicate (M.2.2.1 - (lg_sl Vs).length) Slot.unset).toArray = ls' at hl ⊢
  refine h B D cA p l e _ s m _ below meth c s.heap [] ls' 0 0 a1 a2 ⟨Bd.exec, Bd.bytes, hml, Bd.returns, Bd.notSynchronized, findClass_of_methodNamed Bd.named, (name_of_methodNamed Bd.named Bd.method).1, fun w hw => hts w (List.mem_cons_of_mem _ hw), hU, Nat.le_refl _, Nat.le_refl _⟩ hH ⟨fun _ _ => rfl, fun _ h => by cases h⟩ ?_ (by omega) (by omega) (Nat.le_refl _) (Nat.le_refl _)
  refine ⟨hl.1, hl.2.1, hks, fun i v hv => ?_⟩
  have h2 := lv_args_at Vs 0 i (ax_v B v) hcat' (hk i v hv)
  rw [Nat.zero_add] at h2
  exact hl.2.2 _ h2
/-- a static call at any values -/
theorem w_csG {M' : ax_M} {d' idx : Nat} {Vs : List Value} {X : State → Prop} {P' : Option Value → ax_W → Nat → Prop} {B : ax_B} {D : va_G} {cA : FieldType → ClassId} {p : Program} {l : Launch} {e : Env} {R : Room} {s : State} {m : MethodId} {args : Array Value} {below : List Frame} {meth : Method} {c : Code} {H : Heap} {locs : List Loc} {ls' : Array Slot} {cells slots : Nat} {Q : State → Prop} (C : ax_X B D cA M d R p s m args meth c) (hH : ax_H B D cA w n H) (hF : ax_F B s H locs) (hsz : ls'.size = M.2.2.1) (hd : decode M.2.1 pc = .ok (.invokestatic idx, 3)) (hl : LkS M.1.cls idx M' Vs.length) (hdd : d' < d) (hst : Nat.ble (st.map fun v => v.category).sum 8 = true) (hc1 : cells ≤ R.cells) (hs1 : slots ≤ R.slots)
    (hM : Met l M'.1 (wsOf M') (rmOf d' 0 0) (va_Pc Vs (fun U => ax_H B D cA w n U.heap ∧ ax_U B D cA U ∧ X U)) (ax_Q B D cA P') 0 0 (fun a => B.1 ≤ a)) (hXb : ∀ (a : Array Value) (U : State) g mk, X U → X (U.calling g mk a)) (hX : ∀ U : State, U.heap = H → s.WarmedH U.vm → X U)
    (kk : ∀ r w' n' H' locs', P' r w' n' → ax_H B D cA w' n' H' → ax_F B s H' locs' → W p l e R s m args below meth c H' locs' cells slots Q (F0 m (pc + 3) ls' ((r.toList ++ st).map (ax_v B)))) : W p l e R s m args below meth c H locs cells slots Q (F0 m pc ls' (Vs.reverse ++ st.map (ax_v B))) := by
  obtain ⟨h0, hi, hs⟩ := hl
  have hts := C.2.2.2.2.2.2.2.1
  have hU := C.2.2.2.2.2.2.2.2.1
  have hpre : FrameBlind (va_Pc Vs (fun U => ax_H B D cA w n U.heap ∧ ax_U B D cA U ∧ X U)) ∧ ∀ U : State, U.heap = H → s.WarmedH U.vm → va_Pc Vs (fun U => ax_H B D cA w n U.heap ∧ ax_U B D cA U ∧ X U) Vs.toArray U :=
    ⟨fun a U g mk q => ⟨q.1, q.2.1, ax_U_go (s := U) (U := U.calling g mk a) (State.WarmedH.refl U) q.2.2.1.2.2.1 (fun _ _ => rfl) q.2.2.1, hXb a U g mk q.2.2.2⟩,
      fun U hU2 hW => ⟨rfl, by rw [hU2]; exact hH, ax_U_go hW (by rw [hU2, hH.1]; omega) (fun q hq => by rw [hU2]; exact hF.1 q hq) hU, hX U hU2 hW⟩⟩
  obtain ⟨hR1, hR2⟩ := ax_room (a1 := 0) (a2 := 0) h0 hdd C.2.2.2.2.2.2.2.2.2.1 C.2.2.2.2.2.2.2.2.2.2
  have hdesc : ∀ sig, parseMethodDescriptor M'.1.desc = some sig → Vs.length = sig.parameters.length := fun sig h => by
    have h2 := h0.2.2.1.2.2
    rw [h] at h2
    exact (Option.some.inj h2).symm
  have hr : va_Run p l e R s m args below meth c H locs cells slots 0 0 (F0 m pc ls' (Vs.reverse ++ st.map (ax_v B))) (st.map (ax_v B)) (ax_Q B D cA P' Vs.toArray) (fun a => B.1 ≤ a) := by
    rcases hi with hi | ⟨host, hi⟩
    · exact va_runS (As := Vs) ⟨C.1, C.2.1, C.2.2.1, C.2.2.2.2.2.1, hts⟩ hM ⟨⟨rfl, rfl, hR1, hR2, ws_pay hts h0.1, List.mem_cons_self, hts _ h0.1, hts _ h0.2.1, ⟨h0.2.2.1.1, h0.2.2.1.2.1⟩, hdesc, hts _ hi⟩, hts _ hs⟩ hpre rfl rfl hsz rfl (ax_hW hst) hd ⟨by omega, by omega⟩
    · exact va_runSN (As := Vs) ⟨C.1, C.2.1, C.2.2.1, C.2.2.2.2.2.1, hts⟩ hM ⟨⟨⟨rfl, rfl, hR1, hR2, ws_pay hts h0.1, List.mem_cons_self⟩, hts _ h0.1, hts _ h0.2.1, ⟨h0.2.2.1.1, h0.2.2.1.2.1⟩, hdesc, va_Nw.use (NB_on hi) (hU.2.1 _ hi)⟩, hts _ hs, trivial⟩ hpre rfl rfl hsz rfl (ax_hW hst) hd ⟨by omega, by omega⟩
  exact ax_go hr hF fun r w' n' H' locs' hp hH' hF' => kk r w' n' H' locs' hp hH' hF'
end STR
theorem c_coder {w : ax_W} {n : Nat} : Run m_J0_coder_7d493 0 0 0 0 (l_ent m_J0_coder_7d493 [.float 0]) [] w n (Pu (.int 0) w n) := by
  refine x_sgetC (pc := 0) dJ0_coder_7d493_0 rfl ?_
  refine x_if_eq_f (pc := 3) dJ0_coder_7d493_3 (tgt := 13) (by decide) (by decide +kernel) ?_
  refine x_aload_nS (pc := 6) dJ0_coder_7d493_6 rfl ?_
  refine x_sgetc (pc := 7) dJ0_coder_7d493_7 rfl ?_
  refine x_goto (pc := 10) dJ0_coder_7d493_10 (tgt := 14) (by decide) ?_
  exact x_iret (pc := 14) dJ0_coder_7d493_14 rfl rfl ⟨rfl, rfl, rfl⟩
theorem c_isLatin1 {w : ax_W} {n : Nat} : Run m_J0_isLatin1_aae02 0 0 0 0 (l_ent m_J0_isLatin1_aae02 [.float 0]) [] w n (Pu (.int (nI 1)) w n) := by
  refine x_sgetC (pc := 0) dJ0_isLatin1_aae02_0 rfl ?_
  refine x_if_eq_f (pc := 3) dJ0_isLatin1_aae02_3 (tgt := 17) (by decide) (by decide +kernel) ?_
  refine x_aload_nS (pc := 6) dJ0_isLatin1_aae02_6 rfl ?_
  refine x_sgetc (pc := 7) dJ0_isLatin1_aae02_7 rfl ?_
  refine x_if_ne_f (pc := 10) dJ0_isLatin1_aae02_10 (tgt := 17) (by decide) (fun q => q rfl) ?_
  refine x_iconst (pc := 13) dJ0_isLatin1_aae02_13 (v := nI 1) (by decide) ?_
  refine x_goto (pc := 14) dJ0_isLatin1_aae02_14 (tgt := 18) (by decide) ?_
  exact x_zret (pc := 18) dJ0_isLatin1_aae02_18 rfl (by decide) ⟨rfl, rfl, rfl⟩
theorem c_strLen {w : ax_W} {n : Nat} : Run m_J0_length_8abf5 1 0 0 0 (l_ent m_J0_length_8abf5 [.float 0]) [] w n (Pu (.int (nI 127)) w n) := by
  refine x_aload_nS (pc := 0) dJ0_length_8abf5_0 rfl ?_
  refine x_slen (pc := 1) dJ0_length_8abf5_1 dJ0_length_8abf5_4 rfl ?_
  refine x_aload_nS (pc := 5) dJ0_length_8abf5_5 rfl ?_
  refine x_cvS0p (pc := 6) dJ0_length_8abf5_6 ks_J0_335 rfl (by omega) rfl rfl c_coder ?_
  refine x_ishr (pc := 9) dJ0_length_8abf5_9 ?_
  refine Run.top (v' := .int (nI 127)) (by decide +kernel) ?_
  exact x_iret (pc := 10) dJ0_length_8abf5_10 rfl rfl ⟨rfl, rfl, rfl⟩
/-- the JDK's check of an index, in range -/
theorem c_pcheck {w : ax_W} {n i N : Nat} (hi : i < N) (hN : N < 100000) : Run m_J3_checkIndex_8e157 0 0 0 0 [some (.int (nI i)), some (.int (nI N)), none] [] w n (Pu (.int (nI i)) w n) := by
  refine x_iload_n (pc := 0) dJ3_checkIndex_8e157_0 rfl ?_
  refine x_if_lt_f (pc := 1) dJ3_checkIndex_8e157_1 (tgt := 9) (by decide) (nI_pos (by omega)) ?_
  refine x_iload_n (pc := 4) dJ3_checkIndex_8e157_4 rfl ?_
  refine x_iload_n (pc := 5) dJ3_checkIndex_8e157_5 rfl ?_
  refine x_icmp_lt_t (pc := 6) dJ3_checkIndex_8e157_6 (tgt := 16) (by decide) ((n_lt (by omega) (by omega)).mpr hi) ?_
  refine x_iload_n (pc := 16) dJ3_checkIndex_8e157_16 rfl ?_
  exact x_iret (pc := 17) dJ3_checkIndex_8e157_17 rfl rfl ⟨rfl, rfl, rfl⟩
theorem c_scheck {w : ax_W} {n i N : Nat} (hi : i < N) (hN : N < 100000) : Run m_J0_checkIndex_df160 1 0 0 0 (l_ent m_J0_checkIndex_df160 [.int (nI i), .int (nI N)]) [] w n (Vo (fun w' => w' = w) n) := by
  refine x_iload_n (pc := 0) dJ0_checkIndex_df160_0 rfl ?_
  refine x_iload_n (pc := 1) dJ0_checkIndex_df160_1 rfl ?_
  have kk : Run m_J0_checkIndex_df160 1 0 0 8 (l_ent m_J0_checkIndex_df160 [.int (nI i), .int (nI N)]) [.int (nI i)] w n (Vo (fun w' => w' = w) n) := by
    refine x_pop (pc := 8) dJ0_checkIndex_df160_8 rfl ?_
    exact x_vret (pc := 9) dJ0_checkIndex_df160_9 rfl (vo_i rfl)
  intro B D cA p l e R s m args below meth c H locs ls' cells slots mc ms C hH hF hL h4 h5 h6 h7
  obtain ⟨-, -, -, fm, hfm, hz⟩ := C.2.2.2.2.2.2.2.2.1.2.2.2.1
  obtain ⟨cf, kf, fi, f, a, cell, g1, g2, g3, g4, g5, g6, g7, g8⟩ := hz.kept (old_kept hF)
  refine W.gets C.1 C.2.1 C.2.2.2.2.2.1 (C.2.2.2.2.2.2.2.1 _ kg_1053) g1 g2 g3 g4 g5 (fun q => by rw [q] at g6; cases g6) (v := fm) g7 rfl dJ0_checkIndex_df160_2 ?_
  have hM := met_gen (M := m_J3_checkIndex_8e157) (Vs := [.int (nI i), .int (nI N), fm]) (fun _ => True) (by decide +kernel) (by simp only [cat1, List.all_cons, List.all_nil, hfm]; rfl) (Nat.le_of_ble_eq_true rfl) rfl (c_pcheck (w := w) (n := n) hi hN) l B D cA (fun k v hv => by
    match k, hv with
    | 0, hv => cases hv; rfl
    | 1, hv => cases hv; rfl
    | 2, hv => cases hv
    | k + 3, hv => cases hv)
  refine w_csG (st := []) (Vs := [.int (nI i), .int (nI N), fm]) C hH hF hL.1 dJ0_checkIndex_df160_5 ks_J0_1059 (by omega) rfl (by omega) (by omega) hM (fun _ _ _ _ _ => trivial) (fun _ _ _ => trivial) (fun r w' n' H' locs' hp hH' hF' => ?_)
  obtain ⟨rfl, rfl, rfl⟩ := hp
  exact kk B D cA p l e R s m args below meth c H' locs' ls' cells slots mc ms C hH' hF' hL (by omega) (by omega) h6 h7
/-- the letter at k -/
def fc (k : Nat) : Nat := (tx_first.toList.map (fun ch => ch.toNat)).getD k 0
theorem fc_ok : ∀ k, k < 127 → fc k < 128 ∧ ((tx_bytes.getD k 0 &&& 255).toUInt32 % 65536).toInt32 = nI (fc k) ∧ narrow .char (.int (nI (fc k))) = .int (nI (fc k)) := by decide +kernel
theorem fc_lo : ∀ k, k < 127 → 32 ≤ fc k ∧ fc k ≤ 126 := by decide +kernel
theorem met_lat {w : ax_W} {n a k : Nat} (hk : k < 127) (l : Launch) (B : ax_B) (D : va_G) (cA : FieldType → ClassId) :
    Met l yJ1_charAt_3b067 (wsOf m_J1_charAt_3b067) (rmOf 2 0 0) (va_Pc [.ref a, .int (nI k)] (fun U => ax_H B D cA w n U.heap ∧ ax_U B D cA U ∧ va_T .byte a 127 (fun j => .int (tx_bytes.getD j 0)) (fun q => B.1 ≤ q) U U.heap)) (ax_Q B D cA (Pu (.int (nI (fc k))) w n)) 0 0 (fun a => B.1 ≤ a) := by
  obtain ⟨f1, f2, f3⟩ := fc_ok k hk
  refine Met.ofW (cc := cJ1_charAt_3b067) (maxL := 2) (ret := some .char) (by decide +kernel) rfl ?_
  intro p e s m args below meth c s₁ Bd hml hv
  obtain ⟨rfl, hH, hU, hT⟩ := hv
  have hts := atoms_spec (ws := wsOf m_J1_charAt_3b067) Bd.pre
  have hl := lv_entry [.ref a, .int (nI k)] (n := 2) (Nat.le_of_ble_eq_true rfl)
  rw [lg_entry_eq]
  generalize (lg_sl [Value.ref a, .int (nI k)] ++ List.replicate (2 - (lg_sl [Value.ref a, .int (nI k)]).length) Slot.unset).toArray = ls' at hl ⊢
  have hl : lv_has ls' 2 [(0, .ref a), (1, .int (nI k))] := hl
  have C : ax_X B D cA m_J1_charAt_3b067 2 (rmOf 2 0 0) p s m _ meth c := ⟨Bd.exec, Bd.bytes, hml, Bd.returns, Bd.notSynchronized, findClass_of_methodNamed Bd.named, (name_of_methodNamed Bd.named Bd.method).1, fun w hw => hts w (List.mem_cons_of_mem _ hw), hU, Nat.le_refl _, Nat.le_refl _⟩
  have hF0 : ax_F B s s.heap [] := ⟨fun _ _ => rfl, fun _ h => by cases h⟩
  have hM := met_of (M := m_J0_checkIndex_df160) (As := [.int (nI k), .int (nI 127)]) (by decide +kernel) rfl (Nat.le_of_ble_eq_true rfl) (c_scheck (w := w) (n := n) hk (by decide)) l B D cA
  have hM2 : Met l yJ0_checkIndex_df160 (wsOf m_J0_checkIndex_df160) (rmOf 1 0 0) (va_Pc [.int (nI k), .int (nI 127)] (fun U => ax_H B D cA w n U.heap ∧ ax_U B D cA U ∧ True)) (ax_Q B D cA (Vo (fun w' => w' = w) n)) 0 0 (fun a => B.1 ≤ a) := met_gen (M := m_J0_checkIndex_df160) (ks := l_ent m_J0_checkIndex_df160 [.int (nI k), .int (nI 127)]) (fun _ => True) (by decide +kernel) rfl (Nat.le_of_ble_eq_true rfl) rfl (c_scheck (w := w) (n := n) hk (by decide)) l B D cA (fun i v hv => by
    match i, hv with
    | 0, hv => cases hv; rfl
    | 1, hv => cases hv; rfl
    | i + 2, hv => cases hv)
  refine lv_iload_n C.1 C.2.1 dJ1_charAt_3b067_0 rfl (lv_at hl 1 rfl) ?_
  refine lv_aload_n C.1 C.2.1 dJ1_charAt_3b067_1 rfl (lv_at hl 0 rfl) ?_
  obtain ⟨cell2, b1, b2, b3, b4, b5, b6, b7⟩ := hT
  refine W.alen (n := nI 127) C.1 C.2.1 b1 b2 b5 rfl rfl dJ1_charAt_3b067_2 ?_
  refine w_csG (st := []) (Vs := [.int (nI k), .int (nI 127)]) C hH hF0 hl.1 dJ1_charAt_3b067_3 ks_J1_9 (by omega) rfl (Nat.zero_le _) (Nat.zero_le _) hM2 (fun _ _ _ _ _ => trivial) (fun _ _ _ => trivial) (fun r w' n' H' locs' hp hH' hF' => ?_)
  obtain ⟨rfl, rfl, rfl⟩ := hp
  refine lv_aload_n C.1 C.2.1 dJ1_charAt_3b067_6 rfl (lv_at hl 0 rfl) ?_
  refine lv_iload_n C.1 C.2.1 dJ1_charAt_3b067_7 rfl (lv_at hl 1 rfl) ?_
  have hcl : (nI k).toNatClampNeg = k := n_cl (by omega)
  refine W.bald (v := .int (tx_bytes.getD k 0)) C.1 C.2.1 (by rw [old_kept hF' a (Array.getElem?_eq_some_iff.mp b1).1 b7]; exact b1) b2 b3 (fun q => q.elim (fun q => nI_pos (by omega) q) (fun q => by rw [hcl] at q; omega)) (by rw [hcl]; exact b6 k hk) rfl rfl dJ1_charAt_3b067_8 ?_
  refine lv_sipush (v := 255) C.1 C.2.1 dJ1_charAt_3b067_9 (by decide) ?_
  refine lv_iand C.1 C.2.1 dJ1_charAt_3b067_12 ?_
  refine lv_i2c (v := nI (fc k)) C.1 C.2.1 dJ1_charAt_3b067_13 f2 ?_
  exact W.zret C.1 C.2.1 (C.2.2.2.1.trans rfl) f3 (fun t ht _ => ⟨some (.int (nI (fc k))), w', n', rfl, ⟨rfl, rfl, rfl⟩, by rw [ht]; exact hH', fun q hq => by rw [ht]; exact hF'.1 q hq⟩) hF'.2 dJ1_charAt_3b067_14 C.2.2.2.2.1
theorem c_strAt {w : ax_W} {n k : Nat} (hk : k < 127) : Run m_J0_charAt_5068e 3 0 0 0 (l_ent m_J0_charAt_5068e [.float 0, .int (nI k)]) [] w n (Pu (.int (nI (fc k))) w n) := by
  obtain ⟨f1, f2, f3⟩ := fc_ok k hk
  refine x_aload_nS (pc := 0) dJ0_charAt_5068e_0 rfl ?_
  refine x_cvS0p (pc := 1) dJ0_charAt_5068e_1 ks_J0_492 rfl (d' := 0) (by omega) rfl rfl c_isLatin1 ?_
  refine x_if_eq_f (pc := 4) dJ0_charAt_5068e_4 (tgt := 16) (by decide) (by decide +kernel) ?_
  refine x_aload_nS (pc := 7) dJ0_charAt_5068e_7 rfl ?_
  have kk : Run m_J0_charAt_5068e 3 0 0 15 (l_ent m_J0_charAt_5068e [.float 0, .int (nI k)]) [.int (nI (fc k))] w n (Pu (.int (nI (fc k))) w n) := x_iret (pc := 15) dJ0_charAt_5068e_15 rfl f3 ⟨rfl, rfl, rfl⟩
  intro B D cA p l e R s m args below meth c H locs ls' cells slots mc ms C hH hF hL h4 h5 h6 h7
  obtain ⟨⟨a, hv, -⟩, -⟩ := C.2.2.2.2.2.2.2.2.1.2.2.2.1
  have hT := (hv 0 (by decide)).2.2.2
  simp only [List.getD_cons_zero] at hT
  obtain ⟨cf, k2, fi, f, cell, g1, g2, g3, g4, g5, g6⟩ := ((hv 0 (by decide)).2.2.1).kept (old_kept hF)
  refine W.getf C.1 C.2.1 C.2.2.2.2.2.1 (C.2.2.2.2.2.2.2.1 _ kg_9) g1 g2 g3 g4 (v := .ref a) g5 rfl rfl dJ0_charAt_5068e_8 ?_
  refine lv_iload_n C.1 C.2.1 dJ0_charAt_5068e_11 rfl (hL.2.2.2 1 (.int (nI k)) rfl) ?_
  refine w_csG (st := []) (Vs := [.ref a, .int (nI k)]) (X := fun U => va_T .byte a 127 (fun j => .int (tx_bytes.getD j 0)) (fun q => B.1 ≤ q) U U.heap) C hH hF hL.1 dJ0_charAt_5068e_12 ks_J0_495 (d' := 2) (by omega) rfl (by omega) (by omega) (met_lat hk l B D cA) (fun b U g mk q => va_T.moved (u := U) (U := U.calling g mk b) (Vm.Alike.refl U.vm) q) (fun U hU hW => ?_) (fun r w' n' H' locs' hp hH' hF' => ?_)
  · have h8 := (va_T.moved hW.alike hT).kept (old_kept hF)
    rw [hU]
    exact h8
  · obtain ⟨rfl, rfl, rfl⟩ := hp
    exact kk B D cA p l e R s m args below meth c H' locs' ls' cells slots mc ms C hH' hF' hL (by omega) (by omega) h6 h7
theorem c_addAll {w : ax_W} {n k : Nat} (hT : isT w k []) : Run m_X3_addAll 4 0 0 0 (l_ent m_X3_addAll [.ref k, .float 0]) [] w n (Vo (fun w' => isT w' k ((List.range 127).map fc) ∧ sameW w w' k 2) n) := by
  have loop : ∀ m i (wi : ax_W), i + m = 127 → isT wi k ((List.range i).map fc) → sameW w wi k 2 → Run m_X3_addAll 4 0 0 2 [some (.ref k), some (.float 0), some (.int (nI i))] [] wi n (Vo (fun w' => isT w' k ((List.range 127).map fc) ∧ sameW w w' k 2) n) := by
    intro m
    induction m with
    | zero =>
      intro i wi hi hT hq
      have hii : i = 127 := by omega
      subst hii
      refine x_iload_n (pc := 2) dX3_addAll_2 rfl ?_
      refine x_aload_nS (pc := 3) dX3_addAll_3 rfl ?_
      refine x_cvS0p (pc := 4) dX3_addAll_4 ks_X3_23 rfl (d' := 1) (by omega) rfl rfl c_strLen ?_
      refine x_icmp_ge_t (pc := 7) dX3_addAll_7 (tgt := 26) (by decide) (nI_le (by omega) (by omega)) ?_
      exact x_vret (pc := 26) dX3_addAll_26 rfl (vo_i ⟨hT, hq⟩)
    | succ m ih =>
      intro i wi hi hT hq
      obtain ⟨f1, -, -⟩ := fc_ok i (by omega)
      have okt : okT ((List.range i).map fc) := by
        refine ⟨by simp; omega, fun j hj => ?_⟩
        have hj' : j < i := by simpa using hj
        have e : ((List.range i).map fc).getD j 0 = fc j := by
          rw [List.getD_eq_getElem?_getD, List.getElem?_map, List.getElem?_range hj', Option.map_some, Option.getD_some]
        rw [e]
        exact fc_lo j (by omega)
      refine x_iload_n (pc := 2) dX3_addAll_2 rfl ?_
      refine x_aload_nS (pc := 3) dX3_addAll_3 rfl ?_
      refine x_cvS0p (pc := 4) dX3_addAll_4 ks_X3_23 rfl (d' := 1) (by omega) rfl rfl c_strLen ?_
      refine x_icmp_ge_f (pc := 7) dX3_addAll_7 (tgt := 26) (by decide) (nI_ge (by omega) (by omega)) ?_
      refine x_aload_n (pc := 10) dX3_addAll_10 rfl ?_
      refine x_aload_nS (pc := 11) dX3_addAll_11 rfl ?_
      refine x_iload_n (pc := 12) dX3_addAll_12 rfl ?_
      refine x_cvS1p (pc := 13) dX3_addAll_13 ks_X3_28 rfl (d' := 3) (by omega) rfl rfl rfl (c_strAt (show i < 127 by omega)) ?_
      refine x_cv1 (q1 := 0) (q2 := 0) (ci := 3) (pc := 16) dX3_addAll_16 ks_X3_32 hT.1 (by rfl) (by omega) (by rfl) (by rfl) (by rfl) (c_scriptAdd hT okt (show fc i < 200 by omega)) (va_kk fun v w' hP => ?_)
      obtain ⟨rfl, hT', hq'⟩ := hP
      rw [if_pos (by simp; omega)] at hT'
      refine x_pop (pc := 19) dX3_addAll_19 rfl ?_
      refine xn_iinc (pc := 20) dX3_addAll_20 rfl rfl ?_
      refine x_goto (pc := 23) dX3_addAll_23 (tgt := 2) (by decide) ?_
      exact ih (i + 1) w' (by omega) (by rw [List.range_succ, List.map_append]; exact hT') (fun j hj => (hq' j hj).trans (hq j hj))
  refine x_iconst (pc := 0) dX3_addAll_0 (v := nI 0) (by decide) ?_
  refine x_istore_n (pc := 1) dX3_addAll_1 rfl ?_
  exact loop 127 0 w (by omega) hT (fun _ _ => rfl)
