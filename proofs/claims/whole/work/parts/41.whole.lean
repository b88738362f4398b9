/-! the claim -/
set_option maxRecDepth 100000 in
/-- the constant's bytes, as the claim gives them -/
theorem st_bytes : ∀ j, j < 127 → (flatC (Jvm.Cond.and given_1 narrow_1))[13 + j]? = some (Cond.eq (.elem (.field (.string "HeardBackward" 62) "java/lang/String" "value" "[B") (.int (Int32.ofNat j))) (.int (tx_bytes.getD j 0))) := by decide +kernel
theorem st_arr {s : State} {A : Array Value} {type : FieldType} (h : (Cond.arrayClass type).before A s = true) : ∃ c : ClassId, s.vm.findClass ("[" ++ type.toString) = some c ∧ ArrOfT s c type := by
  obtain ⟨c, k, comp, h1, h2, h3⟩ := Cond.arrayClass_spec h
  exact ⟨c, h1, fun n z => ⟨fun k q => (by cases q), k, h2, comp, h3⟩⟩
theorem st_cls {s : State} {A : Array Value} (hts : ∀ w ∈ lw_tbl, w.before A s = true) : ∃ D : va_G, ∀ (k : Nat) (q : vw_C), vwCl[k]? = some q → u_Kn s q.1 q.2.1 q.2.2 (D.1 k) (D.2 k) := by
  have un : ∀ {w : Cond}, w ∈ TB → w.before A s = true := fun h => hts _ (List.mem_filter.mp h).1
  obtain ⟨c0, i0, k0⟩ := u_known (C := RX0) (T := TX0) (N := 8) (n := 8) hts inX_0 (un kT_X0)
  obtain ⟨c1, i1, k1⟩ := u_known (C := RX1) (T := TX1) (N := 3) (n := 3) hts inX_1 (un kT_X1)
  obtain ⟨c2, i2, k2⟩ := u_known (C := RX2) (T := TX2) (N := 2) (n := 2) hts inX_2 (un kT_X2)
  obtain ⟨c3, i3, k3⟩ := u_known (C := RX3) (T := TX3) (N := 2) (n := 2) hts inX_3 (un kT_X3)
  obtain ⟨c4, i4, k4⟩ := u_known (C := RX4) (T := TX4) (N := 3) (n := 3) hts inX_4 (un kT_X4)
  obtain ⟨c5, i5, k5⟩ := u_known (C := RX5) (T := TX5) (N := 10) (n := 10) hts inX_5 (un kT_X5)
  obtain ⟨c6, i6, k6⟩ := u_known (C := RX6) (T := TX6) (N := 9) (n := 9) hts inX_6 (un kT_X6)
  obtain ⟨c7, i7, k7⟩ := u_known (C := RX7) (T := TX7) (N := 26) (n := 26) hts inX_7 (un kT_X7)
  refine ⟨(fun k => if k = 0 then c0 else if k = 1 then c1 else if k = 2 then c2 else if k = 3 then c3 else if k = 4 then c4 else if k = 5 then c5 else if k = 6 then c6 else c7, fun k => if k = 0 then i0 else if k = 1 then i1 else if k = 2 then i2 else if k = 3 then i3 else if k = 4 then i4 else if k = 5 then i5 else if k = 6 then i6 else i7), ?_⟩
  intro k q hq
  match k, hq with
  | 0, hq => cases hq; exact k0
  | 1, hq => cases hq; exact k1
  | 2, hq => cases hq; exact k2
  | 3, hq => cases hq; exact k3
  | 4, hq => cases hq; exact k4
  | 5, hq => cases hq; exact k5
  | 6, hq => cases hq; exact k6
  | 7, hq => cases hq; exact k7
  | k + 8, hq => simp [vwCl] at hq
set_option maxRecDepth 100000 in
theorem st_S {s : State} {A : Array Value} (hts : ∀ w ∈ lw_tbl, w.before A s = true) (hg : (Jvm.Cond.and given_1 narrow_1).before A s = true) : ∃ k : Nat, ax_S (s.heap.size, k) s := by
  have hs := flat_of_before _ hg
  obtain ⟨aK, aV, hv, he⟩ := vk_Sof (A := fun q : Nat => s.heap.size ≤ q) (args := A) (s := s) (N := 1) (tm := fun _ => .string "HeardBackward" 62) (len := [127]) (byt := [tx_bytes])
    (fun i hi => by
      have e : i = 0 := by omega
      subst e; decide)
    (fun i _ => show (Cond.exactly (.string "HeardBackward" 62) "java/lang/String").before A s = true from hs _ (by decide +kernel))
    (fun i _ => show (Cond.eq (.field (.string "HeardBackward" 62) "java/lang/String" "coder" "B") (.int 0)).before A s = true from hs _ (by decide +kernel))
    (fun i _ => show (Cond.arrayOf (.field (.string "HeardBackward" 62) "java/lang/String" "value" "[B") .byte).before A s = true from hs _ (by decide +kernel))
    (fun i hi => by
      have e : i = 0 := by omega
      subst e
      show (Cond.eq (.length (.field (.string "HeardBackward" 62) "java/lang/String" "value" "[B")) (.int (Int32.ofNat 127))).before A s = true
      exact hs _ (by decide +kernel))
    (fun i hi j hj => by
      have e : i = 0 := by omega
      subst e
      exact hs _ (List.mem_of_getElem? (st_bytes j hj)))
    (fun i j hi hj hne => absurd (by omega) hne)
    (fun a h9 => Nat.not_le.mpr h9)
  obtain ⟨fv, hf, hfr⟩ := Cond.isRef_spec (hs (Cond.isRef (.static "jdk/internal/util/Preconditions" "SIOOBE_FORMATTER" "Ljava/util/function/BiFunction;")) (by decide +kernel))
  have z1 : va_Z "java/lang/String" "COMPACT_STRINGS" "Z" (.int 1) (fun q => s.heap.size ≤ q) s s.heap := va_Zof (hts (.laysStatic "java/lang/String" "COMPACT_STRINGS" "Z") (by decide +kernel)) (hts (.initialized "java/lang/String") (by decide +kernel)) (va_eqi (hs _ (by decide +kernel))) (fun a h9 => Nat.not_le.mpr h9)
  have z2 : va_Z "jdk/internal/util/Preconditions" "SIOOBE_FORMATTER" "Ljava/util/function/BiFunction;" fv (fun q => s.heap.size ≤ q) s s.heap := va_Zof (hts (.laysStatic "jdk/internal/util/Preconditions" "SIOOBE_FORMATTER" "Ljava/util/function/BiFunction;") (by decide +kernel)) (hts (.initialized "jdk/internal/util/Preconditions") (by decide +kernel)) hf (fun a h9 => Nat.not_le.mpr h9)
  refine ⟨aK 0, ⟨aV 0, ?_⟩, vk_R.of (hts (.stringRef "HeardBackward" 62 tx_first) (by decide +kernel)) (he 0 (by decide)), z1, fv, ?_, z2⟩
  · refine ⟨fun i hi => ?_, fun i j hi hj _ => by omega⟩
    have e : i = 0 := by omega
    subst e
    exact hv.1 0 hi
  · cases fv <;> first | rfl | cases hfr
set_option maxHeartbeats 4000000 in
set_option maxRecDepth 100000 in
/-- YOUR PART: from the entry, for every script of at most 256 ints, the law comes to its end with true ('hflags': the launch's flags, for a law that throws: no stack traces) -/
theorem whole_start {p : Program} {e : Env} {s : State} {m : MethodId} {below : List Frame} {meth : Method} {c : Code} (l : Launch) (hflags : l.flags = flags0) {b L : Nat} {xs : Nat → Int32} (hL : L ≤ 256) (C0 : lw_At p s m meth c b L xs) : W p l e room_1 s m #[Value.ref b] below meth c s.heap [] 0 0 (lw_Z below #[Value.ref b] s) (entryFrame m ([Value.ref b] : List Value).toArray 4) := by
  obtain ⟨hx, hb, hr, hml, hown, hts, hX, hbl, hlocks, hgv⟩ := id C0
  have un : ∀ {w : Cond}, w ∈ TB → w.before #[Value.ref b] s = true := fun h => hts _ (List.mem_filter.mp h).1
  obtain ⟨D, hD⟩ := st_cls hts
  obtain ⟨kS, hS⟩ := st_S hts hgv
  obtain ⟨ci, ci1, ci2⟩ := st_arr (un kY_I)
  obtain ⟨cb, cb1, cb2⟩ := st_arr (un kY_B)
  have hAO := hts (Cond.arrayOver (.object RX1)) (by decide +kernel)
  obtain ⟨comp, ch, kh, h1, h2, h3, h4, h5⟩ := Cond.arrayOver_spec hAO
  obtain ⟨cA, q1, q2, q3⟩ : ∃ cA : FieldType → ClassId, cA .int = ci ∧ cA .byte = cb ∧ cA ty_H = ch := ⟨fun ty => match ty with | .int => ci | .byte => cb | _ => ch, rfl, rfl, rfl⟩
  have hU : ax_U (s.heap.size, kS) D cA s := by
    refine ⟨⟨hD, fun j q hq => ?_⟩, fun w hw => va_Nw.of (NB_on hw) (hts _ (List.mem_filter.mp hw).1), Nat.le_refl _, hS, va_AO.of hAO⟩
    match j, hq with
    | 0, hq =>
      cases hq
      show ArrOfT s (cA .int) .int ∧ va_RA s (cA .int) .int
      rw [q1]
      exact ⟨ci2, ci1⟩
    | 1, hq =>
      cases hq
      show ArrOfT s (cA .byte) .byte ∧ va_RA s (cA .byte) .byte
      rw [q2]
      exact ⟨cb2, cb1⟩
    | 2, hq =>
      cases hq
      show ArrOfT s (cA ty_H) ty_H ∧ va_RA s (cA ty_H) ty_H
      rw [q3]
      exact ⟨fun n z => ⟨fun k q => (by cases q), kh, h3, comp, h4⟩, kh, comp, h3, h4, h1, h5⟩
    | j + 3, hq => simp at hq
  have XX : ax_X (s.heap.size, kS) D cA (m_L meth.name) 2000 room_1 p s m #[.ref b] meth c := ⟨hx, hb, hml, hr, hlocks, hown, rfl, fun w hw => un hw, hU, by decide, by decide⟩
  have X : LwX meth.name (s.heap.size, kS) D cA p s m meth c b L xs := ⟨XX, hX, hbl, hL, rfl⟩
  have hH : ax_H (s.heap.size, kS) D cA (fun _ => ax_dead) 0 s.heap := ⟨rfl, fun k h => absurd h (Nat.not_lt_zero k), fun _ _ => rfl⟩
  have hF : ax_F (s.heap.size, kS) s s.heap [] := ⟨fun _ _ => rfl, fun _ h => by cases h⟩
  have hl := lv_entry ([.ref b]) (n := 4) (Nat.le_of_ble_eq_true rfl)
  rw [lg_entry_eq]
  generalize (lg_sl ([.ref b]) ++ List.replicate (4 - (lg_sl ([.ref b])).length) Slot.unset).toArray = ls at hl ⊢
  have hl : lv_has ls 4 [(0, .ref b)] := hl
  refine w_new (B := (s.heap.size, kS)) (M := m_L meth.name) (st := []) (ci := 6) (fs := df_6) XX hH hF dL_law_0 rfl kC_L_7 kT_X6 kI_X6 df_ok_6 (fun _ => rfl) (by decide) (by decide) (fun H1 hH1 hF1 => ?_)
  have hw0 : ax_up (fun _ => ax_dead) 0 (ao 6 df_6) 0 = ao 6 df_6 := up_same _ _ _
  generalize ax_up (fun _ => ax_dead) 0 (ao 6 df_6) = w1 at hw0 hH1
  refine lv_dup hx hb dL_law_3 rfl ?_
  refine w_ci (B := (s.heap.size, kS)) (M := m_L meth.name) (st := [.ref 0]) (b := 0) XX hH1 hF1 hl.1 dL_law_4 ks_L_9 (by omega) rfl rfl (by decide) (by decide) (c_xInit hw0) (fun r w' n' H' locs' hp hH' hF' => ?_)
  obtain ⟨rfl, rfl, hx1⟩ := hp
  refine lv_astore_n (lv' := [(1, .ref (s.heap.size + 0)), (0, .ref b)]) hx hb dL_law_7 rfl hl (by decide) rfl (fun ls hl => ?_)
  refine w_new (B := (s.heap.size, kS)) (M := m_L meth.name) (st := []) (ci := 7) (fs := df_7) XX hH' hF' dL_law_8 rfl kC_L_10 kT_X7 kI_X7 df_ok_7 (fun _ => rfl) (by decide) (by decide) (fun H2 hH2 hF2 => ?_)
  have hw51 : ax_up w' 51 (ao 7 df_7) 51 = ao 7 df_7 := up_same _ _ _
  have hx2 : isX (ax_up w' 51 (ao 7 df_7)) [] (raS T0).2 noH [] [] := hx1.go fun j hj => up_ne _ _ (by omega)
  generalize ax_up w' 51 (ao 7 df_7) = w2 at hw51 hx2 hH2
  refine lv_dup hx hb dL_law_11 rfl ?_
  refine w_ci (B := (s.heap.size, kS)) (M := m_L meth.name) (st := [.ref 51]) (b := 51) XX hH2 hF2 hl.1 dL_law_12 ks_L_12 (by omega) rfl rfl (by decide) (by decide) (m_mInit hw51) (fun r w3 n3 H3 locs3 hp hH3 hF3 => ?_)
  obtain ⟨rfl, rfl, hm3, hq⟩ := hp
  have hx3 := hx2.go hq
  refine lv_astore_n (lv' := [(2, .ref (s.heap.size + 51)), (1, .ref (s.heap.size + 0)), (0, .ref b)]) hx hb dL_law_15 rfl hl (by decide) rfl (fun ls hl => ?_)
  refine lv_iconst (v := nI 0) hx hb dL_law_16 (by decide) ?_
  refine lv_istore_n (lv' := [(3, .int (nI 0)), (2, .ref (s.heap.size + 51)), (1, .ref (s.heap.size + 0)), (0, .ref b)]) hx hb dL_law_17 rfl hl (by decide) rfl (fun ls hl => ?_)
  refine W.widen (k := 300) (n := 200000) (Nat.le_of_ble_eq_true rfl) (Nat.le_of_ble_eq_true rfl) ?_
  have ok : okX [] (raS T0).2 noH [] [] := ⟨⟨by decide, fun i hi => absurd hi (Nat.not_lt_zero i)⟩, okC_raF T0 200 noC 0 okC_no, okH_no _, fun _ h => (by cases h), fun _ h => (by cases h)⟩
  exact law_loop X hlocks L 0 w3 (by omega) (by omega) ⟨[], (raS T0).2, noH, [], [], hx3, hm3, ok, okW_raS T0⟩ H3 locs3 ls hH3 hF3 (lv_sub hl [3, 2, 1, 0] rfl)
set_option maxHeartbeats 4000000 in
theorem lw_walk (l : Launch) (hflags : l.flags = flags0) (b : Addr) (xs : List Int32) : MetFree l x (headSpec (Jvm.Cond.code x code maxLocals ret :: tables_1) room_1) (lw_P b xs) (fun _ _ _ _ _ => True) lw_Q := by
  refine MetFree.of_bodyS (code := code) (maxLocals := maxLocals) (ret := ret) (by decide) ?_ ?_
  · intro args s m h hn
    obtain ⟨meth, c, h1, h2, h3, h4, h5, h6, -, -⟩ := Cond.code_spec hn (atoms_spec (ws := Jvm.Cond.code x code maxLocals ret :: tables_1) h _ List.mem_cons_self)
    exact ⟨meth, c, h1, h2, h3, h4, h5, h6⟩
  · intro p e s m args below meth c s₁ B hml0 hP _
    obtain ⟨rfl, hx, hbd, hgv⟩ := hP
    obtain ⟨scr, harrAt, hlist, hof, hsmall⟩ := hx
    obtain ⟨hcb, hkn, -, -⟩ := State.arrayAt?_spec harrAt
    have hown : s.vm.findClass R_law = some m.cls := findClass_of_methodNamed B.named
    have hts0 : ∀ c ∈ (Jvm.Cond.code x code maxLocals ret :: tables_1), c.before #[Value.ref b] s = true := atoms_spec (ws := Jvm.Cond.code x code maxLocals ret :: tables_1) B.pre
    have hts : ∀ w ∈ lw_tbl, w.before #[Value.ref b] s = true := k2_hts_sels lw_privs (fun w hw => hts0 w (List.mem_cons_of_mem _ hw)) lw_privs_ok
    have hml : c.maxLocals = 4 := B.maxLocals_eq (hts0 _ List.mem_cons_self)
    have X₀ : Stand p l e room_1 s m #[Value.ref b] below meth c s₁ [] 0 0 := Stand.of_body B
    have hh0 : s₁.heap = s.heap := by rw [B.state]; rfl
    have hsz : scr.slots.size = xs.length := by rw [← Array.length_toList, hlist, List.length_map]
    have hval : ∀ j : Nat, j < xs.length → scr.slots[j]? = some (.int (xs.getD j 0)) := fun j hj => by
      rw [← Array.getElem?_toList, hlist]
      simp [hj]
    have hbl : b < s.heap.size := (Array.getElem?_eq_some_iff.mp hcb).1
    have hX : va_X b xs.length (fun j => xs.getD j 0) s s.heap := ⟨scr, hcb, hof, hkn, hsz, hval⟩
    have K : W p l e room_1 s m #[Value.ref b] below meth c s₁.heap [] 0 0 (lw_Z below #[Value.ref b] s) (entryFrame m ([Value.ref b] : List Value).toArray 4) := by
      rw [hh0]
      exact whole_start l hflags hbd ⟨B.exec, B.bytes, B.returns, hml, hown, hts, hX, hbl, B.notSynchronized, hgv⟩
    obtain ⟨t, a1, o, b1, b2, b3⟩ := K s₁ rfl X₀
    exact ⟨t, o, a1, b1, b2, b3⟩
theorem lw_pre_spec {args : Array Value} {s : State} (h : (Jvm.Cond.and given_1 narrow_1).before args s = true) (hr : rest_1_c.before args s = true) : ∃ (b : Addr) (xs : List Int32), lw_P b xs args s := by
  have hs := flat_of_before _ h
  have hq := flat_of_before _ hr
  have hc : (Cond.count 1).before args s = true := hs _ (by decide +kernel)
  have harr : (Cond.arrayOf (.arg 0) .int).before args s = true := hs _ (by decide +kernel)
  have hle : (Cond.le (.length (.arg 0)) (.int 256)).before args s = true := hs _ (by decide +kernel)
  have hlen : (Cond.isInt (.length (.arg 0))).before args s = true := hq _ (by decide +kernel)
  have hall : (Cond.all (.arg 0) (.isInt (.elem (.arg 0) (.index 0)))).before args s = true := hq _ (by decide +kernel)
  obtain ⟨b, xs, hb, hx⟩ := State.ints_of_pre rfl harr hlen hall
  have hsm : xs.length < 2 ^ 31 := hx.choose_spec.2.2.2
  have hev : (Term.length (.arg 0)).eval args s none [] s = some (.int xs.length.toInt32) := hx.length_eval hb
  have hv := Cond.le_ints hev (show (Term.int 256).eval args s none [] s = some (.int 256) from rfl)
  have hd : xs.length.toInt32 ≤ 256 := by
    simpa [Cond.before, Cond.holds, hv] using hle
  have hN : xs.length ≤ 256 := (Int32.ofNat_le_ofNat hsm (by decide)).mp (show Int32.ofNat xs.length ≤ Int32.ofNat 256 from hd)
  exact ⟨b, xs, Cond.one_arg hc (show args[0]? = some (.ref b) from hb), hx, hN, h⟩
theorem lw_comes (l : Launch) (hflags : l.flags = flags0) : Comes l x (Jvm.Cond.code x code maxLocals ret :: tables_1) room_1 (fun tb e args s => Calls_1 tb e args s ∧ rest_1 tb e args s ∧ Pre_1 tb e args s)
    (fun _ _ args s o t => lw_Q args s o t) := by
  intro p e ha hc hk s m args below hf hfit hheap happ hpre
  obtain ⟨b, xs, hP⟩ := lw_pre_spec hpre.2.2 hpre.2.1
  obtain ⟨k, o, h1, h2, h3, hQ⟩ := lw_walk l hflags b xs p e ha hc hk s m args below hf ((Spec.applies_iff_loose hf).mp happ).1 hP trivial
  exact ⟨k, o, h1, h2, h3, hQ⟩
theorem lw_frame {s t : State} {o : Outcome} {args : Array Value} (h : Framed s o t [] 600000 7302250) :
    Framed s o t (fieldLocs frame_1_writes args s ++ arrayLocs frame_1_arrays args s ++ staticLocs frame_1_statics s) 600000 7302250 := h
theorem lw_limb (L : Cond) (hL : ∀ (args : Array Value) (s t : State), L.after args s (.returned (some (.int 1))) t = true) :
    ArmFor flags0 classFile x code maxLocals ret World_1 tables_1 room_1 Calls_1 rest_1 Pre_1
      (fun tb e a s o t => postC L tb e a s o t ∧ Framed s o t (fieldLocs frame_1_writes a s ++ arrayLocs frame_1_arrays a s ++ staticLocs frame_1_statics s) 600000 7302250) := by
  intro l hflags _ _ p e ha hc hk s m args below hf hfit hheap happ hpre
  obtain ⟨k, o, h1, h2, h3, rfl, hF⟩ := lw_comes l hflags p e ha hc hk s m args below hf hfit hheap happ hpre
  exact ⟨k, _, h1, h2, h3, hL args s _, lw_frame hF⟩
theorem i_vc : Claimed_1_1 ∧ Claimed_1_2 := ⟨lw_limb limb_1_1 (fun args s t => by simp [limb_1_1, Cond.after, Cond.holds, Cond.value]), lw_limb limb_1_2 (fun args s t => Cond.after_iff.mpr (by
  first | (rw [show limb_1_2 = Cond.eq .result (.int 1) from rfl, Cond.eq_ints (x := 1) (y := 1) rfl rfl]; simp; done) | (simp [limb_1_2, Cond.value, Term.eval]; done)))⟩
