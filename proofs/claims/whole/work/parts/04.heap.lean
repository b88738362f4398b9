/-! the world's cells: fields, arrays -/
section HEAP
variable {M : ax_M} {d q1 q2 pc : Nat} {ls : List (Option Value)} {st : List Value} {w : ax_W} {n : Nat} {P : Option Value → ax_W → Nat → Prop}
theorem ax_vwCl {ci : Nat} {r : vw_C} (h : vwCl[ci]? = some r) : ci < 8 := (List.getElem?_eq_some_iff.mp h).1
/-- the cell at a number that is not dead -/
theorem ax_H.at {B : ax_B} {D : va_G} {cA : FieldType → ClassId} {H : Heap} {a : Nat} {x : ax_C} (h : ax_H B D cA w n H) (hw : w a = x) (hx : x ≠ ax_dead) : a < n ∧ va_at D vwCl (B.1 + a, ax_e B cA x) H := by
  have ha : a < n := by
    rcases Nat.lt_or_ge a n with q | q
    · exact q
    · exact absurd (hw.symm.trans (h.2.2 a q)) hx
  exact ⟨ha, by rw [← hw]; exact h.2.1 a ha⟩
theorem ax_live_i {k : Nat} {f : Nat → Int32} {ty : FieldType} : (Sum.inl (ty, k, f) : ax_C) ≠ ax_dead := fun h => by cases h
theorem ax_live_q {k : Nat} {f : Nat → Option Nat} : aq k f ≠ ax_dead := fun h => by cases h
theorem ax_live_o {ci : Nat} {fs : List Value} {r : vw_C} (h : vwCl[ci]? = some r) : ao ci fs ≠ ax_dead := fun e => by
  have := ax_vwCl h
  have e2 : ci = 99 := by
    have := Sum.inr.inj (Sum.inr.inj e)
    exact (Prod.mk.inj this).1
  omega
theorem va_P_one {D : va_G} {cl : List vw_C} {q : Nat × va_E} {H : Heap} (h : va_at D cl q H) : va_P D cl [q] H := by
  intro k x hx
  have hz : k < 1 := (List.getElem?_eq_some_iff.mp hx).1
  rw [show k = 0 by omega] at hx
  cases hx
  exact h
/-- one cell changed -/
theorem ax_H.put {B : ax_B} {D : va_G} {cA : FieldType → ClassId} {H H1 : Heap} {a : Nat} {x : ax_C} (h : ax_H B D cA w n H) (ha : a < n) (h1 : va_at D vwCl (B.1 + a, ax_e B cA x) H1) (hz : H1.size = H.size) (hq : ∀ q, q ≠ B.1 + a → H1[q]? = H[q]?) : ax_H B D cA (ax_up w a x) n H1 := by
  refine ⟨by rw [hz]; exact h.1, fun k hk => ?_, fun k hk => by rw [up_ne _ _ (by omega)]; exact h.2.2 k hk⟩
  by_cases hka : k = a
  · subst hka
    rw [up_same]
    exact h1
  · rw [up_ne _ _ hka]
    exact (h.2.1 k hk).kept (hq _ (by show B.1 + k ≠ B.1 + a; omega))
theorem ax_F.put {B : ax_B} {s : State} {H H1 : Heap} {locs : List Loc} {a k : Nat} (h : ax_F B s H locs) (hq : ∀ q, q ≠ B.1 + a → H1[q]? = H[q]?) : ax_F B s H1 (locs ++ [⟨B.1 + a, k⟩]) := by
  refine ⟨fun q h1 => by rw [hq q (by omega)]; exact h.1 q h1, fun l hl => ?_⟩
  rcases List.mem_append.mp hl with h1 | h1
  · exact h.2 l h1
  · rw [List.mem_singleton.mp h1]
    exact Nat.le_add_right _ _
/-- what a class's constant pool says of a field: its class and its place there -/
def LkF (own : String) (idx ci k : Nat) : Prop := ∃ (C : String) (T : u_T) (N : Nat), vwCl[ci]? = some (C, T, N) ∧ k < N ∧
  (Cond.fieldLink own idx (T k).1 (T k).2.1 (T k).2.2.1 ∈ TB ∨ ∃ host, Cond.fieldLinkNest own idx (T k).1 (T k).2.1 (T k).2.2.1 host ∈ NB)
/-- the classes' field tables -/
def ClOk (C : String) (T : u_T) (N : Nat) : Prop := (∀ x ∈ u_ws C T N, x ∈ TB) ∧ (∀ a, a < N → ∀ b, b < N → a ≠ b → (T a).2.1 ≠ (T b).2.1) ∧ ∃ ty : Nat → FieldType, ∀ k, k < N → parseFieldDescriptor (T k).2.2.1 = some (ty k)
theorem TB_of {ws : List Cond} (h : ∀ x ∈ ws, x ∈ lw_tbl) (hg : ws.all goodWord = true) : ∀ x ∈ ws, x ∈ TB := fun x hx => TB_in (h x hx) (List.all_eq_true.mp hg x hx)
theorem ClOk_all {ci : Nat} {C : String} {T : u_T} {N : Nat} (h : vwCl[ci]? = some (C, T, N)) : ClOk C T N := by
  have hc := ax_vwCl h
  match ci, hc with
  | 0, _ => cases h; exact ⟨TB_of inX_0 (by decide +kernel), nmX0, _, tyX0_ok⟩
  | 1, _ => cases h; exact ⟨TB_of inX_1 (by decide +kernel), nmX1, _, tyX1_ok⟩
  | 2, _ => cases h; exact ⟨TB_of inX_2 (by decide +kernel), nmX2, _, tyX2_ok⟩
  | 3, _ => cases h; exact ⟨TB_of inX_3 (by decide +kernel), nmX3, _, tyX3_ok⟩
  | 4, _ => cases h; exact ⟨TB_of inX_4 (by decide +kernel), nmX4, _, tyX4_ok⟩
  | 5, _ => cases h; exact ⟨TB_of inX_5 (by decide +kernel), nmX5, _, tyX5_ok⟩
  | 6, _ => cases h; exact ⟨TB_of inX_6 (by decide +kernel), nmX6, _, tyX6_ok⟩
  | 7, _ => cases h; exact ⟨TB_of inX_7 (by decide +kernel), nmX7, _, tyX7_ok⟩
theorem x_getf {idx ci k a : Nat} {fs : List Value} {v : Value} (hd : decode M.2.1 pc = .ok (.getfield idx, 3)) (hl : LkF M.1.cls idx ci k) (hw : w a = ao ci fs) (hv : fs[k]? = some v) (kk : Run M d q1 q2 (pc + 3) ls (v :: st) w n P) : Run M d q1 q2 pc ls (.ref a :: st) w n P := by
  intro B D cA p l e R s m args below meth c H locs ls' cells slots mc ms C hH hF hL h4 h5 h6 h7
  obtain ⟨Cn, T, N, g1, g2, g3⟩ := hl
  obtain ⟨c1, c2, c3⟩ := ClOk_all g1
  obtain ⟨ha, hat⟩ := hH.at hw (ax_live_o g1)
  have hts := C.2.2.2.2.2.2.2.1
  have hU := C.2.2.2.2.2.2.2.2.1
  have hv' : (fs.map (ax_v B))[k]? = some (ax_v B v) := by rw [List.getElem?_map, hv]; rfl
  rcases g3 with g3 | ⟨host, g3⟩
  · exact va_get C.1 C.2.1 hts c1 C.2.2.2.2.2.1 hU.1 (va_P_one hat) 0 rfl g1 k g2 (hts _ g3) (fun _ h => h) hv' hd (kk B D cA p l e R s m args below meth c H locs ls' cells slots mc ms C hH hF hL h4 h5 h6 h7)
  · exact va_getN C.1 C.2.1 hts c1 C.2.2.2.2.2.1 hU.1 (va_P_one hat) 0 rfl g1 k g2 (va_Nw.use (NB_on g3) (hU.2.1 _ g3)) (fun _ h => h) hv' hd (kk B D cA p l e R s m args below meth c H locs ls' cells slots mc ms C hH hF hL h4 h5 h6 h7)
/-- a field that isn't final, of type ty -/
theorem x_putf {idx ci k a : Nat} {fs : List Value} {v : Value} {C : String} {T : u_T} {N : Nat} {ty : FieldType} (hd : decode M.2.1 pc = .ok (.putfield idx, 3)) (hl : LkF M.1.cls idx ci k) (hw : w a = ao ci fs) (hk : Nat.blt k fs.length = true) (hcl : vwCl[ci]? = some (C, T, N)) (hfin : (T k).2.2.2 = false) (hty : parseFieldDescriptor (T k).2.2.1 = some ty) (hn : ∀ B, narrow ty (ax_v B v) = ax_v B v) (hfit : ∀ B, fits ty (ax_v B v) = true) (kk : Run M d q1 q2 (pc + 3) ls st (ax_up w a (ao ci (fs.set k v))) n P) : Run M d q1 q2 pc ls (v :: .ref a :: st) w n P := by
  intro B D cA p l e R s m args below meth c H locs ls' cells slots mc ms X hH hF hL h4 h5 h6 h7
  obtain ⟨Cn, T', N', g1, g2, g3⟩ := hl
  cases hcl.symm.trans g1
  obtain ⟨c1, c2, ty0, c3⟩ := ClOk_all g1
  obtain ⟨ha, hat⟩ := hH.at hw (ax_live_o g1)
  have hts := X.2.2.2.2.2.2.2.1
  have hU := X.2.2.2.2.2.2.2.2.1
  have hap := va_apart (own := M.1.cls) hts c1 ty0 c3 c2 hU.1 g1
  obtain ⟨r, f1, cell, e1, e2, e3, e4⟩ := hat
  have hr : r = (C, T, N) := Option.some.inj (f1.symm.trans g1)
  subst hr
  obtain ⟨hS, hfc, kC, hkC, hkind⟩ := hU.1.1 ci _ g1
  obtain ⟨cf, kf, fi, f, hi, hsl⟩ := hS k g2
  have hlay := hts _ (c1 _ (u_in_lay g2))
  unfold u_lay at hlay
  rw [if_neg (by rw [hfin]; decide)] at hlay
  have hst := (u_facts hfc hkC (u_lays hts c1 g2) hi).1
  have h8 := u_store (v := ax_v B v) hfc hkC hkind hlay hi hty (hn B) (hfit B)
  have hlen : k < (fs.map (ax_v B)).length := by rw [List.length_map]; simpa using hk
  have fin : ∀ H' : Heap, H'[B.1 + a]? = some (cell.setSlot f.slot (ax_v B v)) → H'.size = H.size → (∀ q, q ≠ B.1 + a → H'[q]? = H[q]?) → W p l e R s m args below meth c H' (locs ++ [⟨B.1 + a, f.slot⟩]) cells slots (MQ below (ax_Q B D cA P) args s mc ms (fun a => B.1 ≤ a)) (F0 m (pc + 3) ls' (st.map (ax_v B))) := by
    intro H' i1 i2 i3
    rw [hsl] at i1 ⊢
    have hat' : va_at D vwCl (B.1 + a, ax_e B cA (ao ci (fs.set k v))) H' := by
      refine ⟨_, g1, ?_⟩
      show t_OB _ _ _ _ _ (vp_V ((fs.set k v).map (ax_v B)))
      rw [List.map_set]
      exact t_OB.to (V := updV (vp_V (fs.map (ax_v B))) k (ax_v B v)) ⟨_, i1, e2, e3, t_set e4 hap g2 (ax_v B v)⟩ (fun j _ => vp_updV_set hlen _ j)
    exact kk B D cA p l e R s m args below meth c H' _ ls' cells slots mc ms X (hH.put ha hat' i2 i3) (hF.put i3) hL h4 h5 h6 h7
  rcases g3 with g3 | ⟨host, g3⟩
  · exact W.putK X.1 X.2.1 (f := f) ⟨X.2.2.2.2.2.1, hts _ g3, ⟨_, _, _, hi⟩, hst⟩ (by rw [e2]; exact h8) e1 e3 (by rw [hsl]; exact k2_hasslot (e4 k g2)) rfl rfl hd fin
  · exact va_WputK X.1 X.2.1 (f := f) X.2.2.2.2.2.1 (va_Nw.use (NB_on g3) (hU.2.1 _ g3)) hi hst (by rw [e2]; exact h8) e1 e3 (by rw [hsl]; exact k2_hasslot (e4 k g2)) rfl rfl hd fin
/-- a final field, in its own class's constructor -/
theorem x_putF {idx ci k a : Nat} {fs : List Value} {v : Value} {C : String} {T : u_T} {N : Nat} {ty : FieldType} (hd : decode M.2.1 pc = .ok (.putfield idx, 3)) (hl : Cond.fieldLink M.1.cls idx (T k).1 (T k).2.1 (T k).2.2.1 ∈ TB) (hkN : k < N) (hname : M.1.name = "<init>") (hdecl : (T k).1 = M.1.cls) (hw : w a = ao ci fs) (hk : Nat.blt k fs.length = true) (hcl : vwCl[ci]? = some (C, T, N)) (hfin : (T k).2.2.2 = true) (hty : parseFieldDescriptor (T k).2.2.1 = some ty) (hn : ∀ B, narrow ty (ax_v B v) = ax_v B v) (hfit : ∀ B, fits ty (ax_v B v) = true) (kk : Run M d q1 q2 (pc + 3) ls st (ax_up w a (ao ci (fs.set k v))) n P) : Run M d q1 q2 pc ls (v :: .ref a :: st) w n P := by
  intro B D cA p l e R s m args below meth c H locs ls' cells slots mc ms X hH hF hL h4 h5 h6 h7
  obtain ⟨c1, c2, ty0, c3⟩ := ClOk_all hcl
  obtain ⟨ha, hat⟩ := hH.at hw (ax_live_o hcl)
  have hts := X.2.2.2.2.2.2.2.1
  have hU := X.2.2.2.2.2.2.2.2.1
  have hap := va_apart (own := M.1.cls) hts c1 ty0 c3 c2 hU.1 hcl
  obtain ⟨r, f1, cell, e1, e2, e3, e4⟩ := hat
  have hr : r = (C, T, N) := Option.some.inj (f1.symm.trans hcl)
  subst hr
  obtain ⟨hS, hfc, kC, hkC, hkind⟩ := hU.1.1 ci _ hcl
  obtain ⟨cf, kf, fi, f, hi, hsl⟩ := hS k hkN
  have hlay := hts _ (c1 _ (u_in_lay hkN))
  unfold u_lay at hlay
  rw [if_pos hfin] at hlay
  have hst := (u_facts hfc hkC (u_lays hts c1 hkN) hi).1
  have hcf : m.cls = cf := by
    obtain ⟨_, _, c', _, _, _, -, -, hf', -, -, -, hown2, -⟩ := Cond.laysFinal_spec hlay
    have e1 : c' = cf := by have := hi.symm.trans hf'; simp at this; exact this.1.symm
    rw [hdecl] at hown2
    rw [← e1]; exact Option.some.inj (X.2.2.2.2.2.1.symm.trans hown2)
  have h8 := u_fits (v := ax_v B v) hfc hkC hkind (Or.inr hlay) hi hty (hn B) (hfit B)
  have hlen : k < (fs.map (ax_v B)).length := by rw [List.length_map]; simpa using hk
  refine W.putFinK X.1 X.2.1 X.2.2.2.2.2.1 (hts _ hl) hi hst hcf (X.2.2.2.2.2.2.1.trans hname) (by rw [e2]; exact h8) e1 e3 (by rw [hsl]; exact k2_hasslot (e4 k hkN)) rfl rfl hd fun H' i1 i2 i3 => ?_
  rw [hsl] at i1 ⊢
  have hat' : va_at D vwCl (B.1 + a, ax_e B cA (ao ci (fs.set k v))) H' := by
    refine ⟨_, hcl, ?_⟩
    show t_OB _ _ _ _ _ (vp_V ((fs.set k v).map (ax_v B)))
    rw [List.map_set]
    exact t_OB.to (V := updV (vp_V (fs.map (ax_v B))) k (ax_v B v)) ⟨_, i1, e2, e3, t_set e4 hap hkN (ax_v B v)⟩ (fun j _ => vp_updV_set hlen _ j)
  exact kk B D cA p l e R s m args below meth c H' _ ls' cells slots mc ms X (hH.put ha hat' i2 i3) (hF.put i3) hL h4 h5 h6 h7
theorem x_iald {a N : Nat} {f : Nat → Int32} {i : Int32} (hd : decode M.2.1 pc = .ok (.iaload, 1)) (hw : w a = ai N f) (hi : vp_in i N) (kk : Run M d q1 q2 (pc + 1) ls (.int (f i.toNatClampNeg) :: st) w n P) : Run M d q1 q2 pc ls (.int i :: .ref a :: st) w n P := by
  intro B D cA p l e R s m args below meth c H locs ls' cells slots mc ms C hH hF hL h4 h5 h6 h7
  obtain ⟨ha, hat⟩ := hH.at hw ax_live_i
  exact va_iald C.1 C.2.1 C.2.2.2.2.2.2.2.2.1.1 (va_P_one hat) 0 0 rfl rfl hi hd (kk B D cA p l e R s m args below meth c H locs ls' cells slots mc ms C hH hF hL h4 h5 h6 h7)
theorem x_bald {a N : Nat} {f : Nat → Int32} {i : Int32} (hd : decode M.2.1 pc = .ok (.baload, 1)) (hw : w a = ab N f) (hi : vp_in i N) (kk : Run M d q1 q2 (pc + 1) ls (.int (f i.toNatClampNeg) :: st) w n P) : Run M d q1 q2 pc ls (.int i :: .ref a :: st) w n P := by
  intro B D cA p l e R s m args below meth c H locs ls' cells slots mc ms C hH hF hL h4 h5 h6 h7
  obtain ⟨ha, hat⟩ := hH.at hw ax_live_i
  exact va_bald C.1 C.2.1 C.2.2.2.2.2.2.2.2.1.1 (va_P_one hat) 0 1 rfl rfl hi hd (kk B D cA p l e R s m args below meth c H locs ls' cells slots mc ms C hH hF hL h4 h5 h6 h7)
theorem x_aald {a N : Nat} {f : Nat → Option Nat} {i : Int32} {k : Nat} (hd : decode M.2.1 pc = .ok (.aaload, 1)) (hw : w a = aq N f) (hi : vp_in i N) (hk : f i.toNatClampNeg = some k) (kk : Run M d q1 q2 (pc + 1) ls (.ref k :: st) w n P) : Run M d q1 q2 pc ls (.int i :: .ref a :: st) w n P := by
  intro B D cA p l e R s m args below meth c H locs ls' cells slots mc ms C hH hF hL h4 h5 h6 h7
  obtain ⟨ha, hat⟩ := hH.at hw ax_live_q
  have h8 := kk B D cA p l e R s m args below meth c H locs ls' cells slots mc ms C hH hF hL h4 h5 h6 h7
  refine va_aldq C.1 C.2.1 C.2.2.2.2.2.2.2.2.1.1 (va_P_one hat) 0 2 rfl rfl hi hd ?_
  rw [show va_rf ((f i.toNatClampNeg).map (fun k => B.1 + k)) = .ref (B.1 + k) by rw [hk]; rfl]
  exact h8
theorem x_alenI {a N : Nat} {f : Nat → Int32} (hd : decode M.2.1 pc = .ok (.arraylength, 1)) (hw : w a = ai N f) (kk : Run M d q1 q2 (pc + 1) ls (.int (nI N) :: st) w n P) : Run M d q1 q2 pc ls (.ref a :: st) w n P := by
  intro B D cA p l e R s m args below meth c H locs ls' cells slots mc ms C hH hF hL h4 h5 h6 h7
  obtain ⟨ha, hat⟩ := hH.at hw ax_live_i
  exact va_alen C.1 C.2.1 C.2.2.2.2.2.2.2.2.1.1 (va_P_one hat) 0 0 rfl rfl rfl hd (kk B D cA p l e R s m args below meth c H locs ls' cells slots mc ms C hH hF hL h4 h5 h6 h7)
theorem x_alenQ {a N : Nat} {f : Nat → Option Nat} (hd : decode M.2.1 pc = .ok (.arraylength, 1)) (hw : w a = aq N f) (kk : Run M d q1 q2 (pc + 1) ls (.int (nI N) :: st) w n P) : Run M d q1 q2 pc ls (.ref a :: st) w n P := by
  intro B D cA p l e R s m args below meth c H locs ls' cells slots mc ms C hH hF hL h4 h5 h6 h7
  obtain ⟨ha, hat⟩ := hH.at hw ax_live_q
  exact va_alen C.1 C.2.1 C.2.2.2.2.2.2.2.2.1.1 (va_P_one hat) 0 2 rfl rfl rfl hd (kk B D cA p l e R s m args below meth c H locs ls' cells slots mc ms C hH hF hL h4 h5 h6 h7)
theorem x_iast {a N : Nat} {f : Nat → Int32} {i x : Int32} (hd : decode M.2.1 pc = .ok (.iastore, 1)) (hw : w a = ai N f) (hi : vp_in i N) (kk : Run M d q1 q2 (pc + 1) ls st (ax_up w a (ai N (upd f i.toNatClampNeg x))) n P) : Run M d q1 q2 pc ls (.int x :: .int i :: .ref a :: st) w n P := by
  intro B D cA p l e R s m args below meth c H locs ls' cells slots mc ms C hH hF hL h4 h5 h6 h7
  obtain ⟨ha, hat⟩ := hH.at hw ax_live_i
  refine W.iast C.1 C.2.1 hat ((C.2.2.2.2.2.2.2.2.1.1.2 0 _ rfl).1 N (fun j => .int (f j))) (fun q => by cases q) (by show ¬ (i < 0 ∨ (arrV _ _ _).slots.size ≤ _); rw [arrV_size]; exact hi) rfl rfl hd fun H1 e1 z oq => ?_
  refine kk B D cA p l e R s m args below meth c H1 _ ls' cells slots mc ms C (hH.put ha ?_ z oq) (hF.put oq) hL h4 h5 h6 h7
  show H1[B.1 + a]? = some (vp_cell _ _)
  rw [e1]
  show some ((vp_cell (cA .int) (N, .inl f)).setSlot _ _) = some (vp_cell (cA .int) (N, .inl (upd f i.toNatClampNeg x)))
  rw [vp_cell_i, vp_cell_i, arrV_store]
  congr 2
  funext q
  by_cases hq : q = i.toNatClampNeg
  · subst hq
    simp [updV, upd]
  · simp [updV, upd, hq]
theorem x_bast {a N : Nat} {f : Nat → Int32} {i x : Int32} (hd : decode M.2.1 pc = .ok (.bastore, 1)) (hw : w a = ab N f) (hi : vp_in i N) (kk : Run M d q1 q2 (pc + 1) ls st (ax_up w a (ab N (upd f i.toNatClampNeg (vp_nar .byte x)))) n P) : Run M d q1 q2 pc ls (.int x :: .int i :: .ref a :: st) w n P := by
  intro B D cA p l e R s m args below meth c H locs ls' cells slots mc ms C hH hF hL h4 h5 h6 h7
  obtain ⟨ha, hat⟩ := hH.at hw ax_live_i
  refine W.bast C.1 C.2.1 hat ((C.2.2.2.2.2.2.2.2.1.1.2 1 _ rfl).1 N (fun j => .int (f j))) (fun q => by cases q) (by show ¬ (i < 0 ∨ (arrV _ _ _).slots.size ≤ _); rw [arrV_size]; exact hi) rfl rfl hd fun H1 e1 z oq => ?_
  refine kk B D cA p l e R s m args below meth c H1 _ ls' cells slots mc ms C (hH.put ha ?_ z oq) (hF.put oq) hL h4 h5 h6 h7
  show H1[B.1 + a]? = some (vp_cell _ _)
  rw [e1]
  show some ((vp_cell (cA .byte) (N, .inl f)).setSlot _ _) = some (vp_cell (cA .byte) (N, .inl (upd f i.toNatClampNeg (vp_nar .byte x))))
  rw [vp_cell_i, vp_cell_i, arrV_store]
  congr 2
  funext q
  by_cases hq : q = i.toNatClampNeg
  · subst hq
    simp [updV, upd, vp_nar]
    try rfl
  · simp [updV, upd, hq]
theorem x_aast {a N ci v : Nat} {vs : List Value} {f : Nat → Option Nat} {i : Int32} (hd : decode M.2.1 pc = .ok (.aastore, 1)) (hw : w a = aq N f) (hv : w v = ao 1 vs) (hi : vp_in i N) (kk : Run M d q1 q2 (pc + 1) ls st (ax_up w a (aq N (va_up f i.toNatClampNeg (some v)))) n P) : Run M d q1 q2 pc ls (.ref v :: .int i :: .ref a :: st) w n P := by
  intro B D cA p l e R s m args below meth c H locs ls' cells slots mc ms C hH hF hL h4 h5 h6 h7
  obtain ⟨ha, hat⟩ := hH.at hw ax_live_q
  have hcl : vwCl[1]? = some (RX1, TX1, 3) := rfl
  obtain ⟨hva, hvat⟩ := hH.at hv (ax_live_o hcl)
  have hlt : i.toNatClampNeg < N := Nat.not_le.mp fun q => hi (Or.inr q)
  have h0 : ¬ i < 0 := fun q => hi (Or.inl q)
  obtain ⟨r', hr', cellV, g1, g2, g3, -⟩ := hvat
  have hU := C.2.2.2.2.2.2.2.2.1.1
  have hcls := (hU.1 1 _ hcl).2
  obtain ⟨kA, comp, k1, k2, k3, -⟩ := (hU.2 2 _ rfl).2
  have hcomp : comp = D.1 1 := Option.some.inj (k3.symm.trans hcls.1)
  subst hcomp
  obtain ⟨kC, hkC, -⟩ := hcls.2
  refine W.aast C.1 C.2.1 hat (fun q h => by cases h) (fun h => by cases h) k1 k2 rfl hkC ⟨h0, by show _ < (arrV _ _ _).slots.size; rw [arrV_size]; exact hlt⟩ g1 (fun q h => by rw [g3] at h; cases h) (by rw [g2]; exact hkC) (by rw [g2]; exact va_assign hcls) rfl rfl hd fun H1 e1 z oq => ?_
  refine kk B D cA p l e R s m args below meth c H1 _ ls' cells slots mc ms C (hH.put ha ?_ z oq) (hF.put oq) hL h4 h5 h6 h7
  show H1[B.1 + a]? = some (vp_cell _ _)
  rw [e1]
  show some ((vp_cell (cA ty_H) (N, .inr (.inr (.inr (.inr (fun j => (f j).map (fun k => B.1 + k))))))).setSlot _ _) = some (vp_cell (cA ty_H) (N, .inr (.inr (.inr (.inr (fun j => (va_up f i.toNatClampNeg (some v) j).map (fun k => B.1 + k)))))))
  rw [vp_cell_q, vp_cell_q, arrV_store]
  congr 2
  funext q
  by_cases hq : q = i.toNatClampNeg
  · subst hq
    simp [updV, va_up, va_rf]
  · simp [updV, va_up, hq]
end HEAP
