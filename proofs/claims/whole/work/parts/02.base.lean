/-! the abstract machine of this proof: a world of numbered cells, the k-th at the address B.1 + k; a frame of abstract values -/
abbrev ax_B : Type := Nat × Nat
abbrev ax_M : Type := MethodName × ByteArray × Nat × Option FieldType
/-- an abstract value: a reference is the cell's number; a float stands for the class's one String constant -/
def ax_v (B : ax_B) (v : Value) : Value := match v with
  | .ref k => .ref (B.1 + k)
  | .float _ => .ref B.2
  | .int x => .int x
  | .long x => .long x
  | .double x => .double x
  | .null => .null
  | .retAddr x => .retAddr x
theorem ax_cat (B : ax_B) (v : Value) : (ax_v B v).category = v.category := by cases v <;> rfl
theorem ax_cats (B : ax_B) (st : List Value) : ((st.map (ax_v B)).map fun v => v.category).sum = (st.map fun v => v.category).sum := by
  rw [List.map_map]
  congr 1
  exact List.map_congr_left fun v _ => ax_cat B v
abbrev ax_C : Type := (FieldType × Nat × (Nat → Int32)) ⊕ (Nat × (Nat → Option Nat)) ⊕ (Nat × List Value)
abbrev ai (n : Nat) (f : Nat → Int32) : ax_C := .inl (.int, n, f)
abbrev ab (n : Nat) (f : Nat → Int32) : ax_C := .inl (.byte, n, f)
abbrev aq (n : Nat) (f : Nat → Option Nat) : ax_C := .inr (.inl (n, f))
abbrev ao (ci : Nat) (fs : List Value) : ax_C := .inr (.inr (ci, fs))
abbrev ax_W : Type := Nat → ax_C
abbrev ty_H : FieldType := .object RX1
def ax_e (B : ax_B) (cA : FieldType → ClassId) (c : ax_C) : va_E := match c with
  | .inl (ty, n, f) => .inl (cA ty, n, .inl f)
  | .inr (.inl (n, f)) => .inl (cA ty_H, n, .inr (.inr (.inr (.inr (fun j => (f j).map (fun k => B.1 + k))))))
  | .inr (.inr (ci, fs)) => .inr (ci, fs.map (ax_v B))
def ax_dead : ax_C := ao 99 []
def ax_up (w : ax_W) (a : Nat) (c : ax_C) : ax_W := fun j => if j = a then c else w j
theorem up_same (w : ax_W) (a : Nat) (c : ax_C) : ax_up w a c a = c := by simp [ax_up]
theorem up_ne (w : ax_W) {a j : Nat} (c : ax_C) (h : j ≠ a) : ax_up w a c j = w j := by simp [ax_up, h]
/-- the heap holds the world w of n cells -/
def ax_H (B : ax_B) (D : va_G) (cA : FieldType → ClassId) (w : ax_W) (n : Nat) (H : Heap) : Prop :=
  H.size = B.1 + n ∧ (∀ k, k < n → va_at D vwCl (B.1 + k, ax_e B cA (w k)) H) ∧ ∀ k, n ≤ k → w k = ax_dead
abbrev ax_tys (cA : FieldType → ClassId) : List (ClassId × FieldType) := [(cA .int, .int), (cA .byte, .byte), (cA ty_H, ty_H)]
def is_nest : Cond → Bool
  | .fieldLinkNest .. => true
  | .methodLinkNest .. => true
  | _ => false
def TB : List Cond := lw_tbl.filter goodWord
def NB : List Cond := lw_tbl.filter is_nest
theorem TB_good : ∀ w ∈ TB, goodWord w = true := fun _ h => (List.mem_filter.mp h).2
theorem TB_in {w : Cond} (h : w ∈ lw_tbl) (hg : goodWord w = true) : w ∈ TB := List.mem_filter.mpr ⟨h, hg⟩
theorem NB_in {w : Cond} (h : w ∈ lw_tbl) (hg : is_nest w = true) : w ∈ NB := List.mem_filter.mpr ⟨h, hg⟩
theorem NB_warm {s U : State} (hW : s.WarmedH U.vm) (h : ∀ w ∈ NB, va_Nw w s) : ∀ w ∈ NB, va_Nw w U := by
  intro w hw
  have h1 := h w hw
  have h2 := (List.mem_filter.mp hw).2
  cases w <;> first | (simp [is_nest] at h2; done) | exact va_Nw.warmF hW h1 | exact va_Nw.warmM hW h1
theorem NB_on {w : Cond} (hw : w ∈ NB) : w.onTables = true := by
  have h2 := (List.mem_filter.mp hw).2
  cases w <;> first | (simp [is_nest] at h2; done) | rfl
def tx_first : String := "s0,3,1;s1,2,2;s1,5,1;s2,4,3;s3,1,1;s4,0,0;s4,2,0;s2,3,2;v0;v7;r0,1;r0,2;r1,3;r2,3;r2,6;r3,4;r4,5;r3,6;r7,2;r7,4;r1,0;p5,5;p5,6;"
def tx_bytes : List Int32 := tx_first.toList.map (fun ch => Int32.ofNat ch.toNat)
/-- the String constant, at B.2, and the static that its reading asks for -/
def ax_S (B : ax_B) (U : State) : Prop := (∃ a : Nat, vk_S 1 [127] [tx_bytes] (fun _ => B.2) (fun _ => a) (fun q => B.1 ≤ q) U U.heap) ∧ vk_R RX6 62 tx_first B.2 U ∧ va_Z "java/lang/String" "COMPACT_STRINGS" "Z" (.int 1) (fun q => B.1 ≤ q) U U.heap ∧ ∃ fm : Value, fm.category = 1 ∧ va_Z "jdk/internal/util/Preconditions" "SIOOBE_FORMATTER" "Ljava/util/function/BiFunction;" fm (fun q => B.1 ≤ q) U U.heap
theorem ax_S_go {B : ax_B} {s U : State} (hW : s.WarmedH U.vm) (hq : ∀ q, q < B.1 → U.heap[q]? = s.heap[q]?) (h : ax_S B s) : ax_S B U := by
  obtain ⟨⟨a, h1⟩, h2, h3, fm, h0, h4⟩ := h
  have hk : ∀ q : Nat, q < s.heap.size → ¬ (B.1 ≤ q) → U.heap[q]? = s.heap[q]? := fun q _ h => hq q (by omega)
  exact ⟨⟨a, (h1.moved hW.alike).kept hk⟩, h2.warm hW, (h3.moved hW.alike).kept hk, fm, h0, (h4.moved hW.alike).kept hk⟩
/-- what is known of a state where a method begins -/
def ax_U (B : ax_B) (D : va_G) (cA : FieldType → ClassId) (U : State) : Prop := va_K D vwCl (ax_tys cA) U ∧ (∀ w ∈ NB, va_Nw w U) ∧ B.1 ≤ U.heap.size ∧ ax_S B U ∧ va_AO RX1 U
theorem ax_U_go {B : ax_B} {D : va_G} {cA : FieldType → ClassId} {s U : State} (hW : s.WarmedH U.vm) (hz : B.1 ≤ U.heap.size) (hq : ∀ q, q < B.1 → U.heap[q]? = s.heap[q]?) (h : ax_U B D cA s) : ax_U B D cA U :=
  ⟨h.1.moved hW.alike, NB_warm hW h.2.1, hz, ax_S_go hW hq h.2.2.2.1, h.2.2.2.2.moved hW.alike⟩
def ax_X (B : ax_B) (D : va_G) (cA : FieldType → ClassId) (M : ax_M) (d : Nat) (R : Room) (p : Program) (s : State) (m : MethodId) (args : Array Value) (meth : Method) (c : Code) : Prop :=
  p.tables.exec = Jvm.exec ∧ c.code = M.2.1 ∧ c.maxLocals = M.2.2.1 ∧ meth.sig.returnType = M.2.2.2 ∧ meth.locks = false ∧ s.vm.findClass M.1.cls = some m.cls ∧ meth.name = M.1.name ∧ (∀ w ∈ TB, w.before args s = true) ∧ ax_U B D cA s ∧ d ≤ R.frames ∧ 40 * d ≤ R.locals
/-- the locals -/
def ax_L (B : ax_B) (ls' : Array Slot) (nL : Nat) (ls : List (Option Value)) : Prop := ls'.size = nL ∧ lv_wf ls' ∧ ls.length = nL ∧ ∀ (i : Nat) (v : Value), ls[i]? = some (some v) → ls'[i]? = some (.val (ax_v B v))
def ax_Q (B : ax_B) (D : va_G) (cA : FieldType → ClassId) (P : Option Value → ax_W → Nat → Prop) : Array Value → State → Outcome → State → Prop := fun _ st o t =>
  ∃ (r : Option Value) (w' : ax_W) (n' : Nat), o = .returned (r.map (ax_v B)) ∧ P r w' n' ∧ ax_H B D cA w' n' t.heap ∧ ∀ q, q < B.1 → t.heap[q]? = st.heap[q]?
def ax_F (B : ax_B) (s : State) (H : Heap) (locs : List Loc) : Prop := (∀ q, q < B.1 → H[q]? = s.heap[q]?) ∧ ∀ l ∈ locs, B.1 ≤ l.base
/-- from the frame at pc in the method M, over the world w of n cells, it returns with P of the answer and the world; d: how many calls deep; q1, q2: cells and slots that it may make -/
def Run (M : ax_M) (d q1 q2 pc : Nat) (ls : List (Option Value)) (st : List Value) (w : ax_W) (n : Nat) (P : Option Value → ax_W → Nat → Prop) : Prop :=
  ∀ (B : ax_B) (D : va_G) (cA : FieldType → ClassId) (p : Program) (l : Launch) (e : Env) (R : Room) (s : State) (m : MethodId) (args : Array Value) (below : List Frame) (meth : Method) (c : Code) (H : Heap) (locs : List Loc) (ls' : Array Slot) (cells slots mc ms : Nat),
    ax_X B D cA M d R p s m args meth c → ax_H B D cA w n H → ax_F B s H locs → ax_L B ls' M.2.2.1 ls → cells + q1 ≤ mc → slots + q2 ≤ ms → mc ≤ R.cells → ms ≤ R.slots →
    W p l e R s m args below meth c H locs cells slots (MQ below (ax_Q B D cA P) args s mc ms (fun a => B.1 ≤ a)) (F0 m pc ls' (st.map (ax_v B)))
section RUN
variable {M : ax_M} {d q1 q2 pc : Nat} {ls : List (Option Value)} {st : List Value} {w : ax_W} {n : Nat} {P : Option Value → ax_W → Nat → Prop}
theorem Run.deeper {d' : Nat} (h : Run M d q1 q2 pc ls st w n P) (hd : d ≤ d') : Run M d' q1 q2 pc ls st w n P := by
  intro B D cA p l e R s m args below meth c H locs ls' cells slots mc ms X
  obtain ⟨x1, x2, x3, x4, x5, x6, x7, x8, x9, x10, x11⟩ := X
  exact h B D cA p l e R s m args below meth c H locs ls' cells slots mc ms ⟨x1, x2, x3, x4, x5, x6, x7, x8, x9, Nat.le_trans hd x10, Nat.le_trans (Nat.mul_le_mul_left 40 hd) x11⟩
theorem ax_Q.mono {B : ax_B} {D : va_G} {cA : FieldType → ClassId} {P P' : Option Value → ax_W → Nat → Prop} (h : ∀ r w n, P r w n → P' r w n) {a : Array Value} {s : State} {o : Outcome} {t : State} (q : ax_Q B D cA P a s o t) : ax_Q B D cA P' a s o t := by
  obtain ⟨r, w', n', h1, h2, h3⟩ := q
  exact ⟨r, w', n', h1, h _ _ _ h2, h3⟩
theorem Run.mono {P' : Option Value → ax_W → Nat → Prop} (h : Run M d q1 q2 pc ls st w n P) (hP : ∀ r w n, P r w n → P' r w n) : Run M d q1 q2 pc ls st w n P' := by
  intro B D cA p l e R s m args below meth c H locs ls' cells slots mc ms X h1 h2 h3 h4 h5 h6 h7 T hT Y
  obtain ⟨t, a1, o, b1, b2, b3, b4⟩ := h B D cA p l e R s m args below meth c H locs ls' cells slots mc ms X h1 h2 h3 h4 h5 h6 h7 T hT Y
  exact ⟨t, a1, o, b1, b2, b3.mono hP, b4⟩
theorem Run.room {q1' q2' : Nat} (h : Run M d q1 q2 pc ls st w n P) (h1 : q1 ≤ q1') (h2 : q2 ≤ q2') : Run M d q1' q2' pc ls st w n P := by
  intro B D cA p l e R s m args below meth c H locs ls' cells slots mc ms X g1 g2 g3 g4 g5
  exact h B D cA p l e R s m args below meth c H locs ls' cells slots mc ms X g1 g2 g3 (by omega) (by omega)
/-- fewer locals known -/
theorem Run.less {ls2 : List (Option Value)} (hl : ls2.length = ls.length) (hs : ∀ (i : Nat) (v : Value), ls2[i]? = some (some v) → ls[i]? = some (some v)) (h : Run M d q1 q2 pc ls2 st w n P) : Run M d q1 q2 pc ls st w n P := by
  intro B D cA p l e R s m args below meth c H locs ls' cells slots mc ms X h1 h2 h3
  exact h B D cA p l e R s m args below meth c H locs ls' cells slots mc ms X h1 h2 ⟨h3.1, h3.2.1, hl.trans h3.2.2.1, fun i v hv => h3.2.2.2 i v (hs i v hv)⟩
end RUN
/-! storing a local -/
def l_set : List (Option Value) → Nat → Value → List (Option Value)
  | [], _, _ => []
  | _ :: xs, 0, v => some v :: xs
  | x :: xs, 1, v => (match x with
    | some (.long _) => none
    | some (.double _) => none
    | y => y) :: l_set xs 0 v
  | x :: xs, i + 2, v => x :: l_set xs (i + 1) v
theorem l_set_len : ∀ (ls : List (Option Value)) (i : Nat) (v : Value), (l_set ls i v).length = ls.length
  | [], _, _ => rfl
  | _ :: _, 0, _ => rfl
  | x :: xs, 1, v => by simp [l_set, l_set_len xs 0 v]
  | x :: xs, i + 2, v => by simp [l_set, l_set_len xs (i + 1) v]
theorem l_set_at : ∀ (ls : List (Option Value)) (i : Nat) (v : Value) (j : Nat) (x : Value), (l_set ls i v)[j]? = some (some x) → (j = i ∧ x = v) ∨ (j ≠ i ∧ ls[j]? = some (some x) ∧ ¬ (j + 1 = i ∧ x.category = 2))
  | [], _, _, j, x, h => by simp [l_set] at h
  | y :: xs, 0, v, 0, x, h => by simp [l_set] at h; exact Or.inl ⟨rfl, h.symm⟩
  | y :: xs, 0, v, j + 1, x, h => by simp [l_set] at h; exact Or.inr ⟨by omega, by simpa using h, by omega⟩
  | y :: xs, 1, v, 0, x, h => by
    refine Or.inr ⟨by omega, ?_⟩
    cases y with
    | none => simp [l_set] at h
    | some y => cases y <;> simp [l_set] at h <;> subst h <;> exact ⟨rfl, by simp [Value.category]⟩
  | y :: xs, 1, v, j + 1, x, h => by
    simp only [l_set, List.getElem?_cons_succ] at h
    rcases l_set_at xs 0 v j x h with ⟨a, b⟩ | ⟨a, b, c⟩
    · exact Or.inl ⟨by omega, b⟩
    · exact Or.inr ⟨by omega, by simpa using b, by omega⟩
  | y :: xs, i + 2, v, 0, x, h => by
    simp [l_set] at h
    exact Or.inr ⟨by omega, by simp [h], by omega⟩
  | y :: xs, i + 2, v, j + 1, x, h => by
    simp only [l_set, List.getElem?_cons_succ] at h
    rcases l_set_at xs (i + 1) v j x h with ⟨a, b⟩ | ⟨a, b, c⟩
    · exact Or.inl ⟨by omega, b⟩
    · exact Or.inr ⟨by omega, by simpa using b, fun z => c ⟨by omega, z.2⟩⟩
theorem ax_L.store {B : ax_B} {ls' : Array Slot} {nL i : Nat} {ls : List (Option Value)} {v : Value} (h : ax_L B ls' nL ls) (hi : i < nL) (hc : v.category = 1) :
    ∃ ls2, storeLocals ls' i (ax_v B v) = some ls2 ∧ ax_L B ls2 nL (l_set ls i v) := by
  obtain ⟨h1, h2, h3, h4⟩ := h
  have hc' : (ax_v B v).category = 1 := by rw [ax_cat]; exact hc
  obtain ⟨ls2, e, g⟩ := lv_store1 (v := ax_v B v) (l := []) ⟨h1, h2, fun q hq => (by cases hq)⟩ hi hc'
  refine ⟨ls2, e, g.1, g.2.1, by rw [l_set_len]; exact h3, fun j x hx => ?_⟩
  rcases l_set_at ls i v j x hx with ⟨rfl, rfl⟩ | ⟨a, b, c⟩
  · exact g.2.2 (j, ax_v B x) (by simp)
  · obtain ⟨ls3, e3, g3⟩ := lv_store1 (v := ax_v B v) (l := [(j, ax_v B x)]) ⟨h1, h2, fun q hq => by
      rw [List.mem_singleton.mp hq]; exact h4 j x b⟩ hi hc'
    cases e.symm.trans e3
    refine g3.2.2 (j, ax_v B x) (List.mem_cons_of_mem _ (List.mem_filter.mpr ⟨List.mem_singleton.mpr rfl, ?_⟩))
    have hj : (j == i) = false := by simpa using a
    by_cases hji : j + 1 = i
    · have : ¬ x.category = 2 := fun z => c ⟨hji, z⟩
      simp [hj, ax_cat, this]
    · simp [hj, hji]
def l_set2 (ls : List (Option Value)) (i : Nat) (v : Value) : List (Option Value) := (l_set ls i v).set (i + 1) none
theorem ax_L.store2 {B : ax_B} {ls' : Array Slot} {nL i : Nat} {ls : List (Option Value)} {v : Value} (h : ax_L B ls' nL ls) (hi : i + 1 < nL) (hc : v.category = 2) :
    ∃ ls2, storeLocals ls' i (ax_v B v) = some ls2 ∧ ax_L B ls2 nL (l_set2 ls i v) := by
  obtain ⟨h1, h2, h3, h4⟩ := h
  have hc' : (ax_v B v).category = 2 := by rw [ax_cat]; exact hc
  obtain ⟨ls2, e, g⟩ := lv_store2 (v := ax_v B v) (l := []) ⟨h1, h2, fun q hq => (by cases hq)⟩ hi hc'
  refine ⟨ls2, e, g.1, g.2.1, by rw [l_set2, List.length_set, l_set_len]; exact h3, fun j x hx => ?_⟩
  have hj1 : j ≠ i + 1 := by
    intro hj
    subst hj
    rw [l_set2, List.getElem?_set] at hx
    simp at hx
  rw [l_set2, List.getElem?_set_ne (Ne.symm hj1)] at hx
  rcases l_set_at ls i v j x hx with ⟨rfl, rfl⟩ | ⟨a, b, c⟩
  · exact g.2.2 (j, ax_v B x) (by simp)
  · obtain ⟨ls3, e3, g3⟩ := lv_store2 (v := ax_v B v) (l := [(j, ax_v B x)]) ⟨h1, h2, fun q hq => by
      rw [List.mem_singleton.mp hq]; exact h4 j x b⟩ hi hc'
    cases e.symm.trans e3
    refine g3.2.2 (j, ax_v B x) (List.mem_cons_of_mem _ (List.mem_filter.mpr ⟨List.mem_singleton.mpr rfl, ?_⟩))
    have hj : (j == i) = false := by simpa using a
    have hj2 : (j == i + 1) = false := by simpa using hj1
    by_cases hji : j + 1 = i
    · have : ¬ x.category = 2 := fun z => c ⟨hji, z⟩
      simp [hj, hj2, ax_cat, this]
    · simp [hj, hj2, hji]
