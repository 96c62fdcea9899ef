/-- the words that stay true: all that a body may use -/
def Tg : List Cond := lw_tbl.filter goodWord
theorem mem_Tg (i : Nat) {w : Cond} (h : lw_tbl[i]? = some w) (hg : goodWord w = true) : w ∈ Tg := List.mem_filter.mpr ⟨List.mem_of_getElem? h, hg⟩
theorem Tg_good : ∀ w ∈ Tg, (w.onTables && w.keeps) = true ∨ ∃ ty, w = .arrayClass ty := fun _ hw => good_of_word (List.mem_filter.mp hw).2
theorem GoodIn_Tg {ws : List Cond} (h : ∀ w ∈ ws, w ∈ Tg) : GoodIn Tg ws := fun w hw => ⟨h w hw, Tg_good w (h w hw)⟩
theorem u_ws_good {C : String} {T : u_T} {N : Nat} (h : ∀ w ∈ u_ws C T N, w ∈ lw_tbl) : ∀ w ∈ u_ws C T N, w ∈ Tg := by
  intro w hw
  refine List.mem_filter.mpr ⟨h w hw, ?_⟩
  obtain ⟨k, -, rfl⟩ := List.mem_map.mp hw
  unfold u_lay
  split <;> rfl
/-! ===== the abstract heap, WP: a method's body as a predicate transformer over it ===== -/
abbrev HP : Type := List (Nat × Nat) × (Nat → Nat → Option Nat) × (Nat → Nat → Int32)
/-- launch; the first address that is ours; the old cells (0 the script, 1 the constant text, 2 its bytes), the script's length and ints; class ids and slots; the classes int[] and byte[] -/
abbrev GC : Type := Launch × Nat × ((Nat → Nat) × Nat × (Nat → Int32)) × va_G × ClassId × ClassId
abbrev MR : Type := MethodName × ByteArray × Nat × Option FieldType
abbrev gb (G : GC) : Nat := G.2.1
abbrev go (G : GC) : Nat → Nat := G.2.2.1.1
abbrev gL (G : GC) : Nat := G.2.2.1.2.1
abbrev gxs (G : GC) : Nat → Int32 := G.2.2.1.2.2
abbrev gD (G : GC) : va_G := G.2.2.2.1
abbrev gI (G : GC) : ClassId := G.2.2.2.2.1
abbrev gB (G : GC) : ClassId := G.2.2.2.2.2
abbrev mY (M : MR) : MethodName := M.1
abbrev mC (M : MR) : ByteArray := M.2.1
abbrev mL (M : MR) : Nat := M.2.2.1
abbrev mR (M : MR) : Option FieldType := M.2.2.2
abbrev vwCl : List vw_C := [(RX0, TX0, 5), (RX1, TX1, 8), (RX2, TX2, 2), (RX3, TX3, 7), (RX4, TX4, 3), (RX5, TX5, 3), (RX6, TX6, 6), (RX7, TX7, 8), (RX8, TX8, 6), (RX9, TX9, 20), (RX10, TX10, 11), (RX11, TX11, 48)]
def nF (c : Nat) : Nat := match c with
  | 0 => 5
  | 1 => 8
  | 2 => 2
  | 3 => 7
  | 4 => 3
  | 5 => 3
  | 6 => 6
  | 7 => 8
  | 8 => 6
  | 9 => 20
  | 10 => 11
  | _ => 48
def tyAll (c : Nat) : Nat → FieldType := match c with
  | 0 => tyX0
  | 1 => tyX1
  | 2 => tyX2
  | 3 => tyX3
  | 4 => tyX4
  | 5 => tyX5
  | 6 => tyX6
  | 7 => tyX7
  | 8 => tyX8
  | 9 => tyX9
  | 10 => tyX10
  | _ => tyX11
def ri (r : Option Nat) (b : Nat) : Value := match r with
  | none => .null
  | some q => .ref (b + q)
def fv (G : GC) (h : HP) (i c k : Nat) : Value := match tyAll c k with
  | .int => .int (h.2.2 i k)
  | .boolean => .int (h.2.2 i k)
  | _ => ri (h.2.1 i k) (gb G)
def cE (G : GC) (h : HP) (i : Nat) : va_E := match h.1[i]? with
  | some (0, n) => .inl (gI G, n, .inl (h.2.2 i))
  | some (1, n) => .inl (gB G, n, .inl (h.2.2 i))
  | some (c + 2, N) => .inr (c, (List.range N).map (fv G h i c))
  | none => .inr (0, [])
def wsO (G : GC) (h : HP) : va_W := (List.range h.1.length).map (fun i => (gb G + i, cE G h i))
def HR (G : GC) (h : HP) (H : Heap) : Prop := H.size = gb G + h.1.length ∧ va_P (gD G) vwCl (wsO G h) H
abbrev gA (G : GC) : Nat → Prop := fun q => gb G ≤ q
abbrev gT (G : GC) : List (ClassId × FieldType) := [(gI G, .int), (gB G, .byte)]
/-- a value of ours as the machine has it; what is unknown has none; .retAddr stands for the script -/
def rvk (G : GC) (v : Value) : Option Value := match v with
  | .int x => some (.int x)
  | .ref r => some (.ref (gb G + r))
  | .retAddr j => some (.ref (go G j))
  | _ => none
def rv (G : GC) (v : Value) : Value := match v with
  | .ref r => .ref (gb G + r)
  | .retAddr j => .ref (go G j)
  | .int x => .int x
  | _ => .null
def lvl (G : GC) (ls : List Value) : List (Nat × Value) := (List.range ls.length).filterMap (fun j => (ls[j]?).bind (fun v => (rvk G v).map (fun u => (j, u))))
theorem mem_lvl {G : GC} {ls : List Value} {q : Nat × Value} : q ∈ lvl G ls ↔ ∃ v, ls[q.1]? = some v ∧ rvk G v = some q.2 := by
  unfold lvl
  rw [List.mem_filterMap]
  constructor
  · rintro ⟨j, -, h⟩
    cases hj : ls[j]? with
    | none => rw [hj] at h; cases h
    | some v =>
      rw [hj] at h
      simp only [Option.bind_some, Option.map_eq_some_iff] at h
      obtain ⟨u, h1, h2⟩ := h
      subst h2
      exact ⟨v, hj, h1⟩
  · rintro ⟨v, h1, h2⟩
    refine ⟨q.1, List.mem_range.mpr (List.getElem?_eq_some_iff.mp h1).1, ?_⟩
    rw [h1]
    simp [h2]
theorem rv_cat {G : GC} (v : Value) : (rv G v).category = 1 := by cases v <;> rfl
theorem rv_cats {G : GC} (st : List Value) : ((st.map (rv G)).map fun v => v.category).sum = st.length := by
  induction st with
  | nil => rfl
  | cons a t ih => simp only [List.map_cons, List.sum_cons, List.length_cons, rv_cat, ih]; omega
/-- what is known of the cells below our first address -/
def OLD (G : GC) (s : State) (H : Heap) : Prop := va_X (go G 0) (gL G) (gxs G) s H ∧ go G 0 < gb G ∧ vk_R RX2 99 "seaofthkdn" (go G 1) s ∧ vk_S 1 [10] [[115, 101, 97, 111, 102, 116, 104, 107, 100, 110]] (fun _ => go G 1) (fun _ => go G 2) (gA G) s H ∧ va_Z "java/lang/String" "COMPACT_STRINGS" "Z" (.int 1) (gA G) s H ∧ ∀ (a : String) (i : Nat) (y : MethodName) (hh : String), Cond.methodLinkNest a i y hh ∈ lw_tbl → va_Nw (.methodLinkNest a i y hh) s
theorem OLD.moved {G : GC} {s U : State} {H H' : Heap} (h : OLD G s H) (hW : s.WarmedH U.vm) (hb : gb G ≤ H.size) (hq : ∀ q : Nat, q < H.size → ¬ gA G q → H'[q]? = H[q]?) : OLD G U H' := by
  obtain ⟨h1, h2, h3, h4, h5, h6⟩ := h
  exact ⟨(h1.moved hW.alike).kept (hq _ (by omega) (by show ¬ gb G ≤ _; omega)), h2, h3.warm hW, (h4.moved hW.alike).kept hq, (h5.moved hW.alike).kept hq, fun a i y hh hm => (h6 a i y hh hm).warmM hW⟩
/-- what holds in every body -/
def BD (G : GC) (M : MR) (p : Program) (s : State) (m : MethodId) (args : Array Value) (meth : Method) (c : Code) : Prop :=
  p.tables.exec = Jvm.exec ∧ c.code = mC M ∧ meth.sig.returnType = mR M ∧ c.maxLocals = mL M ∧ s.vm.findClass (mY M).cls = some m.cls ∧ meth.locks = false ∧ meth.name = (mY M).name ∧ (∀ w ∈ Tg, w.before args s = true) ∧ va_K (gD G) vwCl (gT G) s ∧ gb G ≤ s.heap.size ∧ OLD G s s.heap
/-- what a return instruction must be -/
def RetOK (M : MR) (v : Option Value) (pc : Nat) : Prop := match v with
  | none => mR M = none ∧ decode (mC M) pc = .ok (.return_, 1)
  | some (.int x) => decode (mC M) pc = .ok (.ireturn, 1) ∧ (mR M = some .int ∨ (mR M = some .boolean ∧ (x = 0 ∨ x = 1)))
  | some _ => False
def WP (G : GC) (M : MR) (d k n pc : Nat) (ls st : List Value) (h : HP) (Q : Option Value → HP → Prop) : Prop :=
  ∀ (p : Program) (e : Env) (R : Room) (s : State) (m : MethodId) (args : Array Value) (below : List Frame) (meth : Method) (c : Code) (H : Heap) (locs : List Loc) (cells slots : Nat) (rls : Array Slot) (Z : State → Prop),
    BD G M p s m args meth c → d + 1 ≤ R.frames → 64 * (d + 1) ≤ R.locals → cells + k ≤ R.cells → slots + n ≤ R.slots → HR G h H → va_S (gA G) s.heap H locs → lv_has rls (mL M) (lvl G ls) →
    (∀ (v : Option Value) (h' : HP) (H' : Heap) (locs' : List Loc) (pc' : Nat) (rls' : Array Slot), Q v h' → HR G h' H' → va_S (gA G) s.heap H' locs' → RetOK M v pc' → W p G.1 e R s m args below meth c H' locs' (cells + k) (slots + n) Z (F0 m pc' rls' (v.toList.map (rv G)))) →
    W p G.1 e R s m args below meth c H locs cells slots Z (F0 m pc rls (st.map (rv G)))
theorem WP.mono {G : GC} {M : MR} {d k n pc : Nat} {ls st : List Value} {h : HP} {Q Q' : Option Value → HP → Prop} (hq : ∀ v h', Q v h' → Q' v h') (H : WP G M d k n pc ls st h Q) : WP G M d k n pc ls st h Q' :=
  fun p e R s m args below meth c Hh locs cells slots rls Z B h1 h2 h3 h4 h5 h6 h7 h8 => H p e R s m args below meth c Hh locs cells slots rls Z B h1 h2 h3 h4 h5 h6 h7 (fun v h' H' locs' pc' rls' q => h8 v h' H' locs' pc' rls' (hq v h' q))
theorem WP.depth {G : GC} {M : MR} {d d' k n pc : Nat} {ls st : List Value} {h : HP} {Q : Option Value → HP → Prop} (hd : d ≤ d') (H : WP G M d k n pc ls st h Q) : WP G M d' k n pc ls st h Q :=
  fun p e R s m args below meth c Hh locs cells slots rls Z B h1 h2 h3 h4 h5 h6 h7 h8 => H p e R s m args below meth c Hh locs cells slots rls Z B (by omega) (by omega) h3 h4 h5 h6 h7 h8
theorem WP.room {G : GC} {M : MR} {d k n k' n' pc : Nat} {ls st : List Value} {h : HP} {Q : Option Value → HP → Prop} (hk : k ≤ k') (hn : n ≤ n') (H : WP G M d k n pc ls st h Q) : WP G M d k' n' pc ls st h Q :=
  fun p e R s m args below meth c Hh locs cells slots rls Z B h1 h2 h3 h4 h5 h6 h7 h8 => H p e R s m args below meth c Hh locs cells slots rls Z B h1 h2 (by omega) (by omega) h5 h6 h7 (fun v h' H' locs' pc' rls' q a b c' => W.widen (by omega) (by omega) (h8 v h' H' locs' pc' rls' q a b c'))
/-- one instruction that leaves heap and locals -/
theorem WP.go {G : GC} {M : MR} {d k n pc pc' : Nat} {ls st st' : List Value} {h : HP} {Q : Option Value → HP → Prop}
    (hs : ∀ (p : Program) (e : Env) (R : Room) (s : State) (m : MethodId) (args : Array Value) (below : List Frame) (meth : Method) (c : Code) (H : Heap) (locs : List Loc) (cells slots : Nat) (rls : Array Slot) (Z : State → Prop), BD G M p s m args meth c → d + 1 ≤ R.frames → 64 * (d + 1) ≤ R.locals → cells + k ≤ R.cells → slots + n ≤ R.slots → HR G h H → va_S (gA G) s.heap H locs → lv_has rls (mL M) (lvl G ls) →
      W p G.1 e R s m args below meth c H locs cells slots Z (F0 m pc' rls (st'.map (rv G))) → W p G.1 e R s m args below meth c H locs cells slots Z (F0 m pc rls (st.map (rv G))))
    (kk : WP G M d k n pc' ls st' h Q) : WP G M d k n pc ls st h Q :=
  fun p e R s m args below meth c Hh locs cells slots rls Z B h1 h2 h3 h4 h5 h6 h7 h8 => hs p e R s m args below meth c Hh locs cells slots rls Z B h1 h2 h3 h4 h5 h6 h7 (kk p e R s m args below meth c Hh locs cells slots rls Z B h1 h2 h3 h4 h5 h6 h7 h8)
section WPS
variable {G : GC} {M : MR} {d k n pc : Nat} {ls st : List Value} {h : HP} {Q : Option Value → HP → Prop}
theorem wp_loc {rls : Array Slot} {nL : Nat} (hl : lv_has rls nL (lvl G ls)) {i : Nat} {v u : Value} (h1 : ls[i]? = some v) (h2 : rvk G v = some u) : rls[i]? = some (.val u) := hl.2.2 (i, u) (mem_lvl.mpr ⟨v, h1, h2⟩)

theorem wp_iconst {z : Int} {v : Int32} (hd : decode (mC M) pc = .ok (.iconst z, 1)) (hv : Int32.ofInt z = v) (kk : WP G M d k n (pc + 1) ls (.int v :: st) h Q) : WP G M d k n pc ls st h Q :=
  WP.go (fun _ _ _ _ _ _ _ _ _ _ _ _ _ _ _ B _ _ _ _ _ _ _ K => lv_iconst B.1 B.2.1 hd hv K) kk
theorem wp_bipush {z : Int} {v : Int32} (hd : decode (mC M) pc = .ok (.bipush z, 2)) (hv : (Int8.ofInt z).toInt32 = v) (kk : WP G M d k n (pc + 2) ls (.int v :: st) h Q) : WP G M d k n pc ls st h Q :=
  WP.go (fun _ _ _ _ _ _ _ _ _ _ _ _ _ _ _ B _ _ _ _ _ _ _ K => lv_bipush B.1 B.2.1 hd hv K) kk
theorem wp_sipush {z : Int} {v : Int32} (hd : decode (mC M) pc = .ok (.sipush z, 3)) (hv : (Int16.ofInt z).toInt32 = v) (kk : WP G M d k n (pc + 3) ls (.int v :: st) h Q) : WP G M d k n pc ls st h Q :=
  WP.go (fun _ _ _ _ _ _ _ _ _ _ _ _ _ _ _ B _ _ _ _ _ _ _ K => lv_sipush B.1 B.2.1 hd hv K) kk
theorem wp_ldc {idx : Nat} {v : Int32} (hd : decode (mC M) pc = .ok (.ldc idx, 2)) (hw : Cond.constant (mY M).cls idx v ∈ Tg) (kk : WP G M d k n (pc + 2) ls (.int v :: st) h Q) : WP G M d k n pc ls st h Q :=
  WP.go (fun _ _ _ _ _ _ _ _ _ _ _ _ _ _ _ B _ _ _ _ _ _ _ K => lv_ldc B.1 B.2.1 B.2.2.2.2.1 (B.2.2.2.2.2.2.2.1 _ hw) hd K) kk
theorem wp_ldcw {idx : Nat} {v : Int32} (hd : decode (mC M) pc = .ok (.ldc_w idx, 3)) (hw : Cond.constant (mY M).cls idx v ∈ Tg) (kk : WP G M d k n (pc + 3) ls (.int v :: st) h Q) : WP G M d k n pc ls st h Q :=
  WP.go (fun _ _ _ _ _ _ _ _ _ _ _ _ _ _ _ B _ _ _ _ _ _ _ K => lv_ldcw B.1 B.2.1 B.2.2.2.2.1 (B.2.2.2.2.2.2.2.1 _ hw) hd K) kk
theorem wp_iload_n {j : Fin 4} {i : Nat} {x : Int32} (hd : decode (mC M) pc = .ok (.iload_n j, 1)) (hi : (j : Nat) = i) (hx : ls[i]? = some (.int x)) (kk : WP G M d k n (pc + 1) ls (.int x :: st) h Q) : WP G M d k n pc ls st h Q :=
  WP.go (fun _ _ _ _ _ _ _ _ _ _ _ _ _ _ _ B _ _ _ _ _ _ L K => lv_iload_n B.1 B.2.1 hd hi (wp_loc L hx rfl) K) kk
theorem wp_iload {i : Nat} {x : Int32} (hd : decode (mC M) pc = .ok (.iload i, 2)) (hx : ls[i]? = some (.int x)) (kk : WP G M d k n (pc + 2) ls (.int x :: st) h Q) : WP G M d k n pc ls st h Q :=
  WP.go (fun _ _ _ _ _ _ _ _ _ _ _ _ _ _ _ B _ _ _ _ _ _ L K => lv_iload B.1 B.2.1 hd (wp_loc L hx rfl) K) kk
theorem wp_aload_n {j : Fin 4} {i : Nat} {x : Nat} (hd : decode (mC M) pc = .ok (.aload_n j, 1)) (hi : (j : Nat) = i) (hx : ls[i]? = some (.ref x)) (kk : WP G M d k n (pc + 1) ls (.ref x :: st) h Q) : WP G M d k n pc ls st h Q :=
  WP.go (fun _ _ _ _ _ _ _ _ _ _ _ _ _ _ _ B _ _ _ _ _ _ L K => lv_aload_n B.1 B.2.1 hd hi (wp_loc L hx rfl) K) kk
theorem wp_aload_s {j : Fin 4} {i : Nat} {x : Nat} (hd : decode (mC M) pc = .ok (.aload_n j, 1)) (hi : (j : Nat) = i) (hx : ls[i]? = some (.retAddr x)) (kk : WP G M d k n (pc + 1) ls (.retAddr x :: st) h Q) : WP G M d k n pc ls st h Q :=
  WP.go (fun _ _ _ _ _ _ _ _ _ _ _ _ _ _ _ B _ _ _ _ _ _ L K => lv_aload_n B.1 B.2.1 hd hi (wp_loc L hx rfl) K) kk
theorem wp_aload {i : Nat} {x : Nat} (hd : decode (mC M) pc = .ok (.aload i, 2)) (hx : ls[i]? = some (.ref x)) (kk : WP G M d k n (pc + 2) ls (.ref x :: st) h Q) : WP G M d k n pc ls st h Q :=
  WP.go (fun _ _ _ _ _ _ _ _ _ _ _ _ _ _ _ B _ _ _ _ _ _ L K => lv_aload B.1 B.2.1 hd (wp_loc L hx rfl) K) kk

theorem wp_iadd {x y : Int32} (hd : decode (mC M) pc = .ok (.iadd, 1)) (kk : WP G M d k n (pc + 1) ls (.int (x + y) :: st) h Q) : WP G M d k n pc ls (.int y :: .int x :: st) h Q :=
  WP.go (fun _ _ _ _ _ _ _ _ _ _ _ _ _ _ _ B _ _ _ _ _ _ _ K => lv_iadd B.1 B.2.1 hd K) kk
theorem wp_isub {x y : Int32} (hd : decode (mC M) pc = .ok (.isub, 1)) (kk : WP G M d k n (pc + 1) ls (.int (x - y) :: st) h Q) : WP G M d k n pc ls (.int y :: .int x :: st) h Q :=
  WP.go (fun _ _ _ _ _ _ _ _ _ _ _ _ _ _ _ B _ _ _ _ _ _ _ K => lv_isub B.1 B.2.1 hd K) kk
theorem wp_imul {x y : Int32} (hd : decode (mC M) pc = .ok (.imul, 1)) (kk : WP G M d k n (pc + 1) ls (.int (x * y) :: st) h Q) : WP G M d k n pc ls (.int y :: .int x :: st) h Q :=
  WP.go (fun _ _ _ _ _ _ _ _ _ _ _ _ _ _ _ B _ _ _ _ _ _ _ K => lv_imul B.1 B.2.1 hd K) kk
theorem wp_iand {x y : Int32} (hd : decode (mC M) pc = .ok (.iand, 1)) (kk : WP G M d k n (pc + 1) ls (.int (x &&& y) :: st) h Q) : WP G M d k n pc ls (.int y :: .int x :: st) h Q :=
  WP.go (fun _ _ _ _ _ _ _ _ _ _ _ _ _ _ _ B _ _ _ _ _ _ _ K => lv_iand B.1 B.2.1 hd K) kk
theorem wp_ior {x y : Int32} (hd : decode (mC M) pc = .ok (.ior, 1)) (kk : WP G M d k n (pc + 1) ls (.int (x ||| y) :: st) h Q) : WP G M d k n pc ls (.int y :: .int x :: st) h Q :=
  WP.go (fun _ _ _ _ _ _ _ _ _ _ _ _ _ _ _ B _ _ _ _ _ _ _ K => lv_ior B.1 B.2.1 hd K) kk
theorem wp_ixor {x y : Int32} (hd : decode (mC M) pc = .ok (.ixor, 1)) (kk : WP G M d k n (pc + 1) ls (.int (x ^^^ y) :: st) h Q) : WP G M d k n pc ls (.int y :: .int x :: st) h Q :=
  WP.go (fun _ _ _ _ _ _ _ _ _ _ _ _ _ _ _ B _ _ _ _ _ _ _ K => lv_ixor B.1 B.2.1 hd K) kk
theorem wp_ishl {x y : Int32} (hd : decode (mC M) pc = .ok (.ishl, 1)) (kk : WP G M d k n (pc + 1) ls (.int (x <<< (y &&& 31)) :: st) h Q) : WP G M d k n pc ls (.int y :: .int x :: st) h Q :=
  WP.go (fun _ _ _ _ _ _ _ _ _ _ _ _ _ _ _ B _ _ _ _ _ _ _ K => lv_ishl B.1 B.2.1 hd K) kk
theorem wp_ishr {x y : Int32} (hd : decode (mC M) pc = .ok (.ishr, 1)) (kk : WP G M d k n (pc + 1) ls (.int (x >>> (y &&& 31)) :: st) h Q) : WP G M d k n pc ls (.int y :: .int x :: st) h Q :=
  WP.go (fun _ _ _ _ _ _ _ _ _ _ _ _ _ _ _ B _ _ _ _ _ _ _ K => lv_ishr B.1 B.2.1 hd K) kk
theorem wp_idiv {x y : Int32} (hd : decode (mC M) pc = .ok (.idiv, 1)) (hy : ¬ y = 0) (kk : WP G M d k n (pc + 1) ls (.int (x / y) :: st) h Q) : WP G M d k n pc ls (.int y :: .int x :: st) h Q :=
  WP.go (fun _ _ _ _ _ _ _ _ _ _ _ _ _ _ _ B _ _ _ _ _ _ _ K => lv_idiv B.1 B.2.1 hd hy K) kk
theorem wp_irem {x y : Int32} (hd : decode (mC M) pc = .ok (.irem, 1)) (hy : ¬ y = 0) (kk : WP G M d k n (pc + 1) ls (.int (x - x / y * y) :: st) h Q) : WP G M d k n pc ls (.int y :: .int x :: st) h Q :=
  WP.go (fun _ _ _ _ _ _ _ _ _ _ _ _ _ _ _ B _ _ _ _ _ _ _ K => lv_irem B.1 B.2.1 hd hy K) kk
theorem wp_iushr {x y : Int32} (hd : decode (mC M) pc = .ok (.iushr, 1)) (kk : WP G M d k n (pc + 1) ls (.int ((x.toUInt32 >>> (y.toUInt32 &&& Int32.toUInt32 31)).toInt32) :: st) h Q) : WP G M d k n pc ls (.int y :: .int x :: st) h Q :=
  WP.go (fun _ _ _ _ _ _ _ _ _ _ _ _ _ _ _ B _ _ _ _ _ _ _ K => lv_iushr B.1 B.2.1 hd rfl K) kk
theorem wp_ineg {x : Int32} (hd : decode (mC M) pc = .ok (.ineg, 1)) (kk : WP G M d k n (pc + 1) ls (.int (-x) :: st) h Q) : WP G M d k n pc ls (.int x :: st) h Q :=
  WP.go (fun _ _ _ _ _ _ _ _ _ _ _ _ _ _ _ B _ _ _ _ _ _ _ K => lv_ineg B.1 B.2.1 hd K) kk
theorem wp_i2b {x : Int32} (hd : decode (mC M) pc = .ok (.i2b, 1)) (kk : WP G M d k n (pc + 1) ls (.int x.toInt8.toInt32 :: st) h Q) : WP G M d k n pc ls (.int x :: st) h Q :=
  WP.go (fun _ _ _ _ _ _ _ _ _ _ _ _ _ _ _ B _ _ _ _ _ _ _ K => lv_i2b B.1 B.2.1 hd rfl K) kk
theorem wp_i2c {x : Int32} (hd : decode (mC M) pc = .ok (.i2c, 1)) (kk : WP G M d k n (pc + 1) ls (.int (x.toUInt32 % 65536).toInt32 :: st) h Q) : WP G M d k n pc ls (.int x :: st) h Q :=
  WP.go (fun _ _ _ _ _ _ _ _ _ _ _ _ _ _ _ B _ _ _ _ _ _ _ K => lv_i2c B.1 B.2.1 hd rfl K) kk
theorem wp_dup {v : Value} (hd : decode (mC M) pc = .ok (.dup, 1)) (kk : WP G M d k n (pc + 1) ls (v :: v :: st) h Q) : WP G M d k n pc ls (v :: st) h Q :=
  WP.go (fun _ _ _ _ _ _ _ _ _ _ _ _ _ _ _ B _ _ _ _ _ _ _ K => lv_dup B.1 B.2.1 hd (rv_cat v) K) kk
theorem wp_dup2 {v u : Value} (hd : decode (mC M) pc = .ok (.dup2, 1)) (kk : WP G M d k n (pc + 1) ls (v :: u :: v :: u :: st) h Q) : WP G M d k n pc ls (v :: u :: st) h Q :=
  WP.go (fun _ _ _ _ _ _ _ _ _ _ _ _ _ _ _ B _ _ _ _ _ _ _ K => lv_dup2_11 B.1 B.2.1 hd (rv_cat v) (rv_cat u) K) kk
theorem wp_pop {v : Value} (hd : decode (mC M) pc = .ok (.pop, 1)) (kk : WP G M d k n (pc + 1) ls st h Q) : WP G M d k n pc ls (v :: st) h Q :=
  WP.go (fun _ _ _ _ _ _ _ _ _ _ _ _ _ _ _ B _ _ _ _ _ _ _ K => lv_pop B.1 B.2.1 hd (rv_cat v) K) kk
theorem wp_goto {off : Int} {t : Nat} (hd : decode (mC M) pc = .ok (.goto off, 3)) (ht : (pc : Int) + off = (t : Int)) (kk : WP G M d k n t ls st h Q) : WP G M d k n pc ls st h Q :=
  WP.go (fun _ _ _ _ _ _ _ _ _ _ _ _ _ _ _ B _ _ _ _ _ _ _ K => lv_goto B.1 B.2.1 hd ht K) kk

theorem wp_if_eq {x : Int32} {off : Int} {t : Nat} (hd : decode (mC M) pc = .ok (.ifCond .eq off, 3)) (ht : (pc : Int) + off = (t : Int)) (kt : x = 0 → WP G M d k n t ls st h Q) (kf : ¬ x = 0 → WP G M d k n (pc + 3) ls st h Q) : WP G M d k n pc ls (.int x :: st) h Q :=
  fun p e R s m args below meth c Hh locs cells slots rls Z B h1 h2 h3 h4 h5 h6 h7 h8 => lv_if_eq B.1 B.2.1 hd ht (fun q => kt q p e R s m args below meth c Hh locs cells slots rls Z B h1 h2 h3 h4 h5 h6 h7 h8) (fun q => kf q p e R s m args below meth c Hh locs cells slots rls Z B h1 h2 h3 h4 h5 h6 h7 h8)
theorem wp_icmp_eq {x y : Int32} {off : Int} {t : Nat} (hd : decode (mC M) pc = .ok (.if_icmp .eq off, 3)) (ht : (pc : Int) + off = (t : Int)) (kt : x = y → WP G M d k n t ls st h Q) (kf : ¬ x = y → WP G M d k n (pc + 3) ls st h Q) : WP G M d k n pc ls (.int y :: .int x :: st) h Q :=
  fun p e R s m args below meth c Hh locs cells slots rls Z B h1 h2 h3 h4 h5 h6 h7 h8 => lv_icmp_eq B.1 B.2.1 hd ht (fun q => kt q p e R s m args below meth c Hh locs cells slots rls Z B h1 h2 h3 h4 h5 h6 h7 h8) (fun q => kf q p e R s m args below meth c Hh locs cells slots rls Z B h1 h2 h3 h4 h5 h6 h7 h8)
theorem wp_if_ne {x : Int32} {off : Int} {t : Nat} (hd : decode (mC M) pc = .ok (.ifCond .ne off, 3)) (ht : (pc : Int) + off = (t : Int)) (kt : ¬ x = 0 → WP G M d k n t ls st h Q) (kf : x = 0 → WP G M d k n (pc + 3) ls st h Q) : WP G M d k n pc ls (.int x :: st) h Q :=
  fun p e R s m args below meth c Hh locs cells slots rls Z B h1 h2 h3 h4 h5 h6 h7 h8 => lv_if_ne B.1 B.2.1 hd ht (fun q => kt q p e R s m args below meth c Hh locs cells slots rls Z B h1 h2 h3 h4 h5 h6 h7 h8) (fun q => kf q p e R s m args below meth c Hh locs cells slots rls Z B h1 h2 h3 h4 h5 h6 h7 h8)
theorem wp_icmp_ne {x y : Int32} {off : Int} {t : Nat} (hd : decode (mC M) pc = .ok (.if_icmp .ne off, 3)) (ht : (pc : Int) + off = (t : Int)) (kt : ¬ x = y → WP G M d k n t ls st h Q) (kf : x = y → WP G M d k n (pc + 3) ls st h Q) : WP G M d k n pc ls (.int y :: .int x :: st) h Q :=
  fun p e R s m args below meth c Hh locs cells slots rls Z B h1 h2 h3 h4 h5 h6 h7 h8 => lv_icmp_ne B.1 B.2.1 hd ht (fun q => kt q p e R s m args below meth c Hh locs cells slots rls Z B h1 h2 h3 h4 h5 h6 h7 h8) (fun q => kf q p e R s m args below meth c Hh locs cells slots rls Z B h1 h2 h3 h4 h5 h6 h7 h8)
theorem wp_if_lt {x : Int32} {off : Int} {t : Nat} (hd : decode (mC M) pc = .ok (.ifCond .lt off, 3)) (ht : (pc : Int) + off = (t : Int)) (kt : x < 0 → WP G M d k n t ls st h Q) (kf : ¬ x < 0 → WP G M d k n (pc + 3) ls st h Q) : WP G M d k n pc ls (.int x :: st) h Q :=
  fun p e R s m args below meth c Hh locs cells slots rls Z B h1 h2 h3 h4 h5 h6 h7 h8 => lv_if_lt B.1 B.2.1 hd ht (fun q => kt q p e R s m args below meth c Hh locs cells slots rls Z B h1 h2 h3 h4 h5 h6 h7 h8) (fun q => kf q p e R s m args below meth c Hh locs cells slots rls Z B h1 h2 h3 h4 h5 h6 h7 h8)
theorem wp_icmp_lt {x y : Int32} {off : Int} {t : Nat} (hd : decode (mC M) pc = .ok (.if_icmp .lt off, 3)) (ht : (pc : Int) + off = (t : Int)) (kt : x < y → WP G M d k n t ls st h Q) (kf : ¬ x < y → WP G M d k n (pc + 3) ls st h Q) : WP G M d k n pc ls (.int y :: .int x :: st) h Q :=
  fun p e R s m args below meth c Hh locs cells slots rls Z B h1 h2 h3 h4 h5 h6 h7 h8 => lv_icmp_lt B.1 B.2.1 hd ht (fun q => kt q p e R s m args below meth c Hh locs cells slots rls Z B h1 h2 h3 h4 h5 h6 h7 h8) (fun q => kf q p e R s m args below meth c Hh locs cells slots rls Z B h1 h2 h3 h4 h5 h6 h7 h8)
theorem wp_if_ge {x : Int32} {off : Int} {t : Nat} (hd : decode (mC M) pc = .ok (.ifCond .ge off, 3)) (ht : (pc : Int) + off = (t : Int)) (kt : 0 ≤ x → WP G M d k n t ls st h Q) (kf : ¬ 0 ≤ x → WP G M d k n (pc + 3) ls st h Q) : WP G M d k n pc ls (.int x :: st) h Q :=
  fun p e R s m args below meth c Hh locs cells slots rls Z B h1 h2 h3 h4 h5 h6 h7 h8 => lv_if_ge B.1 B.2.1 hd ht (fun q => kt q p e R s m args below meth c Hh locs cells slots rls Z B h1 h2 h3 h4 h5 h6 h7 h8) (fun q => kf q p e R s m args below meth c Hh locs cells slots rls Z B h1 h2 h3 h4 h5 h6 h7 h8)
theorem wp_icmp_ge {x y : Int32} {off : Int} {t : Nat} (hd : decode (mC M) pc = .ok (.if_icmp .ge off, 3)) (ht : (pc : Int) + off = (t : Int)) (kt : y ≤ x → WP G M d k n t ls st h Q) (kf : ¬ y ≤ x → WP G M d k n (pc + 3) ls st h Q) : WP G M d k n pc ls (.int y :: .int x :: st) h Q :=
  fun p e R s m args below meth c Hh locs cells slots rls Z B h1 h2 h3 h4 h5 h6 h7 h8 => lv_icmp_ge B.1 B.2.1 hd ht (fun q => kt q p e R s m args below meth c Hh locs cells slots rls Z B h1 h2 h3 h4 h5 h6 h7 h8) (fun q => kf q p e R s m args below meth c Hh locs cells slots rls Z B h1 h2 h3 h4 h5 h6 h7 h8)
theorem wp_if_gt {x : Int32} {off : Int} {t : Nat} (hd : decode (mC M) pc = .ok (.ifCond .gt off, 3)) (ht : (pc : Int) + off = (t : Int)) (kt : 0 < x → WP G M d k n t ls st h Q) (kf : ¬ 0 < x → WP G M d k n (pc + 3) ls st h Q) : WP G M d k n pc ls (.int x :: st) h Q :=
  fun p e R s m args below meth c Hh locs cells slots rls Z B h1 h2 h3 h4 h5 h6 h7 h8 => lv_if_gt B.1 B.2.1 hd ht (fun q => kt q p e R s m args below meth c Hh locs cells slots rls Z B h1 h2 h3 h4 h5 h6 h7 h8) (fun q => kf q p e R s m args below meth c Hh locs cells slots rls Z B h1 h2 h3 h4 h5 h6 h7 h8)
theorem wp_icmp_gt {x y : Int32} {off : Int} {t : Nat} (hd : decode (mC M) pc = .ok (.if_icmp .gt off, 3)) (ht : (pc : Int) + off = (t : Int)) (kt : y < x → WP G M d k n t ls st h Q) (kf : ¬ y < x → WP G M d k n (pc + 3) ls st h Q) : WP G M d k n pc ls (.int y :: .int x :: st) h Q :=
  fun p e R s m args below meth c Hh locs cells slots rls Z B h1 h2 h3 h4 h5 h6 h7 h8 => lv_icmp_gt B.1 B.2.1 hd ht (fun q => kt q p e R s m args below meth c Hh locs cells slots rls Z B h1 h2 h3 h4 h5 h6 h7 h8) (fun q => kf q p e R s m args below meth c Hh locs cells slots rls Z B h1 h2 h3 h4 h5 h6 h7 h8)
theorem wp_if_le {x : Int32} {off : Int} {t : Nat} (hd : decode (mC M) pc = .ok (.ifCond .le off, 3)) (ht : (pc : Int) + off = (t : Int)) (kt : x ≤ 0 → WP G M d k n t ls st h Q) (kf : ¬ x ≤ 0 → WP G M d k n (pc + 3) ls st h Q) : WP G M d k n pc ls (.int x :: st) h Q :=
  fun p e R s m args below meth c Hh locs cells slots rls Z B h1 h2 h3 h4 h5 h6 h7 h8 => lv_if_le B.1 B.2.1 hd ht (fun q => kt q p e R s m args below meth c Hh locs cells slots rls Z B h1 h2 h3 h4 h5 h6 h7 h8) (fun q => kf q p e R s m args below meth c Hh locs cells slots rls Z B h1 h2 h3 h4 h5 h6 h7 h8)
theorem wp_icmp_le {x y : Int32} {off : Int} {t : Nat} (hd : decode (mC M) pc = .ok (.if_icmp .le off, 3)) (ht : (pc : Int) + off = (t : Int)) (kt : x ≤ y → WP G M d k n t ls st h Q) (kf : ¬ x ≤ y → WP G M d k n (pc + 3) ls st h Q) : WP G M d k n pc ls (.int y :: .int x :: st) h Q :=
  fun p e R s m args below meth c Hh locs cells slots rls Z B h1 h2 h3 h4 h5 h6 h7 h8 => lv_icmp_le B.1 B.2.1 hd ht (fun q => kt q p e R s m args below meth c Hh locs cells slots rls Z B h1 h2 h3 h4 h5 h6 h7 h8) (fun q => kf q p e R s m args below meth c Hh locs cells slots rls Z B h1 h2 h3 h4 h5 h6 h7 h8)
theorem wp_lookup {dflt : Int} {ps : Array (Int × Int)} {len : Nat} {x : Int32} {off : Int} {t : Nat} (hd : decode (mC M) pc = .ok (.lookupswitch dflt ps, len)) (hp : (ps.toList.zip (ps.toList.drop 1)).all (fun (a, next) => a.1 < next.1) = true) (ho : Op.lookupswitch.offset ps.toList dflt x.toInt = off) (ht : (pc : Int) + off = (t : Int)) (kk : WP G M d k n t ls st h Q) : WP G M d k n pc ls (.int x :: st) h Q :=
  WP.go (fun _ _ _ _ _ _ _ _ _ _ _ _ _ _ _ B _ _ _ _ _ _ _ K => lv_lookup B.1 B.2.1 hd hp ho ht K) kk
theorem wp_tableOut {dflt lo hi : Int} {offs : Array Int} {len : Nat} {x : Int32} {t : Nat} (hd : decode (mC M) pc = .ok (.tableswitch dflt lo hi offs, len)) (hr : x.toInt < lo ∨ hi < x.toInt) (ht : (pc : Int) + dflt = (t : Int)) (kk : WP G M d k n t ls st h Q) : WP G M d k n pc ls (.int x :: st) h Q :=
  WP.go (fun _ _ _ _ _ _ _ _ _ _ _ _ _ _ _ B _ _ _ _ _ _ _ K => lv_tableOut B.1 B.2.1 hd hr ht K) kk
theorem wp_tableIn {dflt lo hi : Int} {offs : Array Int} {len : Nat} {x : Int32} {off : Int} {t : Nat} (hd : decode (mC M) pc = .ok (.tableswitch dflt lo hi offs, len)) (h1 : ¬ x.toInt < lo) (h2 : ¬ hi < x.toInt) (ho : offs[(x.toInt - lo).toNat]? = some off) (ht : (pc : Int) + off = (t : Int)) (kk : WP G M d k n t ls st h Q) : WP G M d k n pc ls (.int x :: st) h Q :=
  WP.go (fun _ _ _ _ _ _ _ _ _ _ _ _ _ _ _ B _ _ _ _ _ _ _ K => lv_tableIn B.1 B.2.1 hd h1 h2 ho ht K) kk
theorem rvk_cat {v u : Value} (hv : rvk G v = some u) : u.category = 1 := by
  cases v <;> simp [rvk] at hv <;> subst hv <;> rfl
theorem wp_set {rls : Array Slot} {nL i : Nat} {v u : Value} (hv : rvk G v = some u) (H : lv_has rls nL ((i, u) :: (lvl G ls).filter (fun q => !(q.1 == i) && !(q.1 + 1 == i && q.2.category == 2)))) : lv_has rls nL (lvl G (ls.set i v)) := by
  refine ⟨H.1, H.2.1, fun q hq => H.2.2 q ?_⟩
  obtain ⟨v', h1, h2⟩ := mem_lvl.mp hq
  by_cases hi : q.1 = i
  · have hlt : i < ls.length := by
      have := (List.getElem?_eq_some_iff.mp h1).1
      rw [List.length_set] at this
      omega
    rw [hi, List.getElem?_set_self hlt] at h1
    cases h1
    rw [hv] at h2
    cases h2
    rw [← hi]
    exact List.mem_cons_self
  · rw [List.getElem?_set_ne (Ne.symm hi)] at h1
    refine List.mem_cons_of_mem _ (List.mem_filter.mpr ⟨mem_lvl.mpr ⟨v', h1, h2⟩, ?_⟩)
    have := rvk_cat h2
    simp [hi, this]
theorem wp_istore_n {j : Fin 4} {i : Nat} {x : Int32} {ls' : List Value} (hd : decode (mC M) pc = .ok (.istore_n j, 1)) (hi : (j : Nat) = i) (hn : i < mL M) (hl : ls.set i (.int x) = ls') (kk : WP G M d k n (pc + 1) ls' st h Q) : WP G M d k n pc ls (.int x :: st) h Q := by
  intro p e R s m args below meth c Hh locs cells slots rls Z B h1 h2 h3 h4 h5 h6 h7 h8
  subst hl
  exact lv_istore_n B.1 B.2.1 hd hi h7 hn rfl (fun rls' hl' => kk p e R s m args below meth c Hh locs cells slots rls' Z B h1 h2 h3 h4 h5 h6 (wp_set rfl hl') h8)
theorem wp_istore {i : Nat} {x : Int32} {ls' : List Value} (hd : decode (mC M) pc = .ok (.istore i, 2)) (hn : i < mL M) (hl : ls.set i (.int x) = ls') (kk : WP G M d k n (pc + 2) ls' st h Q) : WP G M d k n pc ls (.int x :: st) h Q := by
  intro p e R s m args below meth c Hh locs cells slots rls Z B h1 h2 h3 h4 h5 h6 h7 h8
  subst hl
  exact lv_istore B.1 B.2.1 hd h7 hn rfl (fun rls' hl' => kk p e R s m args below meth c Hh locs cells slots rls' Z B h1 h2 h3 h4 h5 h6 (wp_set rfl hl') h8)
theorem wp_astore_n {j : Fin 4} {i : Nat} {x : Nat} {ls' : List Value} (hd : decode (mC M) pc = .ok (.astore_n j, 1)) (hi : (j : Nat) = i) (hn : i < mL M) (hl : ls.set i (.ref x) = ls') (kk : WP G M d k n (pc + 1) ls' st h Q) : WP G M d k n pc ls (.ref x :: st) h Q := by
  intro p e R s m args below meth c Hh locs cells slots rls Z B h1 h2 h3 h4 h5 h6 h7 h8
  subst hl
  exact lv_astore_n B.1 B.2.1 hd hi h7 hn rfl (fun rls' hl' => kk p e R s m args below meth c Hh locs cells slots rls' Z B h1 h2 h3 h4 h5 h6 (wp_set rfl hl') h8)
theorem wp_iinc {i : Nat} {z : Int} {x v : Int32} {ls' : List Value} (hd : decode (mC M) pc = .ok (.iinc i z, 3)) (hx : ls[i]? = some (.int x)) (hv : x + Int32.ofInt z = v) (hn : i < mL M) (hl : ls.set i (.int v) = ls') (kk : WP G M d k n (pc + 3) ls' st h Q) : WP G M d k n pc ls st h Q := by
  intro p e R s m args below meth c Hh locs cells slots rls Z B h1 h2 h3 h4 h5 h6 h7 h8
  subst hl
  have hm : (i, Value.int x) ∈ lvl G ls := mem_lvl.mpr ⟨_, hx, rfl⟩
  obtain ⟨j, hj⟩ := List.getElem?_of_mem hm
  exact lv_iinc B.1 B.2.1 hd h7 hj hv hn rfl (fun rls' hl' => kk p e R s m args below meth c Hh locs cells slots rls' Z B h1 h2 h3 h4 h5 h6 (wp_set rfl hl') h8)
/-! the heap -/
theorem wsO_len : (wsO G h).length = h.1.length := by simp [wsO]
theorem wsO_at {i : Nat} {q : Nat × Nat} (hs : h.1[i]? = some q) : (wsO G h)[i]? = some (gb G + i, cE G h i) := by
  have hi := (List.getElem?_eq_some_iff.mp hs).1
  simp [wsO, hi]
theorem wsO_D : va_D (gA G) (wsO G h) := by
  refine ⟨fun i j a b hi hj hab => ?_, fun j a hj => ?_⟩
  · simp only [wsO, List.getElem?_map, Option.map_eq_some_iff] at hi hj
    obtain ⟨x, hx, rfl⟩ := hi
    obtain ⟨y, hy, rfl⟩ := hj
    have h1 := List.getElem?_eq_some_iff.mp hx
    have h2 := List.getElem?_eq_some_iff.mp hy
    obtain ⟨_, h1⟩ := h1
    obtain ⟨_, h2⟩ := h2
    simp at h1 h2 hab
    omega
  · simp only [wsO, List.getElem?_map, Option.map_eq_some_iff] at hj
    obtain ⟨x, hx, rfl⟩ := hj
    show gb G ≤ gb G + x
    omega
theorem wsO_set {h' : HP} {i : Nat} {X : Nat × va_E} (hlen : h'.1 = h.1) (hX : i < h.1.length → (gb G + i, cE G h' i) = X) (ho : ∀ j, j ≠ i → cE G h' j = cE G h j) : (wsO G h).set i X = wsO G h' := by
  apply List.ext_getElem?
  intro j
  by_cases hj : j = i
  · subst hj
    by_cases hlt : j < h.1.length
    · rw [List.getElem?_set_self (by rw [wsO_len]; exact hlt)]
      simp [wsO, hlen, hlt, ← hX hlt]
    · rw [List.getElem?_eq_none (by rw [List.length_set, wsO_len]; omega), List.getElem?_eq_none (by rw [wsO_len, hlen]; omega)]
  · rw [List.getElem?_set_ne (Ne.symm hj)]
    simp only [wsO, hlen]
    by_cases hlt : j < h.1.length
    · simp [hlt, ho j hj]
    · simp [Nat.not_lt.mp hlt]
theorem cls_ok {c : Nat} {C : String} {T : u_T} {N : Nat} (hc : vwCl[c]? = some (C, T, N)) : N = nF c ∧ (∀ w ∈ u_ws C T N, w ∈ Tg) ∧ (∀ j, j < N → parseFieldDescriptor (T j).2.2.1 = some (tyAll c j)) ∧ (∀ a, a < N → ∀ b, b < N → a ≠ b → (T a).2.1 ≠ (T b).2.1) := by
  match c, hc with
  | 0, hc => cases hc; exact ⟨rfl, u_ws_good inX0, tyX0_ok, nmX0⟩
  | 1, hc => cases hc; exact ⟨rfl, u_ws_good inX1, tyX1_ok, nmX1⟩
  | 2, hc => cases hc; exact ⟨rfl, u_ws_good inX2, tyX2_ok, nmX2⟩
  | 3, hc => cases hc; exact ⟨rfl, u_ws_good inX3, tyX3_ok, nmX3⟩
  | 4, hc => cases hc; exact ⟨rfl, u_ws_good inX4, tyX4_ok, nmX4⟩
  | 5, hc => cases hc; exact ⟨rfl, u_ws_good inX5, tyX5_ok, nmX5⟩
  | 6, hc => cases hc; exact ⟨rfl, u_ws_good inX6, tyX6_ok, nmX6⟩
  | 7, hc => cases hc; exact ⟨rfl, u_ws_good inX7, tyX7_ok, nmX7⟩
  | 8, hc => cases hc; exact ⟨rfl, u_ws_good inX8, tyX8_ok, nmX8⟩
  | 9, hc => cases hc; exact ⟨rfl, u_ws_good inX9, tyX9_ok, nmX9⟩
  | 10, hc => cases hc; exact ⟨rfl, u_ws_good inX10, tyX10_ok, nmX10⟩
  | 11, hc => cases hc; exact ⟨rfl, u_ws_good inX11, tyX11_ok, nmX11⟩
  | c + 12, hc => simp [vwCl] at hc
/-- a field of a class, linked from a class's pool -/
def FLk (O : String) (idx c j : Nat) : Prop := ∃ (C : String) (T : u_T), vwCl[c]? = some (C, T, nF c) ∧ j < nF c ∧ Cond.fieldLink O idx (T j).1 (T j).2.1 (T j).2.2.1 ∈ Tg
/-- .. and it isn't final; or it is, and the class is its own -/
def FLp (O : String) (idx c j : Nat) : Prop := ∃ (C : String) (T : u_T), vwCl[c]? = some (C, T, nF c) ∧ j < nF c ∧ Cond.fieldLink O idx (T j).1 (T j).2.1 (T j).2.2.1 ∈ Tg ∧ (T j).2.2.2 = false
def FLf (O : String) (idx c j : Nat) : Prop := ∃ (C : String) (T : u_T), vwCl[c]? = some (C, T, nF c) ∧ j < nF c ∧ Cond.fieldLink O idx (T j).1 (T j).2.1 (T j).2.2.1 ∈ Tg ∧ (T j).2.2.2 = true ∧ (T j).1 = O
theorem cE_obj {i c N : Nat} (hs : h.1[i]? = some (c + 2, N)) : cE G h i = .inr (c, (List.range N).map (fv G h i c)) := by simp [cE, hs]
theorem cE_int {i N : Nat} (hs : h.1[i]? = some (0, N)) : cE G h i = .inl (gI G, N, .inl (h.2.2 i)) := by simp [cE, hs]
theorem cE_byte {i N : Nat} (hs : h.1[i]? = some (1, N)) : cE G h i = .inl (gB G, N, .inl (h.2.2 i)) := by simp [cE, hs]
theorem wp_get {idx c j i : Nat} {v : Value} (hd : decode (mC M) pc = .ok (.getfield idx, 3)) (hl : FLk (mY M).cls idx c j) (hs : h.1[i]? = some (c + 2, nF c)) (hv : fv G h i c j = rv G v) (kk : WP G M d k n (pc + 3) ls (v :: st) h Q) : WP G M d k n pc ls (.ref i :: st) h Q := by
  obtain ⟨C, T, hc, hj, hw⟩ := hl
  obtain ⟨-, hin, -, -⟩ := cls_ok hc
  refine WP.go (fun p e R s m args below meth c' H locs cells slots rls Z B _ _ _ _ hH hS _ K => ?_) kk
  refine va_get (v := rv G v) B.1 B.2.1 B.2.2.2.2.2.2.2.1 hin B.2.2.2.2.1 B.2.2.2.2.2.2.2.2.1 hH.2 i (by rw [wsO_at hs, cE_obj hs]) hc j hj (B.2.2.2.2.2.2.2.1 _ hw) (fun _ h9 => h9) ?_ hd K
  rw [List.getElem?_map, List.getElem?_range hj, ← hv]
  rfl
def upd2 (f : Nat → Nat → Int32) (i j : Nat) (x : Int32) : Nat → Nat → Int32 := fun a => if a = i then upd (f a) j x else f a
def upr2 (g : Nat → Nat → Option Nat) (i j : Nat) (x : Option Nat) : Nat → Nat → Option Nat := fun a => if a = i then (fun b => if b = j then x else g a b) else g a
/-- a value put into a field: the heap behind it -/
theorem wp_put_core {idx c j i : Nat} {v : Value} {h' : HP} (hd : decode (mC M) pc = .ok (.putfield idx, 3)) (hl : FLp (mY M).cls idx c j ∨ (FLf (mY M).cls idx c j ∧ (mY M).name = "<init>")) (hs : h.1[i]? = some (c + 2, nF c)) (h1 : h'.1 = h.1) (ho : ∀ a, a ≠ i → cE G h' a = cE G h a)
    (hfs : ∀ b, b < nF c → fv G h' i c b = if b = j then rv G v else fv G h i c b) (hn : narrow (tyAll c j) (rv G v) = rv G v) (hf : fits (tyAll c j) (rv G v) = true) (kk : WP G M d k n (pc + 3) ls st h' Q) : WP G M d k n pc ls (v :: .ref i :: st) h Q := by
  intro p e R s m args below meth c' H locs cells slots rls Z B q1 q2 q3 q4 hH hS hL hZ
  have hat := wsO_at (G := G) hs
  rw [cE_obj hs] at hat
  have hset : (wsO G h).set i (gb G + i, .inr (c, ((List.range (nF c)).map (fv G h i c)).set j (rv G v))) = wsO G h' := by
    refine wsO_set h1 (fun _ => ?_) ho
    rw [cE_obj (N := nF c) (by rw [h1]; exact hs)]
    congr 3
    apply List.ext_getElem?
    intro b
    rw [List.getElem?_map, List.getElem?_set]
    by_cases hb : b < nF c
    · rw [List.getElem?_range hb]
      simp only [Option.map_some, List.length_map, List.length_range, List.getElem?_map, List.getElem?_range hb]
      rw [hfs b hb]
      by_cases hbj : b = j
      · subst hbj; simp [hb]
      · rw [if_neg hbj, if_neg (Ne.symm hbj)]
    · have e0 : (List.range (nF c))[b]? = none := by simp; omega
      rw [e0]
      simp only [Option.map_none, List.length_map, List.length_range, List.getElem?_map, e0]
      split
      · rw [if_neg (by omega)]
      · rfl
  rcases hl with hl | ⟨hl, hinit⟩
  · obtain ⟨C, T, hc, hj, hw, hfin⟩ := hl
    obtain ⟨-, hin, hty, hnm⟩ := cls_ok hc
    obtain ⟨r, hr1, cell, e1, e2, e3, e4⟩ := hH.2 i _ hat
    have hr : r = (C, T, nF c) := Option.some.inj (hr1.symm.trans hc)
    subst hr
    have hts := B.2.2.2.2.2.2.2.1
    have hK := B.2.2.2.2.2.2.2.2.1
    have hap := va_apart (own := (mY M).cls) hts hin (tyAll c) hty hnm hK hc
    obtain ⟨hSl, hfc, kC, hkC, hkind⟩ := hK.1 c _ hc
    obtain ⟨cf, kf, fi, f, hi, hsl⟩ := hSl j hj
    have hlay := hts _ (hin _ (u_in_lay hj))
    unfold u_lay at hlay
    rw [if_neg (by rw [hfin]; decide)] at hlay
    have hst := (u_facts hfc hkC (u_lays hts hin hj) hi).1
    have h6 := u_store hfc hkC hkind hlay hi (hty j hj) hn hf
    refine W.putK (v := rv G v) B.1 B.2.1 (f := f) ⟨B.2.2.2.2.1, hts _ hw, ⟨_, _, _, hi⟩, hst⟩ (by rw [e2]; exact h6) e1 e3 (by rw [hsl]; exact k2_hasslot (e4 j hj)) rfl rfl hd fun H1 x1 x2 x3 => ?_
    rw [hsl] at x1 ⊢
    have hP := hH.2.set (H1 := H1) (e := .inr (c, ((List.range (nF c)).map (fv G h i c)).set j (rv G v))) wsO_D hat ⟨_, hc, t_OB.to (V := updV (vp_V ((List.range (nF c)).map (fv G h i c))) j (rv G v)) ⟨_, x1, e2, e3, t_set e4 hap hj (rv G v)⟩ (fun a _ => vp_updV_set (by simpa using hj) (rv G v) a)⟩ x3
    rw [hset] at hP
    exact kk p e R s m args below meth c' H1 _ cells slots rls Z B q1 q2 q3 q4 ⟨by rw [x2, h1]; exact hH.1, hP⟩ (hS.put x2 x3 (Nat.le_add_right _ _)) hL hZ
  · obtain ⟨C, T, hc, hj, hw, hfin, hdecl⟩ := hl
    obtain ⟨-, hin, hty, hnm⟩ := cls_ok hc
    obtain ⟨r, hr1, cell, e1, e2, e3, e4⟩ := hH.2 i _ hat
    have hr : r = (C, T, nF c) := Option.some.inj (hr1.symm.trans hc)
    subst hr
    have hts := B.2.2.2.2.2.2.2.1
    have hK := B.2.2.2.2.2.2.2.2.1
    have hown := B.2.2.2.2.1
    have hap := va_apart (own := (mY M).cls) hts hin (tyAll c) hty hnm hK hc
    obtain ⟨hSl, hfc, kC, hkC, hkind⟩ := hK.1 c _ hc
    obtain ⟨cf, kf, fi, f, hi, hsl⟩ := hSl j hj
    have hlay := hts _ (hin _ (u_in_lay hj))
    unfold u_lay at hlay
    rw [if_pos hfin] at hlay
    have hst := (u_facts hfc hkC (u_lays hts hin hj) hi).1
    have hcf : m.cls = cf := by
      obtain ⟨_, _, c2, _, _, _, -, -, hf2, -, -, -, hown2, -⟩ := Cond.laysFinal_spec hlay
      have y1 : c2 = cf := by have := hi.symm.trans hf2; simp at this; exact this.1.symm
      rw [hdecl] at hown2
      rw [← y1]; exact Option.some.inj (hown.symm.trans hown2)
    have h6 := u_fits hfc hkC hkind (Or.inr hlay) hi (hty j hj) hn hf
    refine W.putFinK (v := rv G v) B.1 B.2.1 hown (hts _ hw) hi hst hcf (B.2.2.2.2.2.2.1.trans hinit) (by rw [e2]; exact h6) e1 e3 (by rw [hsl]; exact k2_hasslot (e4 j hj)) rfl rfl hd fun H1 x1 x2 x3 => ?_
    rw [hsl] at x1 ⊢
    have hP := hH.2.set (H1 := H1) (e := .inr (c, ((List.range (nF c)).map (fv G h i c)).set j (rv G v))) wsO_D hat ⟨_, hc, t_OB.to (V := updV (vp_V ((List.range (nF c)).map (fv G h i c))) j (rv G v)) ⟨_, x1, e2, e3, t_set e4 hap hj (rv G v)⟩ (fun a _ => vp_updV_set (by simpa using hj) (rv G v) a)⟩ x3
    rw [hset] at hP
    exact kk p e R s m args below meth c' H1 _ cells slots rls Z B q1 q2 q3 q4 ⟨by rw [x2, h1]; exact hH.1, hP⟩ (hS.put x2 x3 (Nat.le_add_right _ _)) hL hZ
theorem upd2_self (f : Nat → Nat → Int32) (i j : Nat) (x : Int32) : upd2 f i j x i = upd (f i) j x := by simp [upd2]
theorem upd2_ne (f : Nat → Nat → Int32) {i a : Nat} (j : Nat) (x : Int32) (ha : a ≠ i) : upd2 f i j x a = f a := by simp [upd2, ha]
theorem fv_congr {h' : HP} {a c : Nat} (h1 : h'.2.1 a = h.2.1 a) (h2 : h'.2.2 a = h.2.2 a) : fv G h' a c = fv G h a c := by
  funext b
  unfold fv
  rw [h1, h2]
theorem cE_congr {h' : HP} {a : Nat} (h0 : h'.1 = h.1) (h1 : h'.2.1 a = h.2.1 a) (h2 : h'.2.2 a = h.2.2 a) : cE G h' a = cE G h a := by
  unfold cE
  rw [h0, h2]
  rcases h.1[a]? with _ | ⟨c, N⟩
  · rfl
  · rcases c with _ | _ | c
    · rfl
    · rfl
    · show Sum.inr (c, List.map (fv G h' a c) (List.range N)) = Sum.inr (c, List.map (fv G h a c) (List.range N))
      rw [fv_congr h1 h2]
theorem cE_upd2 {i a j : Nat} {x : Int32} (ha : a ≠ i) : cE G (h.1, h.2.1, upd2 h.2.2 i j x) a = cE G h a := cE_congr rfl rfl (upd2_ne _ _ _ ha)
theorem upr2_ne (g : Nat → Nat → Option Nat) {i a : Nat} (j : Nat) (x : Option Nat) (ha : a ≠ i) : upr2 g i j x a = g a := by simp [upr2, ha]
theorem cE_upr2 {i a j : Nat} {x : Option Nat} (ha : a ≠ i) : cE G (h.1, upr2 h.2.1 i j x, h.2.2) a = cE G h a := cE_congr rfl (upr2_ne _ _ _ ha) rfl
/-- an int into a field -/
theorem wp_puti {idx c j i : Nat} {x : Int32} (hd : decode (mC M) pc = .ok (.putfield idx, 3)) (hl : FLp (mY M).cls idx c j) (hs : h.1[i]? = some (c + 2, nF c)) (ht : tyAll c j = .int) (kk : WP G M d k n (pc + 3) ls st (h.1, h.2.1, upd2 h.2.2 i j x) Q) : WP G M d k n pc ls (.int x :: .ref i :: st) h Q := by
  refine wp_put_core (h' := (h.1, h.2.1, upd2 h.2.2 i j x)) hd (Or.inl hl) hs rfl (fun a ha => cE_upd2 ha) (fun b hb => ?_) (by rw [ht]; rfl) (by rw [ht]; rfl) kk
  by_cases hbj : b = j
  · subst hbj
    simp only [fv, ht, upd2_self, upd, if_true, rv]
  · rw [if_neg hbj]
    simp only [fv, upd2_self, upd, if_neg hbj]
theorem wp_putz {idx c j i : Nat} {x : Int32} (hd : decode (mC M) pc = .ok (.putfield idx, 3)) (hl : FLp (mY M).cls idx c j) (hs : h.1[i]? = some (c + 2, nF c)) (ht : tyAll c j = .boolean) (hx : x = 0 ∨ x = 1) (kk : WP G M d k n (pc + 3) ls st (h.1, h.2.1, upd2 h.2.2 i j x) Q) : WP G M d k n pc ls (.int x :: .ref i :: st) h Q := by
  refine wp_put_core (h' := (h.1, h.2.1, upd2 h.2.2 i j x)) hd (Or.inl hl) hs rfl (fun a ha => cE_upd2 ha) (fun b hb => ?_) (by rw [ht]; rcases hx with rfl | rfl <;> rfl) (by rw [ht]; rcases hx with rfl | rfl <;> rfl) kk
  by_cases hbj : b = j
  · subst hbj
    simp only [fv, ht, upd2_self, upd, if_true, rv]
  · rw [if_neg hbj]
    simp only [fv, upd2_self, upd, if_neg hbj]
def isR (t : FieldType) : Bool := match t with
  | .object _ => true
  | .array _ => true
  | _ => false
theorem fv_ref {i c j : Nat} (ht : isR (tyAll c j) = true) : fv G h i c j = ri (h.2.1 i j) (gb G) := by
  unfold fv
  cases hq : tyAll c j <;> rw [hq] at ht <;> first | rfl | cases ht
theorem wp_putr {idx c j i r : Nat} (hd : decode (mC M) pc = .ok (.putfield idx, 3)) (hl : FLp (mY M).cls idx c j ∨ (FLf (mY M).cls idx c j ∧ (mY M).name = "<init>")) (hs : h.1[i]? = some (c + 2, nF c)) (ht : isR (tyAll c j) = true) (kk : WP G M d k n (pc + 3) ls st (h.1, upr2 h.2.1 i j (some r), h.2.2) Q) : WP G M d k n pc ls (.ref r :: .ref i :: st) h Q := by
  refine wp_put_core (h' := (h.1, upr2 h.2.1 i j (some r), h.2.2)) hd hl hs rfl (fun a ha => cE_upr2 ha) (fun b hb => ?_) ?_ ?_ kk
  · by_cases hbj : b = j
    · subst hbj
      rw [fv_ref ht, if_pos rfl]
      simp [upr2, ri, rv]
    · rw [if_neg hbj]
      simp only [fv, upr2, if_true, if_neg hbj]
  · cases hq : tyAll c j <;> rw [hq] at ht <;> first | rfl | cases ht
  · cases hq : tyAll c j <;> rw [hq] at ht <;> first | rfl | cases ht
theorem wp_geti {idx c j i : Nat} (hd : decode (mC M) pc = .ok (.getfield idx, 3)) (hl : FLk (mY M).cls idx c j) (hs : h.1[i]? = some (c + 2, nF c)) (ht : tyAll c j = .int) (kk : WP G M d k n (pc + 3) ls (.int (h.2.2 i j) :: st) h Q) : WP G M d k n pc ls (.ref i :: st) h Q :=
  wp_get hd hl hs (by simp only [fv, ht]; rfl) kk
theorem wp_getz {idx c j i : Nat} (hd : decode (mC M) pc = .ok (.getfield idx, 3)) (hl : FLk (mY M).cls idx c j) (hs : h.1[i]? = some (c + 2, nF c)) (ht : tyAll c j = .boolean) (kk : WP G M d k n (pc + 3) ls (.int (h.2.2 i j) :: st) h Q) : WP G M d k n pc ls (.ref i :: st) h Q :=
  wp_get hd hl hs (by simp only [fv, ht]; rfl) kk
theorem wp_getr {idx c j i r : Nat} (hd : decode (mC M) pc = .ok (.getfield idx, 3)) (hl : FLk (mY M).cls idx c j) (hs : h.1[i]? = some (c + 2, nF c)) (ht : isR (tyAll c j) = true) (hr : h.2.1 i j = some r) (kk : WP G M d k n (pc + 3) ls (.ref r :: st) h Q) : WP G M d k n pc ls (.ref i :: st) h Q :=
  wp_get hd hl hs (by rw [fv_ref ht, hr]; rfl) kk
theorem wp_iald {i N : Nat} {x : Int32} (hd : decode (mC M) pc = .ok (.iaload, 1)) (hs : h.1[i]? = some (0, N)) (hx : vp_in x N) (kk : WP G M d k n (pc + 1) ls (.int (h.2.2 i x.toNatClampNeg) :: st) h Q) : WP G M d k n pc ls (.int x :: .ref i :: st) h Q :=
  WP.go (fun _ _ _ _ _ _ _ _ _ _ _ _ _ _ _ B _ _ _ _ hH _ _ K => va_iald B.1 B.2.1 B.2.2.2.2.2.2.2.2.1 hH.2 i 0 (by rw [wsO_at hs, cE_int hs]) rfl hx hd K) kk
theorem wp_bald {i N : Nat} {x : Int32} (hd : decode (mC M) pc = .ok (.baload, 1)) (hs : h.1[i]? = some (1, N)) (hx : vp_in x N) (kk : WP G M d k n (pc + 1) ls (.int (h.2.2 i x.toNatClampNeg) :: st) h Q) : WP G M d k n pc ls (.int x :: .ref i :: st) h Q :=
  WP.go (fun _ _ _ _ _ _ _ _ _ _ _ _ _ _ _ B _ _ _ _ hH _ _ K => va_bald B.1 B.2.1 B.2.2.2.2.2.2.2.2.1 hH.2 i 1 (by rw [wsO_at hs, cE_byte hs]) rfl hx hd K) kk
theorem xa_set {D : va_G} {cA : ClassId} {a N j : Nat} {f : Nat → Int32} {x : Int32} {H1 : Heap} (e : H1[a]? = some ((vp_cell cA (N, .inl f)).setSlot j (.int x))) : va_at D vwCl (a, .inl (cA, N, .inl (upd f j x))) H1 := by
  show H1[a]? = some (vp_cell _ _)
  rw [e, vp_cell_i, vp_cell_i, arrV_store]
  congr 2
  funext q
  by_cases hq : q = j
  · subst hq; simp [updV, upd]
  · simp [updV, upd, hq]
theorem wp_iast {i N : Nat} {x z : Int32} (hd : decode (mC M) pc = .ok (.iastore, 1)) (hs : h.1[i]? = some (0, N)) (hx : vp_in x N) (kk : WP G M d k n (pc + 1) ls st (h.1, h.2.1, upd2 h.2.2 i x.toNatClampNeg z) Q) : WP G M d k n pc ls (.int z :: .int x :: .ref i :: st) h Q := by
  intro p e R s m args below meth c' H locs cells slots rls Z B q1 q2 q3 q4 hH hS hL hZ
  have hat := wsO_at (G := G) hs
  rw [cE_int hs] at hat
  refine W.iast (a := gb G + i) B.1 B.2.1 (hH.2 i _ hat) ((B.2.2.2.2.2.2.2.2.1.2 0 _ rfl).1 N (fun j => .int (h.2.2 i j))) (fun q => by cases q) (by show ¬ (x < 0 ∨ (arrV _ _ _).slots.size ≤ _); rw [arrV_size]; exact hx) rfl rfl hd fun H1 x1 x2 x3 => ?_
  have hP := hH.2.set (H1 := H1) wsO_D hat (xa_set x1) x3
  have hset : (wsO G h).set i (gb G + i, .inl (gI G, N, .inl (upd (h.2.2 i) x.toNatClampNeg (z)))) = wsO G (h.1, h.2.1, upd2 h.2.2 i x.toNatClampNeg (z)) := wsO_set rfl (fun _ => by rw [cE_int (N := N) (by exact hs)]; simp only [upd2_self]) (fun a ha => cE_upd2 ha)
  have hP : va_P (gD G) vwCl (wsO G (h.1, h.2.1, upd2 h.2.2 i x.toNatClampNeg (z))) H1 := hset ▸ hP
  exact kk p e R s m args below meth c' H1 _ cells slots rls Z B q1 q2 q3 q4 ⟨x2.trans hH.1, hP⟩ (hS.put x2 x3 (Nat.le_add_right _ _)) hL hZ
theorem wp_bast {i N : Nat} {x z : Int32} (hd : decode (mC M) pc = .ok (.bastore, 1)) (hs : h.1[i]? = some (1, N)) (hx : vp_in x N) (kk : WP G M d k n (pc + 1) ls st (h.1, h.2.1, upd2 h.2.2 i x.toNatClampNeg z.toInt8.toInt32) Q) : WP G M d k n pc ls (.int z :: .int x :: .ref i :: st) h Q := by
  intro p e R s m args below meth c' H locs cells slots rls Z B q1 q2 q3 q4 hH hS hL hZ
  have hat := wsO_at (G := G) hs
  rw [cE_byte hs] at hat
  refine W.bast (a := gb G + i) B.1 B.2.1 (hH.2 i _ hat) ((B.2.2.2.2.2.2.2.2.1.2 1 _ rfl).1 N (fun j => .int (h.2.2 i j))) (fun q => by cases q) (by show ¬ (x < 0 ∨ (arrV _ _ _).slots.size ≤ _); rw [arrV_size]; exact hx) rfl rfl hd fun H1 x1 x2 x3 => ?_
  have hP := hH.2.set (H1 := H1) wsO_D hat (xa_set (x := z.toInt8.toInt32) x1) x3
  have hset : (wsO G h).set i (gb G + i, .inl (gB G, N, .inl (upd (h.2.2 i) x.toNatClampNeg (z.toInt8.toInt32)))) = wsO G (h.1, h.2.1, upd2 h.2.2 i x.toNatClampNeg (z.toInt8.toInt32)) := wsO_set rfl (fun _ => by rw [cE_byte (N := N) (by exact hs)]; simp only [upd2_self]) (fun a ha => cE_upd2 ha)
  have hP : va_P (gD G) vwCl (wsO G (h.1, h.2.1, upd2 h.2.2 i x.toNatClampNeg (z.toInt8.toInt32))) H1 := hset ▸ hP
  exact kk p e R s m args below meth c' H1 _ cells slots rls Z B q1 q2 q3 q4 ⟨x2.trans hH.1, hP⟩ (hS.put x2 x3 (Nat.le_add_right _ _)) hL hZ
/-! answers -/
theorem wp_ret (hd : decode (mC M) pc = .ok (.return_, 1)) (hr : mR M = none) (hq : Q none h) : WP G M d k n pc ls [] h Q :=
  fun p e R s m args below meth c Hh locs cells slots rls Z B h1 h2 h3 h4 h5 h6 h7 h8 => W.widen (by omega) (by omega) (h8 none h Hh locs pc rls hq h5 h6 ⟨hr, hd⟩)
theorem wp_iret {x : Int32} (hd : decode (mC M) pc = .ok (.ireturn, 1)) (hr : mR M = some .int) (hq : Q (some (.int x)) h) : WP G M d k n pc ls [.int x] h Q :=
  fun p e R s m args below meth c Hh locs cells slots rls Z B h1 h2 h3 h4 h5 h6 h7 h8 => W.widen (by omega) (by omega) (h8 (some (.int x)) h Hh locs pc rls hq h5 h6 ⟨hd, Or.inl hr⟩)
theorem wp_zret {x : Int32} (hd : decode (mC M) pc = .ok (.ireturn, 1)) (hr : mR M = some .boolean) (hx : x = 0 ∨ x = 1) (hq : Q (some (.int x)) h) : WP G M d k n pc ls [.int x] h Q :=
  fun p e R s m args below meth c Hh locs cells slots rls Z B h1 h2 h3 h4 h5 h6 h7 h8 => W.widen (by omega) (by omega) (h8 (some (.int x)) h Hh locs pc rls hq h5 h6 ⟨hd, Or.inr ⟨hr, hx⟩⟩)

end WPS
