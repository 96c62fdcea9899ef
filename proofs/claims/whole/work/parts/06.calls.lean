/-! ===== WP: calls ===== -/
def wp_Pc (G : GC) (As : List Value) (h : HP) : Array Value → State → Prop := fun v U => v = (As.map (rv G)).toArray ∧ HR G h U.heap ∧ va_K (gD G) vwCl (gT G) U ∧ gb G ≤ U.heap.size ∧ OLD G U U.heap
def wp_Qc (G : GC) (Q : Option Value → HP → Prop) : Array Value → State → Outcome → State → Prop := fun _ st oc t => ∃ (v : Option Value) (h' : HP), oc = .returned (v.map (rv G)) ∧ Q v h' ∧ HR G h' t.heap ∧ va_F (gA G) st t
theorem wp_blind {G : GC} {As : List Value} {h : HP} : FrameBlind (wp_Pc G As h) := fun a U g mk q => by
  obtain ⟨q0, q1, q2, q3, q4⟩ := q
  exact ⟨q0, q1, va_K.moved (u := U) (U := U.calling g mk a) (Vm.Alike.refl U.vm) q2, q3, q4⟩
def wp_rm (d k n : Nat) : Room := { frames := d + 1, cells := k, slots := n, locals := 64 * (d + 1) }
theorem lg_sl_rv {G : GC} (As : List Value) : lg_sl (As.map (rv G)) = (As.map (rv G)).map Slot.val := by
  induction As with
  | nil => rfl
  | cons a t ih =>
    have hc : (rv G a).category = 1 := rv_cat a
    simp only [lg_sl, List.map_cons, List.flatMap_cons] at ih ⊢
    rw [ih, if_neg (by rw [hc]; decide)]
    rfl
theorem lv_args_rv {G : GC} (As : List Value) : ∀ i j v, As[j]? = some v → (i + j, rv G v) ∈ lv_args i (As.map (rv G)) := by
  induction As with
  | nil => intro i j v h; simp at h
  | cons a t ih =>
    intro i j v h
    have hc : (rv G a).category = 1 := rv_cat a
    simp only [List.map_cons, lv_args, hc]
    cases j with
    | zero => simp at h; subst h; exact List.mem_cons_self
    | succ j =>
      simp at h
      have := ih (i + 1) j v h
      rw [if_neg (by decide)]
      refine List.mem_cons_of_mem _ ?_
      rw [show i + (j + 1) = i + 1 + j by omega]
      exact this
theorem rvk_rv {G : GC} {v u : Value} (h : rvk G v = some u) : rv G v = u := by
  cases v <;> simp [rvk] at h <;> subst h <;> rfl
theorem wp_met {G : GC} {M : MR} {d k n : Nat} {As ls : List Value} {h : HP} {Q : Option Value → HP → Prop} (hy : plainName (mY M).cls = true) (hn : As.length ≤ mL M) (hls : ls = As ++ List.replicate (mL M - As.length) .null) (H : WP G M d k n 0 ls [] h Q) :
    Met G.1 (mY M) (Cond.code (mY M) (mC M) (mL M) (mR M) :: Tg) (wp_rm d k n) (wp_Pc G As h) (wp_Qc G Q) k n (gA G) := by
  refine Met.ofW (cc := mC M) (maxL := mL M) (ret := mR M) hy rfl ?_
  intro p e s m args below meth c s₁ B hml hv
  obtain ⟨rfl, hH, hK, hb, hO⟩ := hv
  have hts := atoms_spec (ws := Cond.code (mY M) (mC M) (mL M) (mR M) :: Tg) B.pre
  have hown : s.vm.findClass (mY M).cls = some m.cls := findClass_of_methodNamed B.named
  have hlocks := B.notSynchronized
  have hin : meth.name = (mY M).name := (name_of_methodNamed B.named B.method).1
  have hl := lv_entry (As.map (rv G)) (n := mL M) (by rw [lg_sl_rv]; simpa using hn)
  rw [lg_entry_eq]
  generalize (lg_sl (As.map (rv G)) ++ List.replicate (mL M - (lg_sl (As.map (rv G))).length) Slot.unset).toArray = rls at hl ⊢
  have hbd : BD G M p s m (As.map (rv G)).toArray meth c := ⟨B.exec, B.bytes, B.returns, hml, hown, hlocks, hin, fun w hw => hts w (List.mem_cons_of_mem _ hw), hK, hb, hO⟩
  have hl2 : lv_has rls (mL M) (lvl G ls) := by
    refine ⟨hl.1, hl.2.1, fun q hq => ?_⟩
    obtain ⟨v, h1, h2⟩ := mem_lvl.mp hq
    have hlt : q.1 < As.length := by
      rcases Nat.lt_or_ge q.1 As.length with z | z
      · exact z
      · rw [hls, List.getElem?_append_right z] at h1
        rw [List.getElem?_replicate] at h1
        split at h1
        · cases h1; cases h2
        · cases h1
    rw [hls, List.getElem?_append_left hlt] at h1
    have := lv_args_rv (G := G) As 0 q.1 v h1
    rw [Nat.zero_add, rvk_rv h2] at this
    exact hl.2.2 q this
  refine H p e _ s m _ below meth c s.heap [] 0 0 rls _ hbd (Nat.le_refl _) (Nat.le_refl _) (by show 0 + k ≤ k; omega) (by show 0 + n ≤ n; omega) hH va_S.rf hl2 ?_
  intro v h' H' locs' pc' rls' hq hH' hS' hr
  have e1 : 0 + k = k := by omega
  have e2 : 0 + n = n := by omega
  rw [e1, e2]
  match v, hr with
  | none, hr => exact W.vret B.exec B.bytes (B.returns.trans hr.1) (fun t ht hW => ⟨none, h', rfl, hq, by rw [ht]; exact hH', hS'.F ht⟩) hS'.2.2 hr.2
  | some (.int x), hr =>
    rcases hr.2 with h3 | ⟨h3, h4⟩
    · exact W.iret (v := x) B.exec B.bytes (B.returns.trans h3) (fun t ht hW => ⟨some (.int x), h', rfl, hq, by rw [ht]; exact hH', hS'.F ht⟩) hS'.2.2 hr.1
    · exact W.zret (v := x) (ty := .boolean) B.exec B.bytes (B.returns.trans h3) (by rcases h4 with rfl | rfl <;> rfl) (fun t ht hW => ⟨some (.int x), h', rfl, hq, by rw [ht]; exact hH', hS'.F ht⟩) hS'.2.2 hr.1
theorem wp_run {G : GC} {p : Program} {e : Env} {R : Room} {s : State} {m : MethodId} {args a : Array Value} {below : List Frame} {meth : Method} {c : Code} {H : Heap} {locs : List Loc} {cells slots mc ms pc : Nat} {rls : Array Slot} {Z : State → Prop} {rest st0 : List Value} {Q' : Option Value → HP → Prop}
    (hr : va_Run p G.1 e R s m args below meth c H locs cells slots mc ms (F0 m pc rls st0) (rest.map (rv G)) (wp_Qc G Q' a) (gA G)) (hS : va_S (gA G) s.heap H locs)
    (kk : ∀ (v : Option Value) (h' : HP) (H1 : Heap) (locs1 : List Loc), Q' v h' → HR G h' H1 → va_S (gA G) s.heap H1 locs1 → W p G.1 e R s m args below meth c H1 locs1 (cells + mc) (slots + ms) Z (F0 m (pc + 3) rls ((v.toList ++ rest).map (rv G)))) :
    W p G.1 e R s m args below meth c H locs cells slots Z (F0 m pc rls st0) := by
  intro T hT X
  obtain ⟨v, st₀, t, T', L, h0, X', hL, e1, e2, ⟨u, h', hv, hq, hH, hz, hk⟩, st⟩ := hr T hT X
  cases hv
  rw [h0] at hz hk
  obtain ⟨t2, a1, b1⟩ := kk u h' T'.heap (locs ++ L) hq (by rw [e1]; exact hH)
    ⟨Nat.le_trans hS.1 (by rw [e1]; exact hz), fun q h1 h2 => by rw [e1, hk q (Nat.lt_of_lt_of_le h1 hS.1) h2]; exact hS.2.1 q h1 h2, fun q hq => by
      rcases List.mem_append.mp hq with h | h
      · exact hS.2.2 q h
      · exact hL q h⟩ T' rfl X'
  refine ⟨t2, st t2 ?_, b1⟩
  have e3 : (u.toList ++ rest).map (rv G) = (u.map (rv G)).toList ++ rest.map (rv G) := by cases u <;> simp
  rw [e3] at a1
  exact a1
/-- what every callee must be -/
def MOk (M : MR) : Prop := plainName (mY M).cls = true ∧ Cond.code (mY M) (mC M) (mL M) (mR M) ∈ Tg ∧ Cond.initialized (mY M).cls ∈ Tg ∧ ((mY M).cls ≠ "java/lang/invoke/MethodHandle" ∧ (mY M).cls ≠ "java/lang/invoke/VarHandle") ∧ mL M ≤ 45
def nPar (M : MR) (na : Nat) : Prop := (parseMethodDescriptor (mY M).desc).map (fun d => d.parameters.length) = some na
section WPC
variable {G : GC} {M M' : MR} {d k n k' n' pc : Nat} {ls ls' st As : List Value} {h : HP} {Q : Option Value → HP → Prop}
theorem wp_callB {R : Room} {s : State} {args : Array Value} {own : String} {idx na : Nat} (hts : ∀ w ∈ Tg, w.before args s = true) (hM : MOk M') (hna : nPar M' na) (hl : Cond.methodLink own idx (mY M') ∈ Tg) (h1 : d + 1 + 1 ≤ R.frames) (h2 : 64 * (d + 1 + 1) ≤ R.locals) :
    CallB R s args own idx (mY M') (mC M') (mL M') (mR M') (Cond.code (mY M') (mC M') (mL M') (mR M') :: Tg) (wp_rm d k n) k n na := by
  obtain ⟨_, hc, hi, hn, hL⟩ := hM
  refine ⟨rfl, rfl, h1, ?_, pay_in hts (GoodIn_Tg (fun w hw => (List.mem_cons.mp hw).elim (fun e => by rw [e]; exact hc) id)), List.mem_cons_self, hts _ hc, hts _ hi, hn, fun sig hs => ?_, hts _ hl⟩
  · show 8 + (mL M' + 11) + 64 * (d + 1) ≤ R.locals
    omega
  · have h3 := hna
    unfold nPar at h3
    rw [hs] at h3
    exact (Option.some.inj h3).symm
theorem wp_callN {R : Room} {s : State} {args : Array Value} {own host : String} {idx na : Nat} (hts : ∀ w ∈ Tg, w.before args s = true) (hO : OLD G s s.heap) (hM : MOk M') (hna : nPar M' na) (hl : Cond.methodLinkNest own idx (mY M') host ∈ lw_tbl) (h1 : d + 1 + 1 ≤ R.frames) (h2 : 64 * (d + 1 + 1) ≤ R.locals) :
    va_CN R s args own idx (mY M') host (mC M') (mL M') (mR M') (Cond.code (mY M') (mC M') (mL M') (mR M') :: Tg) (wp_rm d k n) k n na := by
  obtain ⟨_, hc, hi, hn, hL⟩ := hM
  refine ⟨⟨rfl, rfl, h1, ?_, pay_in hts (GoodIn_Tg (fun w hw => (List.mem_cons.mp hw).elim (fun e => by rw [e]; exact hc) id)), List.mem_cons_self⟩, hts _ hc, hts _ hi, hn, fun sig hs => ?_, va_Nw.use rfl (hO.2.2.2.2.2 _ _ _ _ hl)⟩
  · show 8 + (mL M' + 11) + 64 * (d + 1) ≤ R.locals
    omega
  · have h3 := hna
    unfold nPar at h3
    rw [hs] at h3
    exact (Option.some.inj h3).symm
theorem wp_pre {s U : State} {m : MethodId} {p : Program} {args : Array Value} {meth : Method} {c : Code} {H : Heap} {locs : List Loc} (B : BD G M p s m args meth c) (hH : HR G h H) (hS : va_S (gA G) s.heap H locs) (hU : U.heap = H) (hW : s.WarmedH U.vm) : wp_Pc G As h (As.map (rv G)).toArray U := by
  have hb := B.2.2.2.2.2.2.2.2.2.1
  refine ⟨rfl, by rw [hU]; exact hH, va_K.moved hW.alike B.2.2.2.2.2.2.2.2.1, by rw [hU]; exact Nat.le_trans hb hS.1, ?_⟩
  rw [hU]
  exact B.2.2.2.2.2.2.2.2.2.2.moved hW hb hS.2.1
/-- static, by a plain link -/
theorem wp_callS {idx : Nat} (hd : decode (mC M) pc = .ok (.invokestatic idx, 3)) (hM : MOk M') (hna : nPar M' As.length) (hl : Cond.methodLink (mY M).cls idx (mY M') ∈ Tg) (hst : Cond.static (mY M') ∈ Tg) (hn : As.length ≤ mL M') (hls : ls' = As ++ List.replicate (mL M' - As.length) .null) (hr : st.length ≤ 8)
    (kk : WP G M' d k n 0 ls' [] h (fun v h' => WP G M (d + 1) k' n' (pc + 3) ls (v.toList ++ st) h' Q)) : WP G M (d + 1) (k + k') (n + n') pc ls (As.reverse ++ st) h Q := by
  intro p e R s m args below meth c H locs cells slots rls Z B q1 q2 q3 q4 hH hS hL hZ
  refine wp_run (rest := st) (va_runS (As := As.map (rv G)) (rest := st.map (rv G)) (nL := mL M) ⟨B.1, B.2.1, B.2.2.2.1, B.2.2.2.2.1, B.2.2.2.2.2.2.2.1⟩ (wp_met hM.1 hn hls kk) ⟨wp_callB B.2.2.2.2.2.2.2.1 hM hna hl q1 q2, B.2.2.2.2.2.2.2.1 _ hst⟩ ⟨wp_blind, fun U hU hW => wp_pre B hH hS hU hW⟩ rfl (by simp) hL.1 (by simp) (lv_room (by rw [rv_cats]; exact hr)) hd ⟨by omega, by omega⟩) hS ?_
  intro v h' H1 locs1 hq hH1 hS1
  refine hq p e R s m args below meth c H1 locs1 (cells + k) (slots + n) rls Z B q1 q2 (by omega) (by omega) hH1 hS1 hL ?_
  rw [show cells + k + k' = cells + (k + k') by omega, show slots + n + n' = slots + (n + n') by omega]
  exact hZ
/-- static, by a nest mate's link -/
theorem wp_callSN {idx : Nat} {host : String} (hd : decode (mC M) pc = .ok (.invokestatic idx, 3)) (hM : MOk M') (hna : nPar M' As.length) (hl : Cond.methodLinkNest (mY M).cls idx (mY M') host ∈ lw_tbl) (hst : Cond.static (mY M') ∈ Tg) (hn : As.length ≤ mL M') (hls : ls' = As ++ List.replicate (mL M' - As.length) .null) (hr : st.length ≤ 8)
    (kk : WP G M' d k n 0 ls' [] h (fun v h' => WP G M (d + 1) k' n' (pc + 3) ls (v.toList ++ st) h' Q)) : WP G M (d + 1) (k + k') (n + n') pc ls (As.reverse ++ st) h Q := by
  intro p e R s m args below meth c H locs cells slots rls Z B q1 q2 q3 q4 hH hS hL hZ
  refine wp_run (rest := st) (va_runSN (As := As.map (rv G)) (rest := st.map (rv G)) (nL := mL M) ⟨B.1, B.2.1, B.2.2.2.1, B.2.2.2.2.1, B.2.2.2.2.2.2.2.1⟩ (wp_met hM.1 hn hls kk) ⟨wp_callN B.2.2.2.2.2.2.2.1 B.2.2.2.2.2.2.2.2.2.2 hM hna hl q1 q2, B.2.2.2.2.2.2.2.1 _ hst, trivial⟩ ⟨wp_blind, fun U hU hW => wp_pre B hH hS hU hW⟩ rfl (by simp) hL.1 (by simp) (lv_room (by rw [rv_cats]; exact hr)) hd ⟨by omega, by omega⟩) hS ?_
  intro v h' H1 locs1 hq hH1 hS1
  refine hq p e R s m args below meth c H1 locs1 (cells + k) (slots + n) rls Z B q1 q2 (by omega) (by omega) hH1 hS1 hL ?_
  rw [show cells + k + k' = cells + (k + k') by omega, show slots + n + n' = slots + (n + n') by omega]
  exact hZ
/-- virtual -/
theorem wp_callV {idx i c : Nat} {T : u_T} {N : Nat} (hd : decode (mC M) pc = .ok (.invokevirtual idx, 3)) (hM : MOk M') (hna : nPar M' As.length) (hl : Cond.methodLink (mY M).cls idx (mY M') ∈ Tg) (hin : Cond.instanceMethod (mY M') ∈ Tg) (hse : Cond.selects (mY M').cls (mY M') (mY M') ∈ Tg) (hc : vwCl[c]? = some ((mY M').cls, T, N)) (hs : h.1[i]? = some (c + 2, nF c)) (hn : As.length + 1 ≤ mL M') (hls : ls' = (.ref i :: As) ++ List.replicate (mL M' - (As.length + 1)) .null) (hr : st.length ≤ 8)
    (kk : WP G M' d k n 0 ls' [] h (fun v h' => WP G M (d + 1) k' n' (pc + 3) ls (v.toList ++ st) h' Q)) : WP G M (d + 1) (k + k') (n + n') pc ls (As.reverse ++ .ref i :: st) h Q := by
  intro p e R s m args below meth cc H locs cells slots rls Z B q1 q2 q3 q4 hH hS hL hZ
  have hat := wsO_at (G := G) hs
  rw [cE_obj hs] at hat
  refine wp_run (rest := st) (va_runV (As := As.map (rv G)) (rest := st.map (rv G)) (b := gb G + i) (C := (mY M').cls) (nL := mL M) ⟨B.1, B.2.1, B.2.2.2.1, B.2.2.2.2.1, B.2.2.2.2.2.2.2.1⟩ (wp_met (As := .ref i :: As) hM.1 hn hls kk) ⟨wp_callB B.2.2.2.2.2.2.2.1 hM hna hl q1 q2, B.2.2.2.2.2.2.2.1 _ hin, B.2.2.2.2.2.2.2.1 _ hse⟩ ⟨wp_blind, va_recv B.2.2.2.2.2.2.2.2.1 hH.2 hc hat, fun U hU hW => wp_pre (As := .ref i :: As) B hH hS hU hW⟩ rfl (by simp) hL.1 (by simp [rv]) (lv_room (by rw [rv_cats]; exact hr)) hd ⟨by omega, by omega⟩) hS ?_
  intro v h' H1 locs1 hq hH1 hS1
  refine hq p e R s m args below meth cc H1 locs1 (cells + k) (slots + n) rls Z B q1 q2 (by omega) (by omega) hH1 hS1 hL ?_
  rw [show cells + k + k' = cells + (k + k') by omega, show slots + n + n' = slots + (n + n') by omega]
  exact hZ
/-- a constructor -/
theorem wp_callI {idx i : Nat} (hd : decode (mC M) pc = .ok (.invokespecial idx, 3)) (hM : MOk M') (hr0 : mR M' = none) (hy : (mY M').name = "<init>") (hna : nPar M' As.length) (hl : Cond.methodLink (mY M).cls idx (mY M') ∈ Tg) (hin : Cond.instanceMethod (mY M') ∈ Tg) (hn : As.length + 1 ≤ mL M') (hls : ls' = (.ref i :: As) ++ List.replicate (mL M' - (As.length + 1)) .null) (hr : st.length ≤ 8)
    (kk : WP G M' d k n 0 ls' [] h (fun v h' => WP G M (d + 1) k' n' (pc + 3) ls (v.toList ++ st) h' Q)) : WP G M (d + 1) (k + k') (n + n') pc ls (As.reverse ++ .ref i :: st) h Q := by
  intro p e R s m args below meth cc H locs cells slots rls Z B q1 q2 q3 q4 hH hS hL hZ
  have hcb := wp_callB (k := k) (n := n) (own := (mY M).cls) B.2.2.2.2.2.2.2.1 hM hna hl q1 q2
  have hmt := wp_met (As := .ref i :: As) hM.1 hn hls kk
  rw [hr0] at hcb hmt
  refine wp_run (rest := st) (va_runI (As := As.map (rv G)) (rest := st.map (rv G)) (b := gb G + i) (nL := mL M) ⟨B.1, B.2.1, B.2.2.2.1, B.2.2.2.2.1, B.2.2.2.2.2.2.2.1⟩ hmt ⟨hcb, hy, B.2.2.2.2.2.2.2.1 _ hin⟩ ⟨wp_blind, fun U hU hW => wp_pre (As := .ref i :: As) B hH hS hU hW⟩ rfl (by simp) hL.1 (by simp [rv]) (lv_room (by rw [rv_cats]; exact hr)) hd ⟨by omega, by omega⟩) hS ?_
  intro v h' H1 locs1 hq hH1 hS1
  refine hq p e R s m args below meth cc H1 locs1 (cells + k) (slots + n) rls Z B q1 q2 (by omega) (by omega) hH1 hS1 hL ?_
  rw [show cells + k + k' = cells + (k + k') by omega, show slots + n + n' = slots + (n + n') by omega]
  exact hZ
theorem wp_callIN {idx i : Nat} {host : String} (hd : decode (mC M) pc = .ok (.invokespecial idx, 3)) (hM : MOk M') (hr0 : mR M' = none) (hy : (mY M').name = "<init>") (hna : nPar M' As.length) (hl : Cond.methodLinkNest (mY M).cls idx (mY M') host ∈ lw_tbl) (hin : Cond.instanceMethod (mY M') ∈ Tg) (hn : As.length + 1 ≤ mL M') (hls : ls' = (.ref i :: As) ++ List.replicate (mL M' - (As.length + 1)) .null) (hr : st.length ≤ 8)
    (kk : WP G M' d k n 0 ls' [] h (fun v h' => WP G M (d + 1) k' n' (pc + 3) ls (v.toList ++ st) h' Q)) : WP G M (d + 1) (k + k') (n + n') pc ls (As.reverse ++ .ref i :: st) h Q := by
  intro p e R s m args below meth cc H locs cells slots rls Z B q1 q2 q3 q4 hH hS hL hZ
  have hcb := wp_callN (k := k) (n := n) (own := (mY M).cls) B.2.2.2.2.2.2.2.1 B.2.2.2.2.2.2.2.2.2.2 hM hna hl q1 q2
  have hmt := wp_met (As := .ref i :: As) hM.1 hn hls kk
  rw [hr0] at hcb hmt
  refine wp_run (rest := st) (va_runIN (As := As.map (rv G)) (rest := st.map (rv G)) (b := gb G + i) (nL := mL M) ⟨B.1, B.2.1, B.2.2.2.1, B.2.2.2.2.1, B.2.2.2.2.2.2.2.1⟩ hmt ⟨hcb, hy, B.2.2.2.2.2.2.2.1 _ hin⟩ ⟨wp_blind, fun U hU hW => wp_pre (As := .ref i :: As) B hH hS hU hW⟩ rfl (by simp) hL.1 (by simp [rv]) (lv_room (by rw [rv_cats]; exact hr)) hd ⟨by omega, by omega⟩) hS ?_
  intro v h' H1 locs1 hq hH1 hS1
  refine hq p e R s m args below meth cc H1 locs1 (cells + k) (slots + n) rls Z B q1 q2 (by omega) (by omega) hH1 hS1 hL ?_
  rw [show cells + k + k' = cells + (k + k') by omega, show slots + n + n' = slots + (n + n') by omega]
  exact hZ
theorem wp_objInit {idx i : Nat} (hd : decode (mC M) pc = .ok (.invokespecial idx, 3)) (hl : Cond.methodLink (mY M).cls idx Lib.objectInit ∈ Tg) (hin : Cond.instanceMethod Lib.objectInit ∈ Tg) (hc : Cond.code Lib.objectInit ⟨#[0xb1]⟩ 1 none ∈ Tg) (hr : st.length ≤ 8) (kk : WP G M d k n (pc + 3) ls st h Q) : WP G M d k n pc ls (.ref i :: st) h Q := by
  refine WP.go (fun p e R s m args below meth c H locs cells slots rls Z B q1 q2 q3 q4 hH hS hL K => ?_) kk
  exact W.objInit (a := gb G + i) (rest := st.map (rv G)) B.1 B.2.1 B.2.2.2.2.1 (B.2.2.2.2.2.2.2.1 _ hl) (B.2.2.2.2.2.2.2.1 _ hin) (B.2.2.2.2.2.2.2.1 _ hc) rfl (hL.1.trans B.2.2.2.1.symm) rfl hd (by omega) (by rw [rv_cats]; show 2 * 0 + _ + 12 ≤ _; omega) K
theorem wp_mmax {idx : Nat} {x y : Int32} (hd : decode (mC M) pc = .ok (.invokestatic idx, 3)) (hl : Cond.methodLink (mY M).cls idx Lib.Math.max.name ∈ Tg) (hst : Cond.static Lib.Math.max.name ∈ Tg) (hi : Cond.initialized "java/lang/Math" ∈ Tg) (hc : Cond.code Lib.Math.max.name Lib.Math.max.code 2 (some .int) ∈ Tg) (hr : st.length ≤ 8) (kk : WP G M d k n (pc + 3) ls (.int (if x < y then y else x) :: st) h Q) : WP G M d k n pc ls (.int y :: .int x :: st) h Q := by
  refine WP.go (fun p e R s m args below meth c H locs cells slots rls Z B q1 q2 q3 q4 hH hS hL K => ?_) kk
  exact va_mmax (rest := st.map (rv G)) B.1 B.2.1 (B.2.2.2.1.trans hL.1.symm) B.2.2.2.2.1 (B.2.2.2.2.2.2.2.1 _ hl) (B.2.2.2.2.2.2.2.1 _ hst) (B.2.2.2.2.2.2.2.1 _ hi) (B.2.2.2.2.2.2.2.1 _ hc) (by omega) (by rw [rv_cats]; omega) (by omega) (by omega) hd K
theorem wp_mmin {idx : Nat} {x y : Int32} (hd : decode (mC M) pc = .ok (.invokestatic idx, 3)) (hl : Cond.methodLink (mY M).cls idx Lib.Math.min.name ∈ Tg) (hst : Cond.static Lib.Math.min.name ∈ Tg) (hi : Cond.initialized "java/lang/Math" ∈ Tg) (hc : Cond.code Lib.Math.min.name Lib.Math.min.code 2 (some .int) ∈ Tg) (hr : st.length ≤ 8) (kk : WP G M d k n (pc + 3) ls (.int (if y < x then y else x) :: st) h Q) : WP G M d k n pc ls (.int y :: .int x :: st) h Q := by
  refine WP.go (fun p e R s m args below meth c H locs cells slots rls Z B q1 q2 q3 q4 hH hS hL K => ?_) kk
  exact va_mmin (rest := st.map (rv G)) B.1 B.2.1 (B.2.2.2.1.trans hL.1.symm) B.2.2.2.2.1 (B.2.2.2.2.2.2.2.1 _ hl) (B.2.2.2.2.2.2.2.1 _ hst) (B.2.2.2.2.2.2.2.1 _ hi) (B.2.2.2.2.2.2.2.1 _ hc) (by omega) (by rw [rv_cats]; omega) (by omega) (by omega) hd K
/-! the script -/
theorem wp_slen {v : Int32} (hd : decode (mC M) pc = .ok (.arraylength, 1)) (hv : Int32.ofNat (gL G) = v) (kk : WP G M d k n (pc + 1) ls (.int v :: st) h Q) : WP G M d k n pc ls (.retAddr 0 :: st) h Q := by
  subst hv
  refine WP.go (fun p e R s m args below meth c H locs cells slots rls Z B q1 q2 q3 q4 hH hS hL K => ?_) kk
  have hO := B.2.2.2.2.2.2.2.2.2.2
  have hb := B.2.2.2.2.2.2.2.2.2.1
  exact va_slen B.1 B.2.1 hO.1 (by have := hO.2.1; omega) (by have := hO.2.1; show ¬ gb G ≤ _; omega) hS hd K
theorem wp_sld {i : Int32} (hd : decode (mC M) pc = .ok (.iaload, 1)) (hi : vp_in i (gL G)) (kk : WP G M d k n (pc + 1) ls (.int (gxs G i.toNatClampNeg) :: st) h Q) : WP G M d k n pc ls (.int i :: .retAddr 0 :: st) h Q := by
  refine WP.go (fun p e R s m args below meth c H locs cells slots rls Z B q1 q2 q3 q4 hH hS hL K => ?_) kk
  have hO := B.2.2.2.2.2.2.2.2.2.2
  have hb := B.2.2.2.2.2.2.2.2.2.1
  exact va_sld B.1 B.2.1 hO.1 (by have := hO.2.1; omega) (by have := hO.2.1; show ¬ gb G ≤ _; omega) hS hi hd K
end WPC

