/-! THE CLAIM OUT OF ONE WALK OF THE LAW'S BODY. Your part is whole_start (and what it stands on); all else here is the same for every law, but numbers. -/
def lw_P (b : Addr) (xs : List Int32) (args : Array Value) (s : State) : Prop := args = #[.ref b] ∧ s.IntsAt b xs ∧ xs.length ≤ 3072 ∧ (Jvm.Cond.and given_1 narrow_1).before args s = true
def lw_Q (_ : Array Value) (s : State) (o : Outcome) (t : State) : Prop := o = .returned (some (.int 1)) ∧ Framed s o t [] 600000 7302250
def lw_Z (below : List Frame) (a : Array Value) (s : State) : State → Prop := fun t => ∃ o, t.status = .running ∧ Ended t below o ∧ lw_Q a s o t
/-- the law's own end, with 1 on the stack, nothing written that was there before, its room as the claim has it -/
theorem lw_ret {p : Program} {l : Launch} {e : Env} {s : State} {m : MethodId} {below : List Frame} {meth : Method} {c : Code} {b : Nat} (hx : p.tables.exec = Jvm.exec) (hb : c.code = code) (hr : meth.sig.returnType = ret) (hlocks : meth.locks = false) {pc : Nat} {H : Heap} {ls : Array Slot} (hdg : decode code pc = .ok (.ireturn, 1)) : W p l e room_1 s m #[Value.ref b] below meth c H [] 600000 7302250 (lw_Z below #[Value.ref b] s) (F0 m pc ls [.int 1]) := by
  intro T hT X
  obtain ⟨fs, hret, hrun, hended, hW, hframe⟩ := X.leave (v := some (.int 1)) (hlocks := hlocks) (fun h => by rw [hr] at h; cases h)
  have hmeth' : T.vm.method? m = some meth := X.method'
  refine ⟨T.setFrames fs, ?_, .returned (some (.int 1)), hrun, hended, rfl, ⟨_, rfl⟩, hW, hframe⟩
  jvm_step X.here [X.here.top, hx, hb, hdg, hmeth', hr, ret, narrow_b1]
  (try refine ⟨rfl, ?_⟩); (try refine ⟨rfl, ?_⟩)
  first | (intro acts; rw [hret _ acts rfl rfl rfl]) | rw [hret _ _ rfl rfl rfl]
  exact Steps.refl _
/-- what holds at the law's entry: the machine, the code, the tables' words (any of lw_tbl by 'hts w (by decide +kernel)'), the script of L ints xs at the cell b, what the Statement gives of the start (any of its parts by flat_of_before) -/
def lw_At (p : Program) (s : State) (m : MethodId) (meth : Method) (c : Code) (b L : Nat) (xs : Nat → Int32) : Prop :=
  p.tables.exec = Jvm.exec ∧ c.code = code ∧ meth.sig.returnType = ret ∧ c.maxLocals = 4 ∧ s.vm.findClass R_law = some m.cls ∧ (∀ w ∈ lw_tbl, w.before #[Value.ref b] s = true) ∧ va_X b L xs s s.heap ∧ b < s.heap.size ∧ meth.locks = false ∧ (Jvm.Cond.and given_1 narrow_1).before #[Value.ref b] s = true ∧ meth.name = "law"

theorem WP.heq {G : GC} {M : MR} {d k n pc : Nat} {ls st : List Value} {h1 h2 : HP} {Q : Option Value → HP → Prop} (hl : h1.1.length = h2.1.length) (hw : wsO G h1 = wsO G h2) (H : WP G M d k n pc ls st h2 Q) : WP G M d k n pc ls st h1 Q :=
  fun p e R s m args below meth c Hh locs cells slots rls Z B q1 q2 q3 q4 q5 q6 q7 q8 => H p e R s m args below meth c Hh locs cells slots rls Z B q1 q2 q3 q4 ⟨by rw [← hl]; exact q5.1, by rw [← hw]; exact q5.2⟩ q6 q7 q8
theorem gC_ok : ∀ i, i < 114 → ∀ k, k < 48 → gC i k = GR false i k := by decide +kernel
theorem SH_small : ∀ q ∈ SH, 2 ≤ q.1 → q.2 ≤ 48 := by decide +kernel
theorem cE_gC {G : GC} (i : Nat) : cE G (SH, gC, fC) i = cE G (SH, GR false, fC) i := by
  unfold cE
  show (match SH[i]? with
    | some (0, n) => (Sum.inl (gI G, n, .inl (fC i)) : va_E)
    | some (1, n) => .inl (gB G, n, .inl (fC i))
    | some (c + 2, N) => .inr (c, (List.range N).map (fv G (SH, gC, fC) i c))
    | none => .inr (0, [])) = (match SH[i]? with
    | some (0, n) => (Sum.inl (gI G, n, .inl (fC i)) : va_E)
    | some (1, n) => .inl (gB G, n, .inl (fC i))
    | some (c + 2, N) => .inr (c, (List.range N).map (fv G (SH, GR false, fC) i c))
    | none => .inr (0, []))
  cases hq : SH[i]? with
  | none => rfl
  | some q =>
    obtain ⟨c, N⟩ := q
    rcases c with _ | _ | c
    · rfl
    · rfl
    · show (Sum.inr (c, List.map (fv G (SH, gC, fC) i c) (List.range N)) : va_E) = Sum.inr (c, List.map (fv G (SH, GR false, fC) i c) (List.range N))
      congr 2
      apply List.map_congr_left
      intro k hk
      have hN : N ≤ 48 := SH_small (c + 2, N) (List.mem_of_getElem? hq) (by show 2 ≤ c + 2; omega)
      have hi : i < 114 := (List.getElem?_eq_some_iff.mp hq).1
      have e := gC_ok i hi k (by have := List.mem_range.mp hk; omega)
      unfold fv
      show (match tyAll c k with
        | .int => Value.int (fC i k)
        | .boolean => .int (fC i k)
        | _ => ri (gC i k) (gb G)) = (match tyAll c k with
        | .int => Value.int (fC i k)
        | .boolean => .int (fC i k)
        | _ => ri (GR false i k) (gb G))
      rw [e]
theorem seal_wp {G : GC} {M : MR} {d pc : Nat} {ls st : List Value} {Q : Option Value → HP → Prop} {Q' : QQ} (hq : ∀ v s g, Q' v s g → Q v (hp s g)) (H : XP G M d pc ls st false fC Q') : WP G M d 0 0 pc ls st (SH.take 114, gC, fC) Q := by
  have e1 : SH.take 114 = SH := by decide +kernel
  rw [e1]
  refine WP.heq (h2 := hp false fC) rfl ?_ (WP.mono (fun v h' hh => ?_) H)
  · show (List.range SH.length).map (fun i => (gb G + i, cE G (SH, gC, fC) i)) = (List.range SH.length).map (fun i => (gb G + i, cE G (SH, GR false, fC) i))
    apply List.map_congr_left
    intro i _
    rw [cE_gC]
  · obtain ⟨s, g, e, q⟩ := hh
    subst e
    exact hq v s g q
set_option maxHeartbeats 4000000 in
/-- the claim's walk, for any relation that the 32 calls keep -/
theorem whole_gen {RR : Bool → FF → Prop} (h00 : RR false fC) (h0 : ∀ G : GC, OP0 G RR) (h1 : ∀ G : GC, OP1 G RR) (h2 : ∀ G : GC, OP2 G RR) (h3 : ∀ G : GC, OP3 G RR) (h4 : ∀ G : GC, OP4 G RR) (h5 : ∀ G : GC, OP5 G RR) (h6 : ∀ G : GC, OP6 G RR) (h7 : ∀ G : GC, OP7 G RR) (h8 : ∀ G : GC, OP8 G RR) (h9 : ∀ G : GC, OP9 G RR) (h10 : ∀ G : GC, OP10 G RR) (h11 : ∀ G : GC, OP11 G RR) (h12 : ∀ G : GC, OP12 G RR) (h13 : ∀ G : GC, OP13 G RR) (h14 : ∀ G : GC, OP14 G RR) (h15 : ∀ G : GC, OP15 G RR) (h16 : ∀ G : GC, OP16 G RR) (h17 : ∀ G : GC, OP17 G RR) (h18 : ∀ G : GC, OP18 G RR) (h19 : ∀ G : GC, OP19 G RR) (h20 : ∀ G : GC, OP20 G RR) (h21 : ∀ G : GC, OP21 G RR) (h22 : ∀ G : GC, OP22 G RR) (h23 : ∀ G : GC, OP23 G RR) (h24 : ∀ G : GC, OP24 G RR) (h25 : ∀ G : GC, OP25 G RR) (h26 : ∀ G : GC, OP26 G RR) (h27 : ∀ G : GC, OP27 G RR) (h28 : ∀ G : GC, OP28 G RR) (h29 : ∀ G : GC, OP29 G RR) (h30 : ∀ G : GC, OP30 G RR) (h31 : ∀ G : GC, OP31 G RR)
    {p : Program} {e : Env} {s : State} {m : MethodId} {below : List Frame} {meth : Method} {c : Code} (l : Launch) {b L : Nat} {xs : Nat → Int32} (hL : L ≤ 3072) (C0 : lw_At p s m meth c b L xs) : W p l e room_1 s m #[Value.ref b] below meth c s.heap [] 0 0 (lw_Z below #[Value.ref b] s) (entryFrame m ([Value.ref b] : List Value).toArray 4) := by
  obtain ⟨hx, hb, hr, hml, hown, hts, hX, hbl, hlocks, hgv, hmn⟩ := C0
  obtain ⟨c0, iS0, hKn0⟩ := u_known (C := RX0) (T := TX0) (N := 5) (n := 5) hts inX0 (hts (.instantiable RX0 5) (List.mem_filter.mp i0_ok).1)
  obtain ⟨c1, iS1, hKn1⟩ := u_known (C := RX1) (T := TX1) (N := 8) (n := 8) hts inX1 (hts (.instantiable RX1 8) (List.mem_filter.mp i1_ok).1)
  obtain ⟨c2, iS2, hKn2⟩ := u_known (C := RX2) (T := TX2) (N := 2) (n := 2) hts inX2 (hts (.instantiable RX2 2) (List.mem_filter.mp i2_ok).1)
  obtain ⟨c3, iS3, hKn3⟩ := u_known (C := RX3) (T := TX3) (N := 7) (n := 7) hts inX3 (hts (.instantiable RX3 7) (List.mem_filter.mp i3_ok).1)
  obtain ⟨c4, iS4, hKn4⟩ := u_known (C := RX4) (T := TX4) (N := 3) (n := 3) hts inX4 (hts (.instantiable RX4 3) (List.mem_filter.mp i4_ok).1)
  obtain ⟨c5, iS5, hKn5⟩ := u_known (C := RX5) (T := TX5) (N := 3) (n := 3) hts inX5 (hts (.instantiable RX5 3) (List.mem_filter.mp i5_ok).1)
  obtain ⟨c6, iS6, hKn6⟩ := u_known (C := RX6) (T := TX6) (N := 6) (n := 6) hts inX6 (hts (.instantiable RX6 6) (List.mem_filter.mp i6_ok).1)
  obtain ⟨c7, iS7, hKn7⟩ := u_known (C := RX7) (T := TX7) (N := 8) (n := 8) hts inX7 (hts (.instantiable RX7 8) (List.mem_filter.mp i7_ok).1)
  obtain ⟨c8, iS8, hKn8⟩ := u_known (C := RX8) (T := TX8) (N := 6) (n := 6) hts inX8 (hts (.instantiable RX8 6) (List.mem_filter.mp i8_ok).1)
  obtain ⟨c9, iS9, hKn9⟩ := u_known (C := RX9) (T := TX9) (N := 20) (n := 20) hts inX9 (hts (.instantiable RX9 20) (List.mem_filter.mp i9_ok).1)
  obtain ⟨c10, iS10, hKn10⟩ := u_known (C := RX10) (T := TX10) (N := 11) (n := 11) hts inX10 (hts (.instantiable RX10 11) (List.mem_filter.mp i10_ok).1)
  obtain ⟨c11, iS11, hKn11⟩ := u_known (C := RX11) (T := TX11) (N := 48) (n := 48) hts inX11 (hts (.instantiable RX11 48) (List.mem_filter.mp i11_ok).1)
  obtain ⟨dC, dI, hKc⟩ : ∃ (dC : Nat → ClassId) (dI : Nat → Nat → Nat), ∀ (k : Nat) (q : vw_C), vwCl[k]? = some q → u_Kn s q.1 q.2.1 q.2.2 (dC k) (dI k) := by
    refine ⟨fun k => if k = 0 then c0 else if k = 1 then c1 else if k = 2 then c2 else if k = 3 then c3 else if k = 4 then c4 else if k = 5 then c5 else if k = 6 then c6 else if k = 7 then c7 else if k = 8 then c8 else if k = 9 then c9 else if k = 10 then c10 else c11, fun k => if k = 0 then iS0 else if k = 1 then iS1 else if k = 2 then iS2 else if k = 3 then iS3 else if k = 4 then iS4 else if k = 5 then iS5 else if k = 6 then iS6 else if k = 7 then iS7 else if k = 8 then iS8 else if k = 9 then iS9 else if k = 10 then iS10 else iS11, ?_⟩
    intro k q hq
    match k, hq with
    | 0, hq => cases hq; exact hKn0
    | 1, hq => cases hq; exact hKn1
    | 2, hq => cases hq; exact hKn2
    | 3, hq => cases hq; exact hKn3
    | 4, hq => cases hq; exact hKn4
    | 5, hq => cases hq; exact hKn5
    | 6, hq => cases hq; exact hKn6
    | 7, hq => cases hq; exact hKn7
    | 8, hq => cases hq; exact hKn8
    | 9, hq => cases hq; exact hKn9
    | 10, hq => cases hq; exact hKn10
    | 11, hq => cases hq; exact hKn11
    | k + 12, hq => simp [vwCl] at hq
  obtain ⟨cI, kI, cmI, hI1, hI2, hI3⟩ := Cond.arrayClass_spec (hts (.arrayClass .int) (List.mem_filter.mp ai_ok).1)
  obtain ⟨cB, kB, cmB, hB1, hB2, hB3⟩ := Cond.arrayClass_spec (hts (.arrayClass .byte) (List.mem_filter.mp ab_ok).1)
  have hfl := flat_of_before _ hgv
  have hA : ∀ a : Nat, a < s.heap.size → ¬ s.heap.size ≤ a := fun a h => by omega
  obtain ⟨adK, adV, hS, hadK⟩ := vk_Sof (args := #[Value.ref b]) (s := s) (N := 1) (tm := fun _ => Term.string "DeadLines$LawReader" 99) (len := [10]) (byt := [[115, 101, 97, 111, 102, 116, 104, 107, 100, 110]]) (A := fun q => s.heap.size ≤ q)
    (fun i hi => by match i, hi with | 0, _ => decide) (fun i _ => hfl _ (by decide +kernel)) (fun i _ => hfl _ (by decide +kernel)) (fun i _ => hfl _ (by decide +kernel)) (fun i hi => by match i, hi with | 0, _ => exact hfl _ (by decide +kernel))
    (fun i hi j hj => by
      match i, hi with
      | 0, _ =>
        have hj : j < 10 := hj
        match j, hj with
        | 0, _ => exact hfl _ (by decide +kernel)
        | 1, _ => exact hfl _ (by decide +kernel)
        | 2, _ => exact hfl _ (by decide +kernel)
        | 3, _ => exact hfl _ (by decide +kernel)
        | 4, _ => exact hfl _ (by decide +kernel)
        | 5, _ => exact hfl _ (by decide +kernel)
        | 6, _ => exact hfl _ (by decide +kernel)
        | 7, _ => exact hfl _ (by decide +kernel)
        | 8, _ => exact hfl _ (by decide +kernel)
        | 9, _ => exact hfl _ (by decide +kernel)) (fun i j hi hj hij => absurd (by omega : i = j) hij) hA
  have hadK0 := hadK 0 (by omega)
  have hZ : va_Z "java/lang/String" "COMPACT_STRINGS" "Z" (.int 1) (fun q => s.heap.size ≤ q) s s.heap := va_Zof (hts _ (by decide +kernel)) (hts _ (by decide +kernel)) (va_eqi (hfl _ (by decide +kernel))) hA
  have hRk : vk_R RX2 99 "seaofthkdn" (adK 0) s := by
    have h1 : (Cond.stringRef "DeadLines$LawReader" 99 "seaofthkdn").before #[Value.ref b] s = true := hts _ (by decide +kernel)
    exact vk_R.of (A := #[Value.ref b]) h1 hadK0
  obtain ⟨G, hG⟩ : ∃ G : GC, G = (l, s.heap.size, ((fun j => if j = 0 then b else if j = 1 then adK 0 else adV 0), L, xs), (dC, dI), cI, cB) := ⟨_, rfl⟩
  have g1 : G.1 = l := by rw [hG]
  have g2 : gb G = s.heap.size := by rw [hG]
  have hO : OLD G s s.heap := by
    subst hG
    refine ⟨hX, hbl, hRk, ?_, hZ, fun a i y hh hm => va_Nw.of rfl (hts _ hm)⟩
    refine ⟨fun i hi => ?_, fun i j hi hj _ => by omega⟩
    have := hS.1 i hi
    have e0 : i = 0 := by omega
    subst e0
    exact this
  have hK : va_K (gD G) vwCl (gT G) s := by
    subst hG
    refine ⟨hKc, fun k q hk => ?_⟩
    match k, hk with
    | 0, hk => cases hk; exact ⟨fun n z => ⟨fun k h => (by cases h), kI, hI2, cmI, hI3⟩, hI1⟩
    | 1, hk => cases hk; exact ⟨fun n z => ⟨fun k h => (by cases h), kB, hB2, cmB, hB3⟩, hB1⟩
    | k + 2, hk => simp at hk
  have hBD : BD G mL_law p s m #[Value.ref b] meth c := ⟨hx, hb, hr, hml, hown, hlocks, hmn, fun w hw => hts w (List.mem_filter.mp hw).1, hK, by rw [g2]; exact Nat.le_refl _, hO⟩
  have hl := lv_entry ([Value.ref b]) (n := 4) (Nat.le_of_ble_eq_true rfl)
  rw [lg_entry_eq]
  generalize (lg_sl ([Value.ref b]) ++ List.replicate (4 - (lg_sl ([Value.ref b])).length) Slot.unset).toArray = rls at hl ⊢
  have hl2 : lv_has rls (mL mL_law) (lvl G [.retAddr 0, .null, .null, .null]) := by
    refine ⟨hl.1, hl.2.1, fun q hq => hl.2.2 q ?_⟩
    subst hG
    have e9 : lvl (l, s.heap.size, ((fun j => if j = 0 then b else if j = 1 then adK 0 else adV 0), L, xs), (dC, dI), cI, cB) [.retAddr 0, .null, .null, .null] = [(0, Value.ref b)] := rfl
    rw [e9] at hq
    exact hq
  have hgL : gL G = L := by rw [hG]
  have main : WP G mL_law 1000 114 8101 0 [.retAddr 0, .null, .null, .null] [] (SH.take 0, fun _ _ => none, fun _ _ => 0) (fun v _ => v = some (.int 1)) :=
    law_init (seal_wp (Q' := fun v _ _ => v = some (.int 1)) (fun _ _ _ q => q) (bL_law_16 (d := 986) (law_loop (by rw [hgL]; exact hL) (h0 G) (h1 G) (h2 G) (h3 G) (h4 G) (h5 G) (h6 G) (h7 G) (h8 G) (h9 G) (h10 G) (h11 G) (h12 G) (h13 G) (h14 G) (h15 G) (h16 G) (h17 G) (h18 G) (h19 G) (h20 G) (h21 G) (h22 G) (h23 G) (h24 G) (h25 G) (h26 G) (h27 G) (h28 G) (h29 G) (h30 G) (h31 G) (gL G + 1) 0 false fC (by omega) (by omega) h00)))
  have := main p e room_1 s m #[Value.ref b] below meth c s.heap [] 0 0 rls (lw_Z below #[Value.ref b] s) hBD (by decide) (by decide) (by decide) (by decide) ⟨by rw [g2]; rfl, fun k q hk => by simp [wsO] at hk⟩ va_S.rf hl2 ?_
  · rw [g1] at this
    exact this
  · intro v h' H' locs' pc' rls' hv hH' hS' hret
    subst hv
    have hd := hret.1
    rw [g1]
    refine va_forget (fun q hq => by have := hS'.2.2 q hq; rw [← g2]; exact this) ?_
    refine W.widen (k := 600000) (n := 7302250) (by omega) (by omega) ?_
    exact lw_ret hx hb hr hlocks hd
