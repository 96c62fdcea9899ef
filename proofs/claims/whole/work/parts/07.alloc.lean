/-! ===== WP: making cells, copying arrays ===== -/
section WPA
variable {G : GC} {M M' : MR} {d k n k' n' pc : Nat} {ls ls' st As : List Value} {h : HP} {Q : Option Value → HP → Prop}
/-- one more cell -/
def hpush (h : HP) (q : Nat × Nat) : HP := (h.1 ++ [q], (fun a => if a = h.1.length then (fun _ => none) else h.2.1 a), (fun a => if a = h.1.length then (fun _ => 0) else h.2.2 a))
theorem wsO_push (q : Nat × Nat) : wsO G (hpush h q) = wsO G h ++ [(gb G + h.1.length, cE G (hpush h q) h.1.length)] := by
  unfold wsO
  have e1 : (hpush h q).1.length = h.1.length + 1 := by simp [hpush]
  rw [e1, List.range_succ, List.map_append]
  congr 1
  apply List.map_congr_left
  intro a ha
  have hlt : a < h.1.length := List.mem_range.mp ha
  congr 1
  unfold cE
  have e2 : (hpush h q).1[a]? = h.1[a]? := by simp [hpush, List.getElem?_append_left hlt]
  have e3 : (hpush h q).2.1 a = h.2.1 a := by simp [hpush, Nat.ne_of_lt hlt]
  have e4 : (hpush h q).2.2 a = h.2.2 a := by simp [hpush, Nat.ne_of_lt hlt]
  rw [e2, e4]
  rcases h.1[a]? with _ | ⟨c, N⟩
  · rfl
  · rcases c with _ | _ | c
    · rfl
    · rfl
    · show Sum.inr (c, List.map (fv G (hpush h q) a c) (List.range N)) = Sum.inr (c, List.map (fv G h a c) (List.range N))
      rw [fv_congr e3 e4]
theorem hr_push {H H1 : Heap} (q : Nat × Nat) (hH : HR G h H) (z : H1.size = gb G + h.1.length + 1) (o : ∀ x, x < gb G + h.1.length → H1[x]? = H[x]?) (hx : va_at (gD G) vwCl (gb G + h.1.length, cE G (hpush h q) h.1.length) H1) : HR G (hpush h q) H1 := by
  refine ⟨by rw [z]; simp [hpush]; omega, ?_⟩
  rw [wsO_push]
  refine (hH.2.kept (fun a x ha => o x.1 ?_)).app (fun a x ha => ?_)
  · have h1 := (hH.2 a x ha).lt
    rw [hH.1] at h1
    exact h1
  · have hz : a < 1 := (List.getElem?_eq_some_iff.mp ha).1
    rw [show a = 0 by omega] at ha
    cases ha
    exact hx
theorem push_at (q : Nat × Nat) : (hpush h q).1[h.1.length]? = some q := by simp [hpush]
/-- new int[], byte[] -/
theorem wp_newi {x : Int32} {N : Nat} (hd : decode (mC M) pc = .ok (.newarray .int, 2)) (hw : Cond.arrayClass .int ∈ Tg) (hx : ¬ x < 0) (hN : x.toNatClampNeg = N) (hb : N ≤ 100000) (kk : WP G M d k n (pc + 2) ls (.ref h.1.length :: st) (hpush h (0, N)) Q) : WP G M d (k + 1) (n + N) pc ls (.int x :: st) h Q := by
  intro p e R s m args below meth c H locs cells slots rls Z B q1 q2 q3 q4 hH hS hL hZ
  refine va_newaK (atype := .int) (rest := st.map (rv G)) B.1 B.2.1 (B.2.2.2.2.2.2.2.1 _ hw) rfl hd rfl hx hN (by show N * 4 ≤ _; omega) (by omega) (by omega) hH.1 fun H1 cA e1 z1 o1 hAr hNm => ?_
  have hcA : cA = gI G := by
    have h1 := (B.2.2.2.2.2.2.2.2.1.2 0 _ rfl).2
    have h2 : s.vm.findClass ("[" ++ FieldType.int.toString) = some (gI G) := h1
    exact Option.some.inj (hNm.symm.trans h2)
  subst hcA
  refine kk p e R s m args below meth c H1 locs (cells + 1) (slots + N) rls Z B q1 q2 (by omega) (by omega) (hr_push _ hH z1 o1 ?_) ⟨Nat.le_trans hS.1 (by rw [hH.1, z1]; omega), fun a h1 h2 => (o1 a (by have := hS.1; rw [hH.1] at this; omega)).trans (hS.2.1 a h1 h2), hS.2.2⟩ hL ?_
  · rw [cE_int (push_at _)]
    show H1[gb G + h.1.length]? = some (vp_cell _ _)
    rw [vp_cell_i, e1]
    congr 2
    funext a
    simp [hpush, newarray.typeOf, defaultValue]
  · rw [show cells + 1 + k = cells + (k + 1) by omega, show slots + N + n = slots + (n + N) by omega]
    exact hZ
theorem wp_newb {x : Int32} {N : Nat} (hd : decode (mC M) pc = .ok (.newarray .byte, 2)) (hw : Cond.arrayClass .byte ∈ Tg) (hx : ¬ x < 0) (hN : x.toNatClampNeg = N) (hb : N ≤ 100000) (kk : WP G M d k n (pc + 2) ls (.ref h.1.length :: st) (hpush h (1, N)) Q) : WP G M d (k + 1) (n + N) pc ls (.int x :: st) h Q := by
  intro p e R s m args below meth c H locs cells slots rls Z B q1 q2 q3 q4 hH hS hL hZ
  refine va_newaK (atype := .byte) (rest := st.map (rv G)) B.1 B.2.1 (B.2.2.2.2.2.2.2.1 _ hw) rfl hd rfl hx hN (by show N * 1 ≤ _; omega) (by omega) (by omega) hH.1 fun H1 cA e1 z1 o1 hAr hNm => ?_
  have hcA : cA = gB G := by
    have h1 := (B.2.2.2.2.2.2.2.2.1.2 1 _ rfl).2
    have h2 : s.vm.findClass ("[" ++ FieldType.byte.toString) = some (gB G) := h1
    exact Option.some.inj (hNm.symm.trans h2)
  subst hcA
  refine kk p e R s m args below meth c H1 locs (cells + 1) (slots + N) rls Z B q1 q2 (by omega) (by omega) (hr_push _ hH z1 o1 ?_) ⟨Nat.le_trans hS.1 (by rw [hH.1, z1]; omega), fun a h1 h2 => (o1 a (by have := hS.1; rw [hH.1] at this; omega)).trans (hS.2.1 a h1 h2), hS.2.2⟩ hL ?_
  · rw [cE_byte (push_at _)]
    show H1[gb G + h.1.length]? = some (vp_cell _ _)
    rw [vp_cell_i, e1]
    congr 2
    funext a
    simp [hpush, newarray.typeOf, defaultValue]
  · rw [show cells + 1 + k = cells + (k + 1) by omega, show slots + N + n = slots + (n + N) by omega]
    exact hZ
/-- new of a class of ours -/
theorem wp_new {idx c : Nat} {C : String} {T : u_T} (hd : decode (mC M) pc = .ok (.new idx, 3)) (hc : vwCl[c]? = some (C, T, nF c)) (hl : Cond.classLink (mY M).cls idx C ∈ Tg) (hi : Cond.instantiable C (nF c) ∈ Tg) (hn : Cond.initialized C ∈ Tg) (kk : WP G M d k n (pc + 3) ls (.ref h.1.length :: st) (hpush h (c + 2, nF c)) Q) : WP G M d (k + 1) (n + nF c) pc ls st h Q := by
  intro p e R s m args below meth c0 H locs cells slots rls Z B q1 q2 q3 q4 hH hS hL hZ
  obtain ⟨-, hin, hty, hnm⟩ := cls_ok hc
  have hts := B.2.2.2.2.2.2.2.1
  have hKn := B.2.2.2.2.2.2.2.2.1.1 c _ hc
  refine W.newcK (g := F0 m pc rls (st.map (rv G))) B.1 B.2.1 B.2.2.2.2.1 (hts _ hl) (hts _ hi) (hts _ hn) rfl hd (by omega) (by omega) hKn.2.1 hH.1 fun H1 kC hkC e1 z1 o1 => ?_
  refine kk p e R s m args below meth c0 H1 locs (cells + 1) (slots + nF c) rls Z B q1 q2 (by omega) (by omega) (hr_push _ hH z1 o1 ?_) ⟨Nat.le_trans hS.1 (by rw [hH.1, z1]; omega), fun a h1 h2 => (o1 a (by have := hS.1; rw [hH.1] at this; omega)).trans (hS.2.1 a h1 h2), hS.2.2⟩ hL ?_
  · rw [cE_obj (push_at _)]
    refine ⟨_, hc, (u_born (tyAll c) hts hin hKn hkC e1 hty).to (fun j hj => ?_)⟩
    have e2 : (hpush h (c + 2, nF c)).2.1 h.1.length = fun _ => none := by simp [hpush]
    have e3 : (hpush h (c + 2, nF c)).2.2 h.1.length = fun _ => 0 := by simp [hpush]
    have e4 : vp_V ((List.range (nF c)).map (fv G (hpush h (c + 2, nF c)) h.1.length c)) j = fv G (hpush h (c + 2, nF c)) h.1.length c j := by
      unfold vp_V
      rw [List.getD_eq_getElem?_getD, List.getElem?_map, List.getElem?_range hj]
      rfl
    show defaultValue (tyAll c j) = vp_V _ j
    rw [e4]
    unfold fv
    rw [e2, e3]
    have ha : ∀ t : FieldType, t = .int ∨ t = .boolean ∨ isR t = true → defaultValue t = (match t with
      | .int => .int 0
      | .boolean => .int 0
      | _ => ri none (gb G)) := by
      intro t ht
      rcases ht with rfl | rfl | ht
      · rfl
      · rfl
      · cases t <;> first | rfl | cases ht
    have hall : ∀ c' < 12, ∀ j' < nF c', tyAll c' j' = .int ∨ tyAll c' j' = .boolean ∨ isR (tyAll c' j') = true := by decide +kernel
    have hc12 : c < 12 := (List.getElem?_eq_some_iff.mp hc).1
    exact ha _ (hall c hc12 j hj)
  · rw [show cells + 1 + k = cells + (k + 1) by omega, show slots + nF c + n = slots + (n + nF c) by omega]
    exact hZ
/-- System.arraycopy of ints between two arrays (or within one) -/
theorem wp_copy {idx i0 i1 n0 n1 : Nat} {sp dp x : Int32} (hd : decode (mC M) pc = .ok (.invokestatic idx, 3)) (hl : Cond.methodLink (mY M).cls idx arraycopyName ∈ Tg) (hnat : Cond.native arraycopyName ∈ Tg) (hst : Cond.static arraycopyName ∈ Tg) (hi : Cond.initialized "java/lang/System" ∈ Tg)
    (hs0 : h.1[i0]? = some (0, n0)) (hs1 : h.1[i1]? = some (0, n1)) (h1 : ¬ sp < 0) (h2 : ¬ dp < 0) (h3 : ¬ x < 0) (h4 : sp.toNatClampNeg + x.toNatClampNeg ≤ n0) (h5 : dp.toNatClampNeg + x.toNatClampNeg ≤ n1) (hr : st.length ≤ 8)
    (kk : WP G M d k n (pc + 3) ls st (h.1, h.2.1, (fun a => if a = i1 then va_cpy (h.2.2 i0) (h.2.2 i1) sp.toNatClampNeg dp.toNatClampNeg x.toNatClampNeg else h.2.2 a)) Q) : WP G M d k n pc ls (.int x :: .int dp :: .ref i1 :: .int sp :: .ref i0 :: st) h Q := by
  intro p e R s m args below meth c H locs cells slots rls Z B q1 q2 q3 q4 hH hS hL hZ
  have hat0 := wsO_at (G := G) hs0
  have hat1 := wsO_at (G := G) hs1
  rw [cE_int hs0] at hat0
  rw [cE_int hs1] at hat1
  have hts := B.2.2.2.2.2.2.2.1
  have hK := B.2.2.2.2.2.2.2.2.1
  have hnw : nativeFrameWords "java/lang/System" "arraycopy" 5 ≤ 40 := by decide +kernel
  have nn : ∀ z : Int32, ¬ z < 0 → z.toInt = (z.toNatClampNeg : Int) := by
    intro z hz
    have hz0 : (0 : Int) ≤ z.toInt := by
      have := Int32.not_lt.mp hz
      simpa using Int32.le_iff_toInt_le.mp this
    show z.toInt = ((z.toInt.toNat : Nat) : Int)
    omega
  intro T hT X
  have hc0 : H[gb G + i0]? = some (vp_cell (gI G) (n0, .inl (h.2.2 i0))) := hH.2 i0 _ hat0
  have hc1 : H[gb G + i1]? = some (vp_cell (gI G) (n1, .inl (h.2.2 i1))) := hH.2 i1 _ hat1
  obtain ⟨-, k0, hk0, cm0, hkk0⟩ := (hK.2 0 _ rfl).1 n0 (fun j => .int (h.2.2 i0 j))
  obtain ⟨-, k1, hk1, cm1, hkk1⟩ := (hK.2 0 _ rfl).1 n1 (fun j => .int (h.2.2 i1 j))
  obtain ⟨vm', X', step⟩ := X.arraycopy B.1 B.2.2.2.2.1 (hts _ hl) (hts _ hnat) (hts _ hst) (hts _ hi) (src := gb G + i0) (dst := gb G + i1) (cs := vp_cell (gI G) (n0, .inl (h.2.2 i0))) (cd := vp_cell (gI G) (n1, .inl (h.2.2 i1))) (srcPos := sp) (destPos := dp) (n := x) (by rw [hT]; exact hc0) (by rw [hT]; exact hc1)
    (fun _ z => by cases z) (fun _ z => by cases z) (fun z => by cases z) (fun z => by cases z) hk0 hk1 hkk0 hkk1 (by simp [refKind]) h1 h2 h3
    (by rw [nn sp h1, nn x h3]; show ¬ _ > ((arrV (gI G) n0 (fun j => .int (h.2.2 i0 j))).slots.size : Int); rw [arrV_size]; omega)
    (by rw [nn dp h2, nn x h3]; show ¬ _ > ((arrV (gI G) n1 (fun j => .int (h.2.2 i1 j))).slots.size : Int); rw [arrV_size]; omega)
    (fun vm₁ _ i hi2 => by
      have e9 : (vp_cell (gI G) (n0, .inl (h.2.2 i0))).slots.getD (sp.toNatClampNeg + i) .null = .int (h.2.2 i0 (sp.toNatClampNeg + i)) := by
        show (arrV (gI G) n0 (fun j => .int (h.2.2 i0 j))).slots.getD _ _ = _
        rw [Array.getD_eq_getD_getElem?, arrV_read _ _ (by omega)]
        rfl
      rw [e9]
      exact ⟨rfl, trivial⟩)
    (g := F0 m pc rls ((Value.int x :: .int dp :: .ref i1 :: .int sp :: .ref i0 :: st).map (rv G))) rfl (hL.1.trans B.2.2.2.1.symm) (rest := st.map (rv G)) rfl (by rw [B.2.1]; exact hd) (by omega) (by rw [rv_cats]; show 2 * 0 + _ + (nativeFrameWords "java/lang/System" "arraycopy" 5 + 11) ≤ _; omega)
  have e1 : copied (vp_cell (gI G) (n0, .inl (h.2.2 i0))) (vp_cell (gI G) (n1, .inl (h.2.2 i1))) sp dp x = vp_cell (gI G) (n1, .inl (va_cpy (h.2.2 i0) (h.2.2 i1) sp.toNatClampNeg dp.toNatClampNeg x.toNatClampNeg)) := va_copied (fun z => .int z) (gI G) (gI G) (h.2.2 i0) (h.2.2 i1) h4
  rw [e1] at X' step
  have hlt : gb G + i1 < H.size := (Array.getElem?_eq_some_iff.mp hc1).1
  generalize hn9 : vp_cell (gI G) (n1, .inl (va_cpy (h.2.2 i0) (h.2.2 i1) sp.toNatClampNeg dp.toNatClampNeg x.toNatClampNeg)) = cell9 at X' step
  have hheap : ((T.setVm vm').setCell (gb G + i1) cell9).heap = H.setIfInBounds (gb G + i1) cell9 := by rw [← hT]; rfl
  have oq : ∀ q : Nat, q ≠ gb G + i1 → (H.setIfInBounds (gb G + i1) cell9)[q]? = H[q]? := fun q hq => by simp [Array.getElem?_setIfInBounds, Ne.symm hq]
  have hat9 : va_at (gD G) vwCl (gb G + i1, .inl (gI G, n1, .inl (va_cpy (h.2.2 i0) (h.2.2 i1) sp.toNatClampNeg dp.toNatClampNeg x.toNatClampNeg))) (H.setIfInBounds (gb G + i1) cell9) := by
    show (H.setIfInBounds (gb G + i1) cell9)[gb G + i1]? = some _
    rw [hn9]
    simp [Array.getElem?_setIfInBounds, hlt]
  have hP := hH.2.set wsO_D hat1 hat9 oq
  have hset : (wsO G h).set i1 (gb G + i1, .inl (gI G, n1, .inl (va_cpy (h.2.2 i0) (h.2.2 i1) sp.toNatClampNeg dp.toNatClampNeg x.toNatClampNeg))) = wsO G (h.1, h.2.1, (fun a => if a = i1 then va_cpy (h.2.2 i0) (h.2.2 i1) sp.toNatClampNeg dp.toNatClampNeg x.toNatClampNeg else h.2.2 a)) :=
    wsO_set rfl (fun _ => by rw [cE_int (N := n1) (by exact hs1)]; simp only [if_true]) (fun a ha => cE_congr rfl rfl (by simp [ha]))
  have hP := hset ▸ hP
  obtain ⟨t, a1, b1⟩ := kk p e R s m args below meth c (H.setIfInBounds (gb G + i1) cell9) _ cells slots rls Z B q1 q2 q3 q4 ⟨by rw [Array.size_setIfInBounds]; exact hH.1, hP⟩ ⟨by rw [Array.size_setIfInBounds]; exact hS.1, fun q g1 g2 => by
      rw [oq q (fun z => g2 (by rw [z]; exact Nat.le_add_right _ _))]
      exact hS.2.1 q g1 g2, fun q hq => by
      rcases List.mem_append.mp hq with z | z
      · exact hS.2.2 q z
      · obtain ⟨y, -, hy⟩ := List.mem_map.mp z
        rw [← hy]
        exact Nat.le_add_right _ _⟩ hL hZ _ hheap X'
  exact ⟨t, step t a1, b1⟩
end WPA

