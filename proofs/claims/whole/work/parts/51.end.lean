/-! ===== a world and a row, whatever cell it lies in ===== -/
def RWr (f : FF) (w : Nat) (a : Nat → Int32) : Prop := RWd (f w) (f (w + 1)) (f (w + 2)) (f (w + 3)) (f (w + 4)) (f (w + 5)) (f (w + 6)) (f (w + 7)) (f (w + 8)) (f (w + 9)) (f (w + 10)) (f (w + 11)) (f (w + 12)) a
theorem RWr.of {f : FF} {w c : Nat} (h : RW f w c) : RWr f w (f c) := h
theorem RWr.to {f : FF} {w c : Nat} {a : Nat → Int32} (h : RWr f w a) (e : f c = a) : RW f w c := by subst e; exact h
theorem RWr.cg {f g : FF} {w : Nat} {a : Nat → Int32} (h : RWr f w a) (hw : ∀ k, k < 13 → g (w + k) = f (w + k)) : RWr g w a := by
  unfold RWr at h ⊢
  have h0 := hw 0 (by omega)
  rw [Nat.add_zero] at h0
  rw [h0, hw 1 (by omega), hw 2 (by omega), hw 3 (by omega), hw 4 (by omega), hw 5 (by omega), hw 6 (by omega), hw 7 (by omega), hw 8 (by omega), hw 9 (by omega), hw 10 (by omega), hw 11 (by omega), hw 12 (by omega)]
  exact h
theorem RWr.RW' {f : FF} {w : Nat} {a : Nat → Int32} (hw : isW w) (h : RWr f w a) : RW (fun c => if c = 200 then a else f c) w 200 := by
  have hw2 : w + 12 < 200 := by rcases hw with rfl | rfl | rfl <;> omega
  have e : ∀ k, k < 13 → (fun c => if c = 200 then a else f c) (w + k) = f (w + k) := fun k hk => if_neg (by omega)
  exact RWr.to (RWr.cg h e) (if_pos rfl)
/-- the first for which it holds -/
noncomputable def fstN (P : Nat → Prop) (n : Nat) : Nat := @dite Nat (∃ i, i < n ∧ P i) (Classical.propDecidable _) (fun h => Classical.choose (pk_least (fun i => i < n ∧ P i) h)) (fun _ => n)
theorem fstN_eq {P : Nat → Prop} {n i : Nat} (hi : i < n) (h : P i) (hm : ∀ j, j < i → ¬ P j) : fstN P n = i := by
  unfold fstN
  have hx : ∃ i, i < n ∧ P i := ⟨i, hi, h⟩
  rw [dif_pos hx]
  have hc := Classical.choose_spec (pk_least (fun i => i < n ∧ P i) hx)
  generalize Classical.choose (pk_least (fun i => i < n ∧ P i) hx) = k at hc ⊢
  rcases Nat.lt_trichotomy k i with c | c | c
  · exact absurd hc.1.2 (hm k c)
  · exact c
  · exact absurd ⟨hi, h⟩ (hc.2 i c)
theorem fstN_no {P : Nat → Prop} {n : Nat} (h : ∀ i, i < n → ¬ P i) : fstN P n = n := dif_neg (fun ⟨i, hi, hp⟩ => h i hi hp)
theorem fstN_cases (P : Nat → Prop) (n : Nat) : (fstN P n < n ∧ P (fstN P n) ∧ ∀ j, j < fstN P n → ¬ P j) ∨ (fstN P n = n ∧ ∀ i, i < n → ¬ P i) := by
  by_cases h : ∃ i, i < n ∧ P i
  · obtain ⟨k, hk, hm⟩ := pk_least (fun i => i < n ∧ P i) h
    have e := fstN_eq hk.1 hk.2 (fun j hj hp => hm j hj ⟨by omega, hp⟩)
    left
    rw [e]
    exact ⟨hk.1, hk.2, fun j hj hp => hm j hj ⟨by omega, hp⟩⟩
  · have h2 : ∀ i, i < n → ¬ P i := fun i hi hp => h ⟨i, hi, hp⟩
    exact Or.inr ⟨fstN_no h2, h2⟩
/-- the row behind the end of one's call -/
noncomputable def endsR (a : Nat → Int32) (s : Nat) : Nat → Int32 := if fstN (inC a s) 20 < 20 then upd a (188 + fstN (inC a s) 20) 0 else a
theorem endsR_y {a : Nat → Int32} {s i : Nat} (hi : i < 20) (h : inC a s i) (hm : ∀ j, j < i → ¬ inC a s j) : endsR a s = upd a (188 + i) 0 := by
  unfold endsR
  rw [fstN_eq hi h hm, if_pos hi]
theorem endsR_n {a : Nat → Int32} {s : Nat} (h : ∀ i, i < 20 → ¬ inC a s i) : endsR a s = a := by
  unfold endsR
  rw [fstN_no h, if_neg (by omega)]
theorem endsR_lo (a : Nat → Int32) (s : Nat) {k : Nat} (hk : k < 188 ∨ 208 ≤ k) : endsR a s k = a k := by
  rcases fstN_cases (inC a s) 20 with ⟨c1, c2, c3⟩ | ⟨c1, c2⟩
  · rw [endsR_y c1 c2 c3, pk_un (by omega)]
  · rw [endsR_n c2]
theorem endsR_le (a : Nat → Int32) (s : Nat) (k : Nat) : endsR a s k = a k ∨ endsR a s k = 0 := by
  rcases fstN_cases (inC a s) 20 with ⟨c1, c2, c3⟩ | ⟨c1, c2⟩
  · rw [endsR_y c1 c2 c3]
    by_cases y : k = 188 + fstN (inC a s) 20
    · rw [y]; exact Or.inr pk_us
    · exact Or.inl (pk_un y)
  · rw [endsR_n c2]; exact Or.inl rfl
theorem rOk.ends {a : Nat → Int32} (h : rOk a) (s : Nat) : rOk (endsR a s) := by
  intro i hi
  obtain ⟨h1, h2⟩ := h i hi
  rw [endsR_lo a s (k := 208 + i) (by omega), endsR_lo a s (k := 128 + i) (by omega), endsR_lo a s (k := 148 + i) (by omega)]
  rcases endsR_le a s (188 + i) with c | c
  · rw [c]; exact ⟨h1, h2⟩
  · rw [c]; exact ⟨isN_0 _, fun z => absurd rfl z⟩
theorem sp_endsCallOf {G : GC} {d : Nat} {sw : Bool} {f : FF} {Q : QQ} {s : Nat} (hr : rOk (f 83)) (hQ : ∀ g : FF, (∀ c, c ≠ 83 → g c = f c) → g 83 = endsR (f 83) s → Q none sw g) : XP G mX11_endsCallOf (d + 1) 0 [.ref 82, .int (nI s), .null] [] sw f Q := by
  refine bX11_endsCallOf_0 (sp_callOf hr (fun i hi hin hmin => ?_) (fun hno => ?_))
  · have e188 : (188 : Int32) + nI i = nI (188 + i) := by rw [n_188, nI_add]
    refine bX11_endsCallOf_5 (fun h => absurd h (nI_ne_m1 (by omega))) (fun _ => by rw [e188]; exact vp_in_nI (by omega) (by omega)) (fun _ => ?_)
    rw [e188, nI_clamp (by omega)]
    exact hQ _ (fun c hc => upd2_ne _ _ _ hc) (by rw [upd2_self, endsR_y hi hin hmin])
  · exact bX11_endsCallOf_5 (fun _ => hQ f (fun _ _ => rfl) (endsR_n hno).symm) (fun h => absurd rfl h) (fun h => absurd rfl h)
/-! ===== circuits taken and given back ===== -/
def addN (u x : Int32) : Nat → Int32
  | 0 => u
  | n + 1 => addN u x n + x
theorem addN_1 (m : Nat) : ∀ n, addN (nI m) 1 n = nI (m + n) := by
  intro n
  induction n with
  | zero => rfl
  | succ n ih => show addN (nI m) 1 n + 1 = _; rw [ih, nI_1]; rfl
theorem addN_m1 : ∀ (n m : Nat), addN (nI (m + n)) (-1) n = nI m := by
  intro n
  induction n with
  | zero => intro m; rfl
  | succ n ih =>
    intro m
    show addN (nI (m + (n + 1))) (-1) n + (-1) = nI m
    rw [show m + (n + 1) = (m + 1) + n by omega, ih (m + 1), pk_m1]
theorem sp_addUsed {G : GC} {d : Nat} {sw : Bool} {f : FF} {Q : QQ} {w i T : Nat} {x : Int32} (hw : isW w) (hi : i < 20) (hT : f (w + 10) i = nI T) (hT7 : T ≤ 7) (hro : ∀ k, k ≤ T → isN (f (w + 11) (8 * i + k)) 7) (hne : ∀ k, k < T → f (w + 11) (8 * i + k) ≠ f (w + 11) (8 * i + k + 1)) (hQ : ∀ g : FF, (∀ c, c ≠ w + 12 → g c = f c) → (∀ e q, e < 8 → q < 8 → g (w + 12) (8 * e + q) = addN (f (w + 12) (8 * e + q)) x (cntP (edg (f (w + 11)) e q i) T)) → Q none sw g) : XP G mX9_addUsed d 0 [.ref w, .int (nI i), .int x, .null, .null, .null] [] sw f Q := by
  have vi : vp_in (nI i) 20 := vp_in_nI hi (by omega)
  have loop : ∀ (l j : Nat) (g : FF) (v4 v5 : Value), j + l = T → (∀ c, c ≠ w + 12 → g c = f c) → (∀ e q, e < 8 → q < 8 → g (w + 12) (8 * e + q) = addN (f (w + 12) (8 * e + q)) x (cntP (edg (f (w + 11)) e q i) j)) → XP G mX9_addUsed d 2 [.ref w, .int (nI i), .int x, .int (nI j), v4, v5] [] sw g Q := by
    intro l
    induction l with
    | zero =>
      intro j g v4 v5 hj go gu
      have e1 : j = T := by omega
      subst e1
      have le : g (w + 10) (nI i).toNatClampNeg ≤ nI j := by rw [nI_clamp (by omega), go _ (by omega), hT]; exact nI_le (Nat.le_refl _) (by omega)
      exact bX9_addUsed_2 hw vi (fun _ => hQ g go gu) (fun h => absurd le h) (fun h => absurd le h) (fun h => absurd le h) (fun h => absurd le h) (fun h => absurd le h) (fun h => absurd le h) (fun h => absurd le h)
    | succ l ih =>
      intro j g v4 v5 hj go gu
      have nle : ¬ g (w + 10) (nI i).toNatClampNeg ≤ nI j := by rw [nI_clamp (by omega), go _ (by omega), hT]; exact nI_ge (by omega) (by omega)
      obtain ⟨n0, hn0, en0⟩ := isN_nI (hro j (by omega)) (by omega)
      obtain ⟨n1, hn1, en1⟩ := isN_nI (hro (j + 1) (by omega)) (by omega)
      have en1 : f (w + 11) (8 * i + j + 1) = nI n1 := en1
      have n01 : n0 ≠ n1 := fun z => hne j (by omega) (by rw [en0, en1, z])
      have eA : nI i * 8 + nI j = nI (8 * i + j) := e8 i j
      have eB : nI i * 8 + nI j + 1 = nI (8 * i + j + 1) := by rw [eA, nI_1]
      have g11 : g (w + 11) = f (w + 11) := go _ (by omega)
      have vA : g (w + 11) (nI i * 8 + nI j).toNatClampNeg = nI n0 := by rw [eA, nI_clamp (by omega), g11, en0]
      have vB : g (w + 11) (nI i * 8 + nI j + 1).toNatClampNeg = nI n1 := by rw [eB, nI_clamp (by omega), g11, en1]
      have xAB : vp_in (nI n0 * 8 + nI n1) 64 := by rw [e8]; exact vp_in_nI (by omega) (by omega)
      have xBA : vp_in (nI n1 * 8 + nI n0) 64 := by rw [e8]; exact vp_in_nI (by omega) (by omega)
      refine bX9_addUsed_2 hw vi (fun h => absurd h nle) (fun _ => by rw [eA]; exact vp_in_nI (by omega) (by omega)) (fun _ => by rw [eB]; exact vp_in_nI (by omega) (by omega)) (fun _ => by rw [vA, vB]; exact xAB) (fun _ => by rw [vA, vB]; exact xAB) (fun _ => by rw [vA, vB]; exact xBA) (fun _ => by rw [vA, vB]; exact xBA) (fun _ => ?_)
      rw [vA, vB, e8, e8, nI_clamp (by omega), nI_clamp (by omega), nI_1]
      refine ih (j + 1) _ _ _ (by omega) (fun c hc => by rw [upd2_ne _ _ _ hc, upd2_ne _ _ _ hc]; exact go c hc) (fun e q he hq => ?_)
      rw [upd2_self, upd2_self]
      show _ = addN _ x (cntP (edg (f (w + 11)) e q i) j + (if edg (f (w + 11)) e q i j = true then 1 else 0))
      have ed : edg (f (w + 11)) e q i j = true ↔ (8 * e + q = 8 * n0 + n1 ∨ 8 * e + q = 8 * n1 + n0) := by
        unfold edg
        rw [decide_eq_true_iff, en0, en1, nI_eq (by omega) (by omega), nI_eq (by omega) (by omega), nI_eq (by omega) (by omega), nI_eq (by omega) (by omega)]
        omega
      by_cases y : 8 * e + q = 8 * n1 + n0
      · rw [if_pos (ed.mpr (Or.inr y)), y, pk_us, pk_un (by omega), ← y, gu e q he hq]
        rfl
      · rw [pk_un y]
        by_cases y2 : 8 * e + q = 8 * n0 + n1
        · rw [if_pos (ed.mpr (Or.inl y2)), ← y2, pk_us, gu e q he hq]
          rfl
        · rw [pk_un y2, if_neg (fun z => (ed.mp z).elim y2 y), gu e q he hq]
          rfl
  exact bX9_addUsed_0 hw (loop T 0 f _ _ (by omega) (fun _ _ => rfl) (fun _ _ _ _ => rfl))
theorem cntU_end {le tr ro le' : Nat → Int32} {i : Nat} (hi : i < 20) (hl : le i ≠ 0) (h0 : le' i = 0) (h1 : ∀ j, j ≠ i → le' j = le j) (e q : Nat) : cntU le' tr ro e q + cntP (edg ro e q i) (tr i).toNatClampNeg = cntU le tr ro e q := by
  rw [cntU_eq, cntU_eq]
  have e1 : cuI le' tr ro e q = updN (cuI le tr ro e q) i 0 := by
    funext j
    by_cases y : j = i
    · subst y; rw [updN_s]; unfold cuI; rw [if_pos h0]
    · rw [updN_n y]; unfold cuI; rw [h1 j y]
  have e2 := sumN_upd (g := cuI le tr ro e q) (k := i) (x := 0) 20 hi
  have e3 : cuI le tr ro e q i = cntP (edg ro e q i) (tr i).toNatClampNeg := if_neg hl
  rw [e1]
  omega
theorem cntU_beg {le tr ro le' tr' ro' : Nat → Int32} {i : Nat} (hi : i < 20) (hl : le i = 0) (h0 : le' i ≠ 0) (h1 : ∀ j, j ≠ i → le' j = le j) (h2 : ∀ j, j ≠ i → tr' j = tr j) (h3 : ∀ j k, j < 20 → j ≠ i → k < 8 → ro' (8 * j + k) = ro (8 * j + k)) (h4 : ∀ j, j < 20 → le j ≠ 0 → isN (tr j) 7) (e q : Nat) : cntU le' tr' ro' e q = cntU le tr ro e q + cntP (edg ro' e q i) (tr' i).toNatClampNeg := by
  rw [cntU_eq, cntU_eq]
  have e1 : sumN (cuI le' tr' ro' e q) 20 = sumN (updN (cuI le tr ro e q) i (cntP (edg ro' e q i) (tr' i).toNatClampNeg)) 20 := by
    refine sumN_cg 20 (fun j hj => ?_)
    by_cases y : j = i
    · subst y; rw [updN_s]; unfold cuI; rw [if_neg h0]
    · rw [updN_n y]
      unfold cuI
      rw [h1 j y]
      by_cases z : le j = 0
      · rw [if_pos z, if_pos z]
      · rw [if_neg z, if_neg z, h2 j y]
        have hc := cnN (h4 j hj z)
        refine cntP_cg _ (fun k hk => ?_)
        unfold edg
        rw [h3 j k hj y (by omega), show 8 * j + k + 1 = 8 * j + (k + 1) by omega, h3 j (k + 1) hj y (by omega)]
  have e2 := sumN_upd (g := cuI le tr ro e q) (k := i) (x := cntP (edg ro' e q i) (tr' i).toNatClampNeg) 20 hi
  have e3 : cuI le tr ro e q i = 0 := if_pos hl
  omega
/-! ===== what a world rests on ===== -/
theorem RWs.cg {h ex ar hr wr a h' ex' ar' hr' wr' a' : Nat → Int32} {s : Nat} (H : RWs h ex ar hr wr a s) (b0 : bt (h' 0) s = bt (h 0) s) (b1 : bt (h' 1) s = bt (h 1) s) (b2 : bt (h' 2) s = bt (h 2) s) (b3 : bt (h' 3) s = bt (h 3) s) (x1 : ex' s = ex s) (x2 : ar' s = ar s) (x3 : hr' s = hr s) (x4 : wr' s = wr s) (ha : ∀ k, k < 8 → a' (16 * k + s) = a (16 * k + s)) : RWs h' ex' ar' hr' wr' a' s := by
  have a0 : a' s = a s := by have := ha 0 (by omega); rw [show 16 * 0 + s = s by omega] at this; exact this
  unfold RWs at H ⊢
  rw [b0, b1, b2, b3, x1, x2, x3, x4, a0, ha 1 (by omega), ha 2 (by omega), ha 3 (by omega), ha 4 (by omega), ha 5 (by omega), ha 6 (by omega), ha 7 (by omega)]
  exact H
theorem RWc.cg {co ra ru pa tr ro a co' ra' ru' pa' tr' ro' a' : Nat → Int32} {i : Nat} (H : RWc co ra ru pa tr ro a i) (c1 : ra' i = ra i) (c2 : ru' i = ru i) (c3 : pa' i = pa i) (c4 : tr' i = tr i) (c5 : ∀ k, k < 8 → ro' (8 * i + k) = ro (8 * i + k)) (c6 : co' (ra i).toNatClampNeg = co (ra i).toNatClampNeg) (c7 : co' (ru i).toNatClampNeg = co (ru i).toNatClampNeg) (a1 : a' (128 + i) = a (128 + i)) (a2 : a' (148 + i) = a (148 + i)) (a3 : a' (168 + i) = a (168 + i)) (a4 : a' (208 + i) = a (208 + i)) (a5 : ∀ k, k < 8 → a' (228 + 8 * i + k) = a (228 + 8 * i + k)) (a6 : ∀ s, s < 16 → a s = 1 → a' s = 1) : RWc co' ra' ru' pa' tr' ro' a' i := by
  obtain ⟨d1, d2, d3, d4, d5, d6, d7, d8, d9, d10, d11, d12, d13, d14, d15, d16⟩ := H
  have lt := fun {x : Int32} (h : isN x 15) => cnN h
  have t7 := d12.2
  unfold RWc
  rw [c1, c2, c3, c4, a1, a2, a3, a4, c6, c7]
  refine ⟨d1, d2, d3, d4, d5, a6 _ (by have := lt d2; omega) d6, a6 _ (by have := lt d4; omega) d7, d8, d9, a6 _ (by have := lt d9; omega) d10, d11, d12, fun k hk => ?_, fun k hk => ?_, d15, d16⟩
  · rw [c5 k (by omega), a5 k (by omega)]; exact d13 k hk
  · rw [c5 k (by omega), show 8 * i + k + 1 = 8 * i + (k + 1) by omega, c5 (k + 1) (by omega)]; exact d14 k hk
/-- one subscriber changes -/
theorem RWr.setS {f g : FF} {w : Nat} {a a' : Nat → Int32} (H : RWr f w a) {s : Nat} (hs : s < 16) (off : ∀ m, 5 ≤ m → m ≤ 12 → g (w + m) = f (w + m)) (hb : ∀ m, m < 4 → ∀ x, x ≠ s → bt (g w m) x = bt (f w m) x) (h4 : ∀ m, 4 ≤ m → m < 8 → g w m = f w m) (he : ∀ m, 1 ≤ m → m ≤ 4 → ∀ x, x ≠ s → g (w + m) x = f (w + m) x) (ha : ∀ k, (128 ≤ k ∨ k % 16 ≠ s) → a' k = a k) (ht : a s = 1 → a' s = 1) (hS : RWs (g w) (g (w + 1)) (g (w + 2)) (g (w + 3)) (g (w + 4)) a' s) : RWr g w a' := by
  obtain ⟨q1, q2, q3, q4, q5, q6, q7, q8, q9, q10, q11⟩ := H
  unfold RWr
  rw [off 5 (by omega) (by omega), off 6 (by omega) (by omega), off 7 (by omega) (by omega), off 8 (by omega) (by omega), off 9 (by omega) (by omega), off 10 (by omega) (by omega), off 11 (by omega) (by omega), off 12 (by omega) (by omega)]
  refine ⟨fun x hx => ?_, fun x hx => ?_, fun i hi => ?_, fun x hx => ?_, q5, ?_, ?_, ?_, ?_, ?_, ?_⟩
  · rw [hb 0 (by omega) x (by omega), hb 1 (by omega) x (by omega), hb 2 (by omega) x (by omega), hb 3 (by omega) x (by omega), h4 4 (by omega) (by omega)]
    exact q1 x hx
  · by_cases y : x = s
    · subst y; exact hS
    · exact (q2 x hx).cg (hb 0 (by omega) x y) (hb 1 (by omega) x y) (hb 2 (by omega) x y) (hb 3 (by omega) x y) (he 1 (by omega) (by omega) x y) (he 2 (by omega) (by omega) x y) (he 3 (by omega) (by omega) x y) (he 4 (by omega) (by omega) x y) (fun k hk => ha _ (by omega))
  · obtain ⟨l1, l2, l3⟩ := q3 i hi
    refine ⟨by rw [ha _ (by omega)]; exact l1, l2, fun z => (l3 z).cg rfl rfl rfl rfl (fun _ _ => rfl) rfl rfl (ha _ (by omega)) (ha _ (by omega)) (ha _ (by omega)) (ha _ (by omega)) (fun k hk => ha _ (by omega)) (fun x hx hx1 => ?_)⟩
    by_cases y : x = s
    · subst y; exact ht hx1
    · rw [ha x (by omega)]; exact hx1
  · rw [h4 4 (by omega) (by omega)]; exact q4 x hx
  · rw [h4 5 (by omega) (by omega), ha _ (by omega)]; exact q6
  · rw [h4 5 (by omega) (by omega)]; exact q7
  · rw [h4 6 (by omega) (by omega), ha _ (by omega)]; exact q8
  · rw [h4 6 (by omega) (by omega)]; exact q9
  · rw [h4 7 (by omega) (by omega), ha _ (by omega)]; exact q10
  · rw [h4 7 (by omega) (by omega)]; exact q11
/-- fund, minute and X change -/
theorem RWr.setF {f g : FF} {w : Nat} {a a' : Nat → Int32} (H : RWr f w a) (off : ∀ m, 1 ≤ m → m ≤ 12 → g (w + m) = f (w + m)) (h4 : ∀ m, m < 5 → g w m = f w m) (ha : ∀ k, k < 388 → a' k = a k) (e5 : g w 5 = a' 388) (n5 : isN (g w 5) 999999) (e6 : g w 6 = a' 389) (n6 : isN (g w 6) 99999) (e7 : g w 7 = a' 390) (n7 : isN (g w 7) 65535) : RWr g w a' := by
  obtain ⟨q1, q2, q3, q4, q5, q6, q7, q8, q9, q10, q11⟩ := H
  unfold RWr
  rw [off 1 (by omega) (by omega), off 2 (by omega) (by omega), off 3 (by omega) (by omega), off 4 (by omega) (by omega), off 5 (by omega) (by omega), off 6 (by omega) (by omega), off 7 (by omega) (by omega), off 8 (by omega) (by omega), off 9 (by omega) (by omega), off 10 (by omega) (by omega), off 11 (by omega) (by omega), off 12 (by omega) (by omega)]
  refine ⟨fun x hx => ?_, fun x hx => ?_, fun i hi => ?_, fun x hx => ?_, q5, e5, n5, e6, n6, e7, n7⟩
  · rw [h4 0 (by omega), h4 1 (by omega), h4 2 (by omega), h4 3 (by omega), h4 4 (by omega)]; exact q1 x hx
  · exact (q2 x hx).cg (by rw [h4 0 (by omega)]) (by rw [h4 1 (by omega)]) (by rw [h4 2 (by omega)]) (by rw [h4 3 (by omega)]) rfl rfl rfl rfl (fun k hk => ha _ (by omega))
  · obtain ⟨l1, l2, l3⟩ := q3 i hi
    exact ⟨by rw [ha _ (by omega)]; exact l1, l2, fun z => (l3 z).cg rfl rfl rfl rfl (fun _ _ => rfl) rfl rfl (ha _ (by omega)) (ha _ (by omega)) (ha _ (by omega)) (ha _ (by omega)) (fun k hk => ha _ (by omega)) (fun x hx hx1 => by rw [ha x (by omega)]; exact hx1)⟩
  · rw [h4 4 (by omega)]; exact q4 x hx
/-- a call ends -/
theorem RWr.endC {f g : FF} {w : Nat} {a : Nat → Int32} (hw : isW w) (H : RWr f w a) {i : Nat} (hi : i < 20) (hl : f (w + 9) i ≠ 0) (off : ∀ m, 1 ≤ m → m ≤ 11 → m ≠ 9 → g (w + m) = f (w + m)) (h0 : ∀ m, m < 8 → m ≠ 4 → g w m = f w m) (h9 : ∀ j, j ≠ i → g (w + 9) j = f (w + 9) j) (h9i : g (w + 9) i = 0) (h4 : ∀ s, bt (g w 4) s = true ↔ (bt (f w 4) s = true ∧ f (w + 6) i ≠ nI s ∧ f (w + 7) i ≠ nI s)) (h12 : ∀ e q, e < 8 → q < 8 → g (w + 12) (8 * e + q) = addN (f (w + 12) (8 * e + q)) (-1) (cntP (edg (f (w + 11)) e q i) (f (w + 10) i).toNatClampNeg)) : RWr g w (upd a (188 + i) 0) := by
  have HW := H.RW' hw
  obtain ⟨q1, q2, q3, q4, q5, q6, q7, q8, q9, q10, q11⟩ := id H
  have hw2 : w + 12 < 200 := by rcases hw with rfl | rfl | rfl <;> omega
  have un : ∀ s j, s < 16 → j < 20 → f (w + 9) j ≠ 0 → (f (w + 6) j = nI s ∨ f (w + 7) j = nI s) → (f (w + 6) i = nI s ∨ f (w + 7) i = nI s) → j = i := by
    intro s j hs hj z1 z2 z3
    have cv : ∀ k, k < 20 → (inC a s k ↔ (f (w + 9) k ≠ 0 ∧ (f (w + 6) k = nI s ∨ f (w + 7) k = nI s))) := by
      intro k hk
      have := HW.inCW (s := s) hk
      simp only [show ¬ w + 9 = 200 by omega, show ¬ w + 6 = 200 by omega, show ¬ w + 7 = 200 by omega, if_false, if_true] at this
      exact this
    have := HW.uniq (s := s) (i := j) (j := i) hs hj hi (by simp only [if_true]; exact (cv j hj).mpr ⟨z1, z2⟩) (by simp only [if_true]; exact (cv i hi).mpr ⟨hl, z3⟩)
    exact this
  unfold RWr
  rw [off 1 (by omega) (by omega) (by omega), off 2 (by omega) (by omega) (by omega), off 3 (by omega) (by omega) (by omega), off 4 (by omega) (by omega) (by omega), off 5 (by omega) (by omega) (by omega), off 6 (by omega) (by omega) (by omega), off 7 (by omega) (by omega) (by omega), off 8 (by omega) (by omega) (by omega), off 10 (by omega) (by omega) (by omega), off 11 (by omega) (by omega) (by omega)]
  refine ⟨fun x hx => ?_, fun x hx => ?_, fun j hj => ?_, fun x hx => ?_, fun e q he hq => ?_, ?_, ?_, ?_, ?_, ?_, ?_⟩
  · have := q1 x hx
    rw [h0 0 (by omega) (by omega), h0 1 (by omega) (by omega), h0 2 (by omega) (by omega), h0 3 (by omega) (by omega)]
    refine ⟨this.1, this.2.1, this.2.2.1, this.2.2.2.1, ?_⟩
    cases hb : bt (g w 4) x with
    | false => rfl
    | true => exact absurd ((h4 x).mp hb).1 (by rw [this.2.2.2.2]; decide)
  · exact (q2 x hx).cg (by rw [h0 0 (by omega) (by omega)]) (by rw [h0 1 (by omega) (by omega)]) (by rw [h0 2 (by omega) (by omega)]) (by rw [h0 3 (by omega) (by omega)]) rfl rfl rfl rfl (fun k hk => pk_un (by omega))
  · by_cases y : j = i
    · subst y
      rw [h9i, pk_us]
      exact ⟨rfl, isN_0 _, fun z => absurd rfl z⟩
    · obtain ⟨l1, l2, l3⟩ := q3 j hj
      rw [h9 j y, pk_un (by omega)]
      exact ⟨l1, l2, fun z => (l3 z).cg rfl rfl rfl rfl (fun _ _ => rfl) rfl rfl (pk_un (by omega)) (pk_un (by omega)) (pk_un (by omega)) (pk_un (by omega)) (fun k hk => pk_un (by omega)) (fun x hx hx1 => by rw [pk_un (by omega)]; exact hx1)⟩
  · rw [h4 x, q4 x hx]
    constructor
    · rintro ⟨⟨j, hj, z1, z2⟩, z3, z4⟩
      have y : j ≠ i := by
        intro e
        subst e
        exact z2.elim z3 z4
      exact ⟨j, hj, by rw [h9 j y]; exact z1, z2⟩
    · rintro ⟨j, hj, z1, z2⟩
      have y : j ≠ i := by
        intro e
        subst e
        exact z1 h9i
      rw [h9 j y] at z1
      exact ⟨⟨j, hj, z1, z2⟩, fun z3 => y (un x j hx hj z1 z2 (Or.inl z3)), fun z3 => y (un x j hx hj z1 z2 (Or.inr z3))⟩
  · rw [h12 e q he hq, q5 e q he hq, ← cntU_end (tr := f (w + 10)) (ro := f (w + 11)) hi hl h9i h9 e q, addN_m1]
  · rw [h0 5 (by omega) (by omega), pk_un (by omega)]; exact q6
  · rw [h0 5 (by omega) (by omega)]; exact q7
  · rw [h0 6 (by omega) (by omega), pk_un (by omega)]; exact q8
  · rw [h0 6 (by omega) (by omega)]; exact q9
  · rw [h0 7 (by omega) (by omega), pk_un (by omega)]; exact q10
  · rw [h0 7 (by omega) (by omega)]; exact q11
