/-! ===== what a row of the reference keeps to ===== -/
def rV (a : Nat → Int32) : Prop := rOk a ∧ (∀ i, i < 20 → a (188 + i) ≠ 0 → isN (a (168 + i)) 15) ∧ ∀ s, s < 16 → a s = 1 → isN (a (16 + s)) 7
theorem rV_cg {a a' : Nat → Int32} (h : rV a) (h1 : ∀ k, k < 32 → a' k = a k) (h2 : ∀ k, 128 ≤ k → k < 228 → a' k = a k) : rV a' := by
  refine ⟨fun i hi => ?_, fun i hi => ?_, fun s hs => ?_⟩
  · rw [h2 (188 + i) (by omega) (by omega), h2 (208 + i) (by omega) (by omega), h2 (128 + i) (by omega) (by omega), h2 (148 + i) (by omega) (by omega)]; exact h.1 i hi
  · rw [h2 (188 + i) (by omega) (by omega), h2 (168 + i) (by omega) (by omega)]; exact h.2.1 i hi
  · rw [h1 s (by omega), h1 (16 + s) (by omega)]; exact h.2.2 s hs
theorem rV_upd {a : Nat → Int32} (h : rV a) {k : Nat} {x : Int32} (hk : (32 ≤ k ∧ k < 128) ∨ 228 ≤ k) : rV (upd a k x) := rV_cg h (fun j hj => pk_un (by omega)) (fun j h1 h2 => pk_un (by omega))
theorem RWr.rV {f : FF} {w : Nat} {a : Nat → Int32} (hw : isW w) (H : RWr f w a) : rV a := by
  refine ⟨H.rOk hw, fun i hi z => ?_, fun s hs ts => ?_⟩
  · obtain ⟨l1, l2, l3⟩ := H.2.2.1 i hi
    have c := l3 (by rw [l1]; exact z)
    have c8 : f (w + 8) i = a (168 + i) := c.2.2.2.2.2.2.2.1
    have c9 : isN (f (w + 8) i) 15 := c.2.2.2.2.2.2.2.2.1
    rw [← c8]; exact c9
  · obtain ⟨-, -, -, -, -, r5⟩ := H.2.1 s hs
    obtain ⟨-, -, -, m4, m5, -⟩ := r5 ts
    rw [← m4]; exact m5
theorem rV_left {a : Nat → Int32} (h : rV a) {i : Nat} {x : Int32} (hi : i < 20) (hz : a (188 + i) ≠ 0 ∨ x = 0) (hx : isN x 99) : rV (upd a (188 + i) x) := by
  refine ⟨fun j hj => ?_, fun j hj => ?_, fun s hs => ?_⟩
  · rw [pk_un (show 208 + j ≠ 188 + i by omega), pk_un (show 128 + j ≠ 188 + i by omega), pk_un (show 148 + j ≠ 188 + i by omega)]
    by_cases y : j = i
    · subst y
      rw [pk_us]
      refine ⟨hx, fun z => ?_⟩
      rcases hz with c | c
      · exact (h.1 j hj).2 c
      · exact absurd c z
    · rw [pk_un (by omega)]; exact h.1 j hj
  · rw [pk_un (show 168 + j ≠ 188 + i by omega)]
    by_cases y : j = i
    · subst y
      rw [pk_us]
      intro z
      rcases hz with c | c
      · exact h.2.1 j hj c
      · exact absurd c z
    · rw [pk_un (by omega)]; exact h.2.1 j hj
  · rw [pk_un (by omega), pk_un (by omega)]; exact h.2.2 s hs
theorem rV_ends {a : Nat → Int32} (h : rV a) (s : Nat) : rV (endsR a s) := by
  rcases fstN_cases (inC a s) 20 with ⟨c1, c2, c3⟩ | ⟨c1, c2⟩
  · rw [endsR_y c1 c2 c3]
    exact rV_left h c1 (Or.inr rfl) (isN_0 _)
  · rw [endsR_n c2]; exact h
theorem chR_ok {a : Nat → Int32} (h : rV a) (pt pc : Int32) {i : Nat} (hi : i < 20) : rV (chR pt pc a i) ∧ chR pt pc a i 389 = a 389 := by
  obtain ⟨l1, l2⟩ := h.1 i hi
  have p0 := isN_le0 l1
  unfold chR
  by_cases c : a (188 + i) ≤ 0
  · rw [if_pos c]; exact ⟨h, rfl⟩
  · rw [if_neg c]
    have nz : a (188 + i) ≠ 0 := fun z => c (p0.mpr z)
    have hp := cnN (h.2.1 i hi nz)
    obtain ⟨L, hL, eL⟩ := isN_nI l1 (by omega)
    have L1 : 1 ≤ L := by
      rcases Nat.eq_zero_or_pos L with z | z
      · exact absurd (by rw [eL, z]; rfl) nz
      · exact z
    have nx : isN (a (188 + i) - 1) 99 := by rw [eL, n_1, pk_sub L1]; exact nI_isN (by omega) (by omega)
    split
    · refine ⟨rV_left (rV_upd h (by omega)) hi (Or.inl ?_) nx, by rw [pk_un (by omega), pk_un (by omega)]⟩
      rw [pk_un (by omega)]; exact nz
    · refine ⟨rV_left (rV_upd h (by omega)) hi (Or.inl ?_) nx, by rw [pk_un (by omega), pk_un (by omega)]⟩
      rw [pk_un (by omega)]; exact nz
theorem chs_ok {a : Nat → Int32} (h : rV a) (pt pc : Int32) : ∀ i, i ≤ 20 → rV (chs pt pc a i) ∧ chs pt pc a i 389 = a 389 := by
  intro i
  induction i with
  | zero => intro _; exact ⟨h, rfl⟩
  | succ i ih =>
    intro hi
    obtain ⟨h1, h2⟩ := ih (by omega)
    obtain ⟨h3, h4⟩ := chR_ok h1 pt pc (i := i) (by omega)
    exact ⟨h3, h4.trans h2⟩
theorem begR_ok {a : Nat → Int32} (h : rV a) {s k i : Nat} {m pv : Int32} {T : Nat} {p : Nat → Nat} (hi : i < 20) (hs : s < 16) (hk : k < 16) (hsk : s ≠ k) (hm : isN m 99) (hpv : pv = nI s ∨ pv = nI k) (hT : T ≤ 7) : rV (begR a s k i m pv T p) ∧ begR a s k i m pv T p 389 = a 389 := by
  obtain ⟨b1, b2, b3, b4, b5, b6⟩ := begA_at (a := a) (s := s) (k := k) (i := i) (m := m) (pv := pv) (T := T) (p := p) hi
  have of : ∀ x, (x < 96 ∨ 128 ≤ x) → (x < 128 ∨ 388 ≤ x ∨ (128 ≤ x ∧ x < 228 ∧ (x - 128) % 20 ≠ i)) → begR a s k i m pv T p x = a x := fun x h1 h2 => by rw [begR_hi hs hk h1, begA_off hi (by omega) hT]
  refine ⟨⟨fun j hj => ?_, fun j hj => ?_, fun x hx => ?_⟩, of 389 (by omega) (by omega)⟩
  · by_cases y : j = i
    · subst y
      rw [begR_hi hs hk (by omega), begR_hi hs hk (by omega), begR_hi hs hk (by omega), begR_hi hs hk (by omega), b1, b2, b4, b5]
      exact ⟨hm, fun _ => ⟨nI_isN hT (by omega), nI_isN (by omega) (by omega), nI_isN (by omega) (by omega), fun z => hsk ((nI_eq (by omega) (by omega)).mp z)⟩⟩
    · rw [of (188 + j) (by omega) (by omega), of (208 + j) (by omega) (by omega), of (128 + j) (by omega) (by omega), of (148 + j) (by omega) (by omega)]
      exact h.1 j hj
  · by_cases y : j = i
    · subst y
      rw [begR_hi (x := 168 + j) hs hk (by omega), b3]
      intro _
      rcases hpv with z | z <;> rw [z] <;> exact nI_isN (by omega) (by omega)
    · rw [of (188 + j) (by omega) (by omega), of (168 + j) (by omega) (by omega)]
      exact h.2.1 j hj
  · rw [of x (by omega) (by omega), of (16 + x) (by omega) (by omega)]
    exact h.2.2 x hx
theorem rtF_T {cir a : Nat → Int32} (h : rV a) {s k : Nat} (hk : k < 16) (hz : rtF cir a s k ≠ 0) : s ≠ k ∧ frM a k ∧ rtF cir a s k ≤ 8 := by
  by_cases c : s = k ∨ ¬ frM a k
  · exact absurd (rtF_0 c) hz
  · have h1 : s ≠ k := fun z => c (Or.inl z)
    have h2 : frM a k := Classical.byContradiction (fun z => c (Or.inr z))
    refine ⟨h1, h2, ?_⟩
    rw [rtF_1 h1 h2]
    have := cnN (h.2.2 k hk h2.1)
    exact bfs_le (by omega) _
theorem pyR_or (lw : FF) (fa : Nat → Int32) (s k : Nat) : pyR lw fa s k = nI s ∨ pyR lw fa s k = nI k := by
  unfold pyR
  split
  · exact Or.inr rfl
  · exact Or.inl rfl
theorem frP_le (a : Nat → Int32) : frP a ≤ 20 := by
  rcases fstN_cases (fun i => a (188 + i) = 0) 20 with ⟨y1, y2, y3⟩ | ⟨y1, y2⟩
  · exact Nat.le_of_lt y1
  · exact Nat.le_of_eq y1
theorem rgR_ok {lw : FF} {cir : Nat → Int32} {S : SM} (h : rV S.1) {s k : Nat} (hs : s < 16) (hk : k < 16) : rV (rgR lw cir S s k).1 ∧ (rgR lw cir S s k).1 389 = S.1 389 := by
  unfold rgR
  by_cases c : rtF cir S.1 s k = 0 ∨ frP S.1 = 20
  · rw [if_pos c]; exact ⟨h, rfl⟩
  · rw [if_neg c]
    have hr := rtF_T (cir := cir) (s := s) h hk (fun z => c (Or.inl z))
    have hp := frP_le S.1
    by_cases m0 : lawV lw (fctC S.1 s k (rtF cir S.1 s k - 1)) 108 99 = 0
    · rw [if_pos m0]; exact ⟨h, rfl⟩
    · rw [if_neg m0]
      exact begR_ok h (by omega) hs hk hr.1 (lawV_N (M := 99) lw _ _ (by omega)) (pyR_or lw _ s k) (by omega)
theorem tnR_ok {lw : FF} {cir : Nat → Int32} {S : SM} (h : rV S.1) {s : Nat} (hs : s < 16) : rV (tnR lw cir S s).1 ∧ (tnR lw cir S s).1 389 = S.1 389 := by
  unfold tnR
  have h1 : rV (upd S.1 390 (nxX (S.1 390))) := rV_upd h (by omega)
  split
  · refine ⟨h1, ?_⟩
    show upd S.1 390 (nxX (S.1 390)) 389 = S.1 389
    exact pk_un (by omega)
  · have kN : isN (lawV lw (fcts S.1 s) 119 15) 15 := lawV_N (M := 15) lw _ _ (by omega)
    have := rgR_ok (lw := lw) (cir := cir) (S := (upd S.1 390 (nxX (S.1 390)), S.2)) h1 (s := s) (k := (lawV lw (fcts S.1 s) 119 15).toNatClampNeg) hs (by have := cnN kN; omega)
    refine ⟨this.1, this.2.trans ?_⟩
    show upd S.1 390 (nxX (S.1 390)) 389 = S.1 389
    exact pk_un (by omega)
theorem ctR_ok {lw : FF} {S : SM} (h : rV S.1) {s : Nat} (hs : s < 16) : rV (ctR lw S s).1 ∧ (ctR lw S s).1 389 = S.1 389 := by
  unfold ctR
  split
  · refine ⟨rV_ends (rV_upd h (by omega)) s, ?_⟩
    show endsR _ s 389 = _
    rw [endsR_lo _ s (by omega), pk_un (by omega)]
  · exact ⟨h, rfl⟩
theorem tns_ok {lw : FF} {cir : Nat → Int32} {S : SM} (h : rV S.1) : ∀ s, s ≤ 16 → rV (tns lw cir S s).1 ∧ (tns lw cir S s).1 389 = S.1 389 := by
  intro s
  induction s with
  | zero => intro _; exact ⟨h, rfl⟩
  | succ s ih =>
    intro hs
    obtain ⟨h1, h2⟩ := ih (by omega)
    have e : tns lw cir S (s + 1) = @ite SM (frM (tns lw cir S s).1 s) (Classical.propDecidable _) (tnR lw cir (tns lw cir S s) s) (tns lw cir S s) := rfl
    rw [e]
    generalize tns lw cir S s = T at h1 h2 ⊢
    split
    · have := tnR_ok (lw := lw) (cir := cir) h1 (s := s) (by omega)
      exact ⟨this.1, this.2.trans h2⟩
    · exact ⟨h1, h2⟩
theorem cts_ok {lw : FF} {S : SM} (h : rV S.1) : ∀ s, s ≤ 16 → rV (cts lw S s).1 ∧ (cts lw S s).1 389 = S.1 389 := by
  intro s
  induction s with
  | zero => intro _; exact ⟨h, rfl⟩
  | succ s ih =>
    intro hs
    obtain ⟨h1, h2⟩ := ih (by omega)
    have e : cts lw S (s + 1) = if (cts lw S s).1 s = 1 ∧ (cts lw S s).1 (48 + s) = 1 then ctR lw (cts lw S s) s else cts lw S s := rfl
    rw [e]
    generalize cts lw S s = T at h1 h2 ⊢
    split
    · have := ctR_ok (lw := lw) h1 (s := s) (by omega)
      exact ⟨this.1, this.2.trans h2⟩
    · exact ⟨h1, h2⟩
theorem minS_ok {lw : FF} {cir : Nat → Int32} {pt pc : Int32} {S : SM} (h : rV S.1) : rV (minS lw cir pt pc S).1 ∧ (minS lw cir pt pc S).1 389 = S.1 389 := by
  unfold minS
  obtain ⟨h1, h2⟩ := chs_ok h pt pc 20 (Nat.le_refl _)
  generalize chs pt pc S.1 20 = b at h1 h2 ⊢
  obtain ⟨h3, h4⟩ := tns_ok (lw := lw) (cir := cir) (S := (b, S.2)) h1 16 (Nat.le_refl _)
  generalize tns lw cir (b, S.2) 16 = T at h3 h4 ⊢
  obtain ⟨h5, h6⟩ := cts_ok (lw := lw) (S := T) h3 16 (Nat.le_refl _)
  exact ⟨h5, h6.trans (h4.trans h2)⟩
theorem minR_ok {lw : FF} {cir : Nat → Int32} {pt pc : Int32} {S : SM} (h : rV S.1) : rV (minR lw cir pt pc S).1 := by
  unfold minR
  obtain ⟨h1, h2⟩ := minS_ok (lw := lw) (cir := cir) (pt := pt) (pc := pc) h
  exact rV_upd h1 (by omega)
theorem begR_cg {a : Nat → Int32} {s k i : Nat} {m pv : Int32} {T : Nat} {p p' : Nat → Nat} (h : ∀ x, x ≤ T → p' x = p x) : begR a s k i m pv T p' = begR a s k i m pv T p := by
  have : ∀ (b : Nat → Int32) (n : Nat), n ≤ T + 1 → rowsR b i p' n = rowsR b i p n := by
    intro b n
    induction n with
    | zero => intro _; rfl
    | succ n ihn =>
      intro hn
      show upd _ _ _ = upd _ _ _
      rw [ihn (by omega), h n (by omega)]
  unfold begR begA
  rw [this _ (T + 1) (Nat.le_refl _)]
/-! ===== a minute in the reference ===== -/
def MOff (f g : FF) : Prop := (∀ c, c ≠ 82 → c ≠ 83 → (c < 87 ∨ 89 < c) → c ≠ 102 → c ≠ 103 → g c = f c) ∧ ∀ j, (j < 34 ∨ 36 < j) → g 82 j = f 82 j
theorem MOff.rf (f : FF) : MOff f f := ⟨fun _ _ _ _ _ _ => rfl, fun _ _ => rfl⟩
theorem MOff.tr {f g h : FF} (a : MOff f g) (b : MOff g h) : MOff f h := ⟨fun c c1 c2 c3 c4 c5 => (b.1 c c1 c2 c3 c4 c5).trans (a.1 c c1 c2 c3 c4 c5), fun j hj => (b.2 j hj).trans (a.2 j hj)⟩
theorem MOff.of {f g : FF} (h : ∀ c, c ≠ 83 → (c < 87 ∨ 89 < c) → c ≠ 102 → c ≠ 103 → g c = f c) : MOff f g := ⟨fun c _ c2 c3 c4 c5 => h c c2 c3 c4 c5, fun j _ => by rw [h 82 (by omega) (by omega) (by omega) (by omega)]⟩
def MRel (g : FF) (S : SM) : Prop := g 83 = S.1 ∧ g 82 34 = S.2.1 ∧ g 82 35 = S.2.2.1 ∧ g 82 36 = S.2.2.2
def MEnv (lw f : FF) : Prop := LMd lw f ∧ RN f
theorem MEnv.off {lw f g : FF} (h : MEnv lw f) (o : MOff f g) : MEnv lw g := ⟨h.1.cg (o.2 19 (by omega)) (fun k h1 h2 => o.1 k (by omega) (by omega) (by omega) (by omega) (by omega)), h.2.cg (o.1 4 (by omega) (by omega) (by omega) (by omega) (by omega)) (o.1 6 (by omega) (by omega) (by omega) (by omega) (by omega)) (o.1 86 (by omega) (by omega) (by omega) (by omega) (by omega))⟩
theorem sp_ringM44 {G : GC} {d : Nat} {sw : Bool} {f : FF} {Q : QQ} {s k : Nat} {a : Nat → Int32} {cb cl cc : Int32} {lw : FF} {x3 : Int32} {v4 v5 v6 : Value} (hE : MEnv lw f) (e83 : f 83 = a) (c5 : f 82 34 = cb) (c6 : f 82 35 = cl) (c7 : f 82 36 = cc) (hs : s < 16) (hk : k < 16) (h3 : (rtF (f 86) a s k = 0 ∧ x3 = -1) ∨ ∃ T, rtF (f 86) a s k = T + 1 ∧ T ≤ 7 ∧ x3 = nI T ∧ ∀ x, x ≤ T → f 89 x = nI (rgP (f 86) a s k T x)) (hQ : ∀ g : FF, MOff f g → MRel g (rgR lw (f 86) (a, cb, cl, cc) s k) → Q none sw g) : XP G mX11_rings (d + 4) 44 [.ref 82, .int (nI s), .int (nI k), .int x3, v4, v5, v6] [.int (nI (frP a))] sw f Q := by
  have lost : (rtF (f 86) a s k = 0 ∨ frP a = 20) → Q none sw (upd2 f 82 35 (f 82 35 + 1)) := by
    intro z
    refine hQ _ ⟨fun c c1 c2 c3 c4 c5 => upd2_ne _ _ _ c1, fun j hj => by rw [upd2_self, pk_un (by omega)]⟩ ?_
    unfold rgR
    rw [if_pos z]
    exact ⟨by rw [upd2_ne _ _ _ (by omega)]; exact e83, by rw [upd2_self, pk_un (by omega)]; exact c5, by rw [upd2_self, pk_us, c6], by rw [upd2_self, pk_un (by omega)]; exact c7⟩
  rcases h3 with ⟨z, rfl⟩ | ⟨T, rT, hT7, rfl, h89⟩
  · exact bX11_rings_44 (fun _ => lost (Or.inl z)) (fun h => absurd rfl h) (fun h => absurd rfl h)
  · have nT : ¬ nI T = -1 := nI_ne_m1 (by omega)
    have hle := frP_le a
    by_cases hp : frP a = 20
    · refine bX11_rings_44 (fun h => absurd h nT) (fun _ h => absurd (by rw [hp]; rfl) h) (fun _ _ => lost (Or.inr hp))
    · have n20 : ¬ nI (frP a) = 20 := fun z => hp ((nI_eq (b := 20) (by omega) (by omega)).mp z)
      have hne : ¬ (rtF (f 86) a s k = 0 ∨ frP a = 20) := by omega
      have hi : frP a < 20 := by omega
      unfold rgR at hQ
      rw [if_neg hne, rT, Nat.add_sub_cancel] at hQ
      refine bX11_rings_44 (fun h => absurd h nT) (fun _ _ => sp_feels hs (fun g1 o1 k1 => ?_)) (fun _ h => absurd h n20)
      generalize frP a = i at hi hQ ⊢
      rw [e83] at k1
      have e32 : ((32 : Int32) + nI k) = nI (32 + k) := by rw [n_32, nI_add]
      have c32 : ((32 : Int32) + nI k).toNatClampNeg = 32 + k := by rw [e32, nI_clamp (by omega)]
      have g183 : g1 83 = a := by rw [o1 83 (by omega)]; exact e83
      -- what the law is told of the call
      have go : ∀ y : Int32, y = (if a (32 + k) = 1 then 0 else 1) → XP G mX11_byLaw (d + 3) 0 [.ref 82, .int 108, .int 99, .null, .null] [] sw (upd2 (upd2 (upd2 g1 103 7 (nI k)) 103 8 y) 103 9 (nI T)) (fun v sw' f' => XP G mX11_rings (d + 4) 123 [.ref 82, .int (nI s), .int (nI k), .int (nI T), .int (nI i), v5, v6] (retst v []) sw' f' Q) := by
        intro y hy
        have k2 : ∀ x, x ≤ 9 → upd2 (upd2 (upd2 g1 103 7 (nI k)) 103 8 y) 103 9 (nI T) 103 x = fctC a s k T x := by
          intro x hx
          rw [upd2_self, upd2_self, upd2_self]
          unfold fctC
          by_cases y9 : x = 9
          · subst y9; rw [pk_us, if_neg (by omega), if_neg (by omega), if_pos rfl]
          · rw [pk_un y9]
            by_cases y8 : x = 8
            · subst y8; rw [pk_us, if_neg (show ¬ (8 : Nat) = 7 by omega), if_pos (show (8 : Nat) = 8 from rfl), hy]
            · rw [pk_un y8]
              by_cases y7 : x = 7
              · subst y7; rw [pk_us, if_pos rfl]
              · rw [pk_un y7, if_neg y7, if_neg y8, if_neg y9]; exact k1 x hx
        have o2 : ∀ c, c ≠ 103 → upd2 (upd2 (upd2 g1 103 7 (nI k)) 103 8 y) 103 9 (nI T) c = f c := fun c hc => by rw [upd2_ne _ _ _ hc, upd2_ne _ _ _ hc, upd2_ne _ _ _ hc]; exact o1 c hc
        generalize upd2 (upd2 (upd2 g1 103 7 (nI k)) 103 8 y) 103 9 (nI T) = g2 at k2 o2 ⊢
        have m2 : MOff f g2 := MOff.of (fun c d1 d2 d3 d4 => o2 c d4)
        have hE2 := hE.off m2
        have hL := hE.1.ok
        refine sp_byLaw (d := d + 1) hE2.1 (Or.inr (Or.inr rfl)) (by decide) (fun g3 o3 => ?_)
        rw [lawV_cg hL k2 (Or.inr (Or.inr rfl))]
        have mN : isN (lawV lw (fctC a s k T) 108 99) 99 := lawV_N (M := 99) lw _ _ (by omega)
        have g3f : ∀ c, c ≠ 102 → c ≠ 103 → g3 c = f c := fun c d1 d2 => by rw [o3 c d1]; exact o2 c d2
        have m3 : MOff f g3 := MOff.of (fun c d1 d2 d3 d4 => g3f c d3 d4)
        have g382 : g3 82 = f 82 := g3f 82 (by omega) (by omega)
        have g383 : g3 83 = a := by rw [g3f 83 (by omega) (by omega)]; exact e83
        have e128 : (128 : Int32) + nI i = nI (128 + i) := by rw [n_128, nI_add]
        have e148 : (148 : Int32) + nI i = nI (148 + i) := by rw [n_148, nI_add]
        have e168 : (168 : Int32) + nI i = nI (168 + i) := by rw [n_168, nI_add]
        have e188 : (188 : Int32) + nI i = nI (188 + i) := by rw [n_188, nI_add]
        have e208 : (208 : Int32) + nI i = nI (208 + i) := by rw [n_208, nI_add]
        have c128 : ((128 : Int32) + nI i).toNatClampNeg = 128 + i := by rw [e128, nI_clamp (by omega)]
        have c148 : ((148 : Int32) + nI i).toNatClampNeg = 148 + i := by rw [e148, nI_clamp (by omega)]
        have c168 : ((168 : Int32) + nI i).toNatClampNeg = 168 + i := by rw [e168, nI_clamp (by omega)]
        have c188 : ((188 : Int32) + nI i).toNatClampNeg = 188 + i := by rw [e188, nI_clamp (by omega)]
        have c208 : ((208 : Int32) + nI i).toNatClampNeg = 208 + i := by rw [e208, nI_clamp (by omega)]
        have v168 : vp_in ((168 : Int32) + nI i) 391 := by rw [e168]; exact vp_in_nI (by omega) (by omega)
        have v188 : vp_in ((188 : Int32) + nI i) 391 := by rw [e188]; exact vp_in_nI (by omega) (by omega)
        have v208 : vp_in ((208 : Int32) + nI i) 391 := by rw [e208]; exact vp_in_nI (by omega) (by omega)
        by_cases m0 : lawV lw (fctC a s k T) 108 99 = 0
        · rw [if_pos m0] at hQ
          exact bX11_rings_123 (fun h => absurd m0 h) (fun h => absurd m0 h) (fun h => absurd m0 h) (fun _ => hQ g3 m3 ⟨g383, by rw [g382]; exact c5, by rw [g382]; exact c6, by rw [g382]; exact c7⟩)
        · rw [if_neg m0] at hQ
          generalize hmm : lawV lw (fctC a s k T) 108 99 = mm at *
          refine bX11_rings_123 (fun _ => by rw [e128]; exact vp_in_nI (by omega) (by omega)) (fun _ => by rw [e148]; exact vp_in_nI (by omega) (by omega)) (fun _ => ?_) (fun h => absurd h m0)
          rw [c128, c148]
          have o4 : ∀ c, c ≠ 83 → upd2 (upd2 g3 83 (128 + i) (nI s)) 83 (148 + i) (nI k) c = g3 c := fun c hc => by rw [upd2_ne _ _ _ hc, upd2_ne _ _ _ hc]
          have r4 : upd2 (upd2 g3 83 (128 + i) (nI s)) 83 (148 + i) (nI k) 83 = upd (upd a (128 + i) (nI s)) (148 + i) (nI k) := by rw [upd2_self, upd2_self, g383]
          generalize upd2 (upd2 g3 83 (128 + i) (nI s)) 83 (148 + i) (nI k) = g4 at o4 r4 ⊢
          have m4 : MOff f g4 := m3.tr (MOff.of (fun c d1 d2 d3 d4 => o4 c d1))
          have k4 : ∀ x, x ≤ 9 → g4 103 x = fctC a s k T x := fun x hx => by rw [o4 103 (by omega), o3 103 (by omega)]; exact k2 x hx
          have eH : lawH lw (g4 103) 118 ↔ lawH lw (fctC a s k T) 118 := by unfold lawH; rw [lawI_cg hL k4]
          -- the rest, for either payer
          have rest : ∀ (g5 : FF) (pv : Int32), (∀ x, x ≠ 102 → g5 x = g4 x) → pv = pyR lw (fctC a s k T) s k → XP G mX11_rings (d + 4) 208 [.ref 82, .int (nI s), .int (nI k), .int (nI T), .int (nI i), .int mm, .int 0] [] sw (upd2 (upd2 (upd2 g5 83 (168 + nI i).toNatClampNeg pv) 83 ((188 + nI i).toNatClampNeg) mm) 83 ((208 + nI i).toNatClampNeg) (nI T)) Q := by
            intro g5 pv o5 hpv
            rw [c168, c188, c208]
            have o6 : ∀ c, c ≠ 83 → upd2 (upd2 (upd2 g5 83 (168 + i) pv) 83 (188 + i) mm) 83 (208 + i) (nI T) c = g5 c := fun c hc => by rw [upd2_ne _ _ _ hc, upd2_ne _ _ _ hc, upd2_ne _ _ _ hc]
            have r6 : upd2 (upd2 (upd2 g5 83 (168 + i) pv) 83 (188 + i) mm) 83 (208 + i) (nI T) 83 = upd (upd (upd (upd (upd a (128 + i) (nI s)) (148 + i) (nI k)) (168 + i) pv) (188 + i) mm) (208 + i) (nI T) := by rw [upd2_self, upd2_self, upd2_self, o5 83 (by omega), r4]
            generalize upd2 (upd2 (upd2 g5 83 (168 + i) pv) 83 (188 + i) mm) 83 (208 + i) (nI T) = g6 at o6 r6 ⊢
            have m6 : MOff f g6 := m4.tr (MOff.of (fun c d1 d2 d3 d4 => by rw [o6 c d1]; exact o5 c d3))
            have g682 : g6 82 = f 82 := by rw [o6 82 (by omega), o5 82 (by omega), o4 82 (by omega)]; exact g382
            have g689 : g6 89 = f 89 := by rw [o6 89 (by omega), o5 89 (by omega), o4 89 (by omega)]; exact g3f 89 (by omega) (by omega)
            have loop : ∀ (l j : Nat) (g7 : FF), j + l = T + 1 → (∀ c, c ≠ 83 → g7 c = g6 c) → g7 83 = rowsR (g6 83) i (rgP (f 86) a s k T) j → XP G mX11_rings (d + 4) 208 [.ref 82, .int (nI s), .int (nI k), .int (nI T), .int (nI i), .int mm, .int (nI j)] [] sw g7 Q := by
              intro l
              induction l with
              | zero =>
                intro j g7 hj o7 r7
                have e1 : j = T + 1 := by omega
                subst e1
                have lt : nI T < nI (T + 1) := nI_lt (by omega) (by omega)
                have e96 : ((96 : Int32) + nI s) = nI (96 + s) := by rw [n_96, nI_add]
                have e112 : ((112 : Int32) + nI k) = nI (112 + k) := by rw [n_112, nI_add]
                have v96 : vp_in ((96 : Int32) + nI s) 391 := by rw [e96]; exact vp_in_nI (by omega) (by omega)
                have v112 : vp_in ((112 : Int32) + nI k) 391 := by rw [e112]; exact vp_in_nI (by omega) (by omega)
                have c96 : ((96 : Int32) + nI s).toNatClampNeg = 96 + s := by rw [e96, nI_clamp (by omega)]
                have c112 : ((112 : Int32) + nI k).toNatClampNeg = 112 + k := by rw [e112, nI_clamp (by omega)]
                have g782 : g7 82 = f 82 := by rw [o7 82 (by omega)]; exact g682
                refine bX11_rings_208 (fun _ => v96) (fun _ => v96) (fun _ => v112) (fun _ => v112) (fun _ => ?_) (fun h => absurd lt h) (fun h => absurd lt h) (fun h => absurd lt h)
                rw [c96, c112]
                refine hQ _ (m6.tr ⟨fun c d1 d2 d3 d4 d5 => ?_, fun j hj => ?_⟩) ⟨?_, ?_, ?_, ?_⟩
                · rw [upd2_ne _ _ _ d1, upd2_ne _ _ _ d2, upd2_ne _ _ _ d2]; exact o7 c d2
                · rw [upd2_self, pk_un (by omega), upd2_ne _ _ _ (by omega), upd2_ne _ _ _ (by omega), o7 82 (by omega)]
                · rw [upd2_ne _ _ _ (by omega), upd2_self, upd2_self, r7, r6, ← hpv]
                  rfl
                · rw [upd2_self, pk_us, upd2_ne _ _ _ (by omega), upd2_ne _ _ _ (by omega), g782, c5]
                · rw [upd2_self, pk_un (by omega), upd2_ne _ _ _ (by omega), upd2_ne _ _ _ (by omega), g782]; exact c6
                · rw [upd2_self, pk_un (by omega), upd2_ne _ _ _ (by omega), upd2_ne _ _ _ (by omega), g782]; exact c7
              | succ l ih =>
                intro j g7 hj o7 r7
                have nlt : ¬ nI T < nI j := nI_nlt (by omega) (by omega)
                have e228 : ((228 : Int32) + 8 * nI i) + nI j = nI (228 + 8 * i + j) := by rw [n_228, n_8, pk_mul, nI_add, nI_add]
                refine bX11_rings_208 (fun h => absurd h nlt) (fun h => absurd h nlt) (fun h => absurd h nlt) (fun h => absurd h nlt) (fun h => absurd h nlt) (fun _ => vp_in_nI (by omega) (by omega)) (fun _ => by rw [e228]; exact vp_in_nI (by omega) (by omega)) (fun _ => ?_)
                rw [e228, nI_clamp (n := 228 + 8 * i + j) (by omega), nI_clamp (n := j) (by omega), o7 89 (by omega), g689, h89 j (by omega), nI_1]
                refine ih (j + 1) _ (by omega) (fun c hc => by rw [upd2_ne _ _ _ hc]; exact o7 c hc) ?_
                rw [upd2_self, r7]
                rfl
            exact loop (T + 1) 0 g6 (by omega) (fun _ _ => rfl) rfl
          refine sp_holdsAny (d := d + 1) (hE.off m4).1 (fun hh g5 o5 => ?_) (fun hh g5 o5 => ?_)
          · have py : nI k = pyR lw (fctC a s k T) s k := by unfold pyR; rw [if_pos (eH.mp hh)]
            exact bX11_rings_171 (fun h => absurd h (by decide)) (fun h => absurd h (by decide)) (fun h => absurd h (by decide)) (fun h => absurd h (by decide)) (fun _ => v168) (fun _ => v188) (fun _ => v208) (fun _ => rest g5 _ o5 py)
          · have py : nI s = pyR lw (fctC a s k T) s k := by unfold pyR; rw [if_neg (fun z => hh (eH.mpr z))]
            exact bX11_rings_171 (fun _ => v168) (fun _ => v188) (fun _ => v208) (fun _ => rest g5 _ o5 py) (fun h => absurd rfl h) (fun h => absurd rfl h) (fun h => absurd rfl h) (fun h => absurd rfl h)
      have v32 : vp_in ((32 : Int32) + nI k) 391 := by rw [e32]; exact vp_in_nI (by omega) (by omega)
      have rd : (upd2 g1 103 7 (nI k)) 83 ((32 : Int32) + nI k).toNatClampNeg = a (32 + k) := by rw [upd2_ne _ _ _ (by omega), c32, g183]
      refine bX11_rings_74 v32 (fun h => ?_) (fun h => ?_)
      · rw [rd] at h
        exact go 1 (by rw [if_neg h])
      · rw [rd] at h
        exact go 0 (by rw [if_pos h])
