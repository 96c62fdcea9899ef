/-! ===== the reference lets a minute go by ===== -/
theorem sp_rings {G : GC} {d : Nat} {sw : Bool} {f : FF} {Q : QQ} {s k : Nat} {a : Nat → Int32} {cb cl cc : Int32} {lw : FF} (hE : MEnv lw f) (hV : rV a) (e83 : f 83 = a) (c5 : f 82 34 = cb) (c6 : f 82 35 = cl) (c7 : f 82 36 = cc) (hs : s < 16) (hk : k < 16) (ts : a s = 1) (hQ : ∀ g : FF, MOff f g → MRel g (rgR lw (f 86) (a, cb, cl, cc) s k) → Q none sw g) : XP G mX11_rings (d + 4) 0 [.ref 82, .int (nI s), .int (nI k), .null, .null, .null, .null] [] sw f Q := by
  have hr : rOk (f 83) := by rw [e83]; exact hV.1
  have no : (s = k ∨ ¬ frM a k) → ∀ v4 v5 v6 : Value, XP G mX11_freePlace (d + 3) 0 [.ref 82, .null] [] sw f (fun v sw' f' => XP G mX11_rings (d + 4) 44 [.ref 82, .int (nI s), .int (nI k), .int (-1), v4, v5, v6] (retst v []) sw' f' Q) := by
    intro z v4 v5 v6
    refine sp_freePlace hr ?_
    rw [e83]
    exact sp_ringM44 hE e83 c5 c6 c7 hs hk (Or.inl ⟨rtF_0 z, rfl⟩) hQ
  by_cases hsk : s = k
  · exact bX11_rings_0 (fun _ => no (Or.inl hsk) _ _ _) (fun h => absurd (by rw [hsk]) h)
  · have nsk : ¬ nI s = nI k := fun z => hsk ((nI_eq (by omega) (by omega)).mp z)
    refine bX11_rings_0 (fun h => absurd h nsk) (fun _ => sp_isFree (d := d + 1) hk hr (fun fk => ?_) (fun nfk => ?_))
    · rw [e83] at fk
      have e16s : ((16 : Int32) + nI s) = nI (16 + s) := by rw [n_16, nI_add]
      have e16k : ((16 : Int32) + nI k) = nI (16 + k) := by rw [n_16, nI_add]
      obtain ⟨e, he, ee⟩ := isN_nI (hV.2.2 s hs ts) (by omega)
      obtain ⟨q, hq, eq⟩ := isN_nI (hV.2.2 k hk fk.1) (by omega)
      refine bX11_rings_10 (fun _ => by rw [e16s]; exact vp_in_nI (by omega) (by omega)) (fun _ => by rw [e16k]; exact vp_in_nI (by omega) (by omega)) (fun _ => ?_) (fun h => absurd h (by decide))
      rw [e16s, e16k, nI_clamp (n := 16 + s) (by omega), nI_clamp (n := 16 + k) (by omega), e83, ee, eq]
      have ae : (a (16 + s)).toNatClampNeg = e := by rw [ee, nI_clamp (by omega)]
      have aq : (a (16 + k)).toNatClampNeg = q := by rw [eq, nI_clamp (by omega)]
      have rF : rtF (f 86) a s k = (bfs (adjA (f 86) a) q).1 e := by rw [rtF_1 hsk fk, ae, aq]
      have eA : adjT f = adjA (f 86) a := by rw [adjT_A, e83]
      have tail : ∀ (g1 : FF) (x3 : Int32), (∀ c, (c < 87 ∨ 89 < c) → g1 c = f c) → ((rtF (f 86) a s k = 0 ∧ x3 = -1) ∨ ∃ T, rtF (f 86) a s k = T + 1 ∧ T ≤ 7 ∧ x3 = nI T ∧ ∀ x, x ≤ T → g1 89 x = nI (rgP (f 86) a s k T x)) → XP G mX11_rings (d + 4) 39 [.ref 82, .int (nI s), .int (nI k), .null, .null, .null, .null] [.int x3] sw g1 Q := by
        intro g1 x3 o1 h3
        have m1 : MOff f g1 := MOff.of (fun c d1 d2 d3 d4 => o1 c d2)
        have g183 : g1 83 = a := by rw [o1 83 (by omega)]; exact e83
        have g182 : g1 82 = f 82 := o1 82 (by omega)
        have g186 : g1 86 = f 86 := o1 86 (by omega)
        refine bX11_rings_39 (sp_freePlace (by rw [g183]; exact hV.1) ?_)
        rw [g183]
        refine sp_ringM44 (cb := cb) (cl := cl) (cc := cc) (hE.off m1) g183 (by rw [g182]; exact c5) (by rw [g182]; exact c6) (by rw [g182]; exact c7) hs hk (by rw [g186]; exact h3) (fun g2 o2 R2 => ?_)
        rw [g186] at R2
        exact hQ g2 (m1.tr o2) R2
      refine sp_laysRoute (by omega) (by omega) hE.2 hr (fun z g1 o1 => tail g1 _ o1 (Or.inl ⟨?_, rfl⟩)) (fun T p hT hT7 hp hp8 g1 o1 gp => tail g1 _ o1 (Or.inr ⟨T, ?_, hT7, rfl, fun x hx => ?_⟩))
      · rw [eA] at z; rw [rF]; exact z
      · rw [eA] at hT; rw [rF]; exact hT
      · rw [eA] at hp
        rw [gp x hx]
        unfold rgP
        rw [ae, aq, rtP_eq hp x hx]
    · rw [e83] at nfk
      exact bX11_rings_10 (fun h => absurd rfl h) (fun h => absurd rfl h) (fun h => absurd rfl h) (fun _ => no (Or.inr nfk) _ _ _)
theorem sp_turnOfM {G : GC} {d : Nat} {sw : Bool} {f : FF} {Q : QQ} {s : Nat} {S : SM} {lw : FF} (hE : MEnv lw f) (hV : rV S.1) (R : MRel f S) (hs : s < 16) (ts : S.1 s = 1) (hQ : ∀ g : FF, MOff f g → MRel g (tnR lw (f 86) S s) → Q none sw g) : XP G mX11_turnOf (d + 5) 0 [.ref 82, .int (nI s), .null, .null] [] sw f Q := by
  obtain ⟨a, cb, cl, cc⟩ := S
  obtain ⟨e83, c5, c6, c7⟩ := R
  have e83 : f 83 = a := e83
  have c5 : f 82 34 = cb := c5
  have c6 : f 82 35 = cl := c6
  have c7 : f 82 36 = cc := c7
  have hV : rV a := hV
  have ts : a s = 1 := ts
  have hL := hE.1.ok
  refine bX11_turnOf_0 (sp_feels hs (fun g1 o1 k1 => ?_))
  rw [e83] at k1
  have m1 : MOff f g1 := MOff.of (fun c d1 d2 d3 d4 => o1 c d4)
  refine bX11_turnOf_5 (sp_byLaw (d := d + 2) (hE.off m1).1 (Or.inl rfl) (by decide) (fun g2 o2 => ?_))
  rw [lawV_cg hL k1 (Or.inl rfl)]
  have m2 : MOff f g2 := m1.tr (MOff.of (fun c d1 d2 d3 d4 => o2 c d3))
  have k2 : ∀ k, k ≤ 9 → g2 103 k = fcts a s k := fun k hk => by rw [o2 103 (by omega)]; exact k1 k hk
  refine bX11_turnOf_13 (sp_byLaw (d := d + 2) (hE.off m2).1 (Or.inr (Or.inl rfl)) (by decide) (fun g3 o3 => ?_))
  rw [lawV_cg hL k2 (Or.inr (Or.inl rfl))]
  have kN : isN (lawV lw (fcts a s) 119 15) 15 := lawV_N (M := 15) lw _ _ (by omega)
  obtain ⟨k, hk, ek⟩ := isN_nI kN (by omega)
  have m3 : MOff f g3 := m2.tr (MOff.of (fun c d1 d2 d3 d4 => o3 c d3))
  have g3f : ∀ c, c ≠ 102 → c ≠ 103 → g3 c = f c := fun c d1 d2 => by rw [o3 c d1, o2 c d1]; exact o1 c d2
  have g383 : g3 83 = a := by rw [g3f 83 (by omega) (by omega)]; exact e83
  have g382 : g3 82 = f 82 := g3f 82 (by omega) (by omega)
  have g386 : g3 86 = f 86 := g3f 86 (by omega) (by omega)
  have tE : tnR lw (f 86) (a, cb, cl, cc) s = if lawV lw (fcts a s) 114 10 ≤ nxX (a 390) - nxX (a 390) / 10 * 10 then (upd a 390 (nxX (a 390)), cb, cl, cc) else rgR lw (f 86) (upd a 390 (nxX (a 390)), cb, cl, cc) s (lawV lw (fcts a s) 119 15).toNatClampNeg := rfl
  rw [tE, ek, nI_clamp (by omega)] at hQ
  rw [ek]
  have r4 : upd2 g3 83 390 (nxX (a 390)) 83 = upd a 390 (nxX (a 390)) := by rw [upd2_self, g383]
  have xE : 25173 * g3 83 390 + 13849 - (25173 * g3 83 390 + 13849) / 65536 * 65536 = nxX (a 390) := by rw [g383]; rfl
  have o4 : ∀ c, c ≠ 83 → upd2 g3 83 390 (nxX (a 390)) c = g3 c := fun c hc => upd2_ne _ _ _ hc
  have x4 : upd2 g3 83 390 (nxX (a 390)) 83 390 = nxX (a 390) := by rw [r4, pk_us]
  have m4 : MOff f (upd2 g3 83 390 (nxX (a 390))) := m3.tr (MOff.of (fun c d1 d2 d3 d4 => o4 c d1))
  have g482 : upd2 g3 83 390 (nxX (a 390)) 82 = f 82 := by rw [o4 82 (by omega)]; exact g382
  have g486 : upd2 g3 83 390 (nxX (a 390)) 86 = f 86 := by rw [o4 86 (by omega)]; exact g386
  refine bX11_turnOf_22 (fun hle => ?_) (fun hgt => ?_)
  · rw [xE, x4] at hle
    rw [xE]
    rw [if_pos hle] at hQ
    exact hQ _ m4 ⟨r4, by rw [g482]; exact c5, by rw [g482]; exact c6, by rw [g482]; exact c7⟩
  · rw [xE, x4] at hgt
    rw [xE]
    rw [if_neg hgt] at hQ
    refine sp_rings (a := upd a 390 (nxX (a 390))) (cb := cb) (cl := cl) (cc := cc) (hE.off m4) (rV_upd hV (by omega)) r4 (by rw [g482]; exact c5) (by rw [g482]; exact c6) (by rw [g482]; exact c7) hs (by omega) (by rw [pk_un (by omega)]; exact ts) (fun g5 o5 R5 => bX11_turnOf_72 ?_)
    rw [g486] at R5
    exact hQ g5 (m4.tr o5) R5
theorem sp_mayBeCut {G : GC} {d : Nat} {sw : Bool} {f : FF} {Q : QQ} {s : Nat} {S : SM} {lw : FF} (hE : MEnv lw f) (hV : rV S.1) (R : MRel f S) (hs : s < 16) (hQ : ∀ g : FF, MOff f g → MRel g (ctR lw S s) → Q none sw g) : XP G mX11_mayBeCut (d + 3) 0 [.ref 82, .int (nI s)] [] sw f Q := by
  obtain ⟨e83, c5, c6, c7⟩ := R
  have hL := hE.1.ok
  refine bX11_mayBeCut_0 (sp_feels hs (fun g1 o1 k1 => ?_))
  rw [e83] at k1
  have m1 : MOff f g1 := MOff.of (fun c d1 d2 d3 d4 => o1 c d4)
  have eH : lawH lw (g1 103) 120 ↔ lawH lw (fcts S.1 s) 120 := by unfold lawH; rw [lawI_cg hL k1]
  unfold ctR at hQ
  refine bX11_mayBeCut_5 (sp_holdsAny (hE.off m1).1 (fun hh g2 o2 => ?_) (fun hh g2 o2 => ?_))
  · rw [if_pos (eH.mp hh)] at hQ
    have m2 : MOff f g2 := m1.tr (MOff.of (fun c d1 d2 d3 d4 => o2 c d3))
    have g282 : g2 82 = f 82 := by rw [o2 82 (by omega), o1 82 (by omega)]
    have g283 : g2 83 = S.1 := by rw [o2 83 (by omega), o1 83 (by omega)]; exact e83
    have e48 : ((48 : Int32) + nI s) = nI (48 + s) := by rw [n_48, nI_add]
    refine bX11_mayBeCut_11 (fun _ => by rw [e48]; exact vp_in_nI (by omega) (by omega)) (fun _ => ?_) (fun h => absurd h (by decide))
    rw [e48, nI_clamp (by omega)]
    have r3 : upd2 g2 83 (48 + s) 0 83 = upd S.1 (48 + s) 0 := by rw [upd2_self, g283]
    refine sp_endsCallOf (d := d + 1) (by rw [r3]; exact (rV_upd hV (by omega)).1) (fun g4 o4 r4 => bX11_mayBeCut_30 (hQ _ (m2.tr ⟨fun c d1 d2 d3 d4 d5 => ?_, fun j hj => ?_⟩) ⟨?_, ?_, ?_, ?_⟩))
    · rw [upd2_ne _ _ _ d1, o4 c d2, upd2_ne _ _ _ d2]
    · rw [upd2_self, pk_un (by omega), o4 82 (by omega), upd2_ne _ _ _ (by omega)]
    · rw [upd2_ne _ _ _ (by omega), r4, r3]
    · rw [upd2_self, pk_un (by omega), o4 82 (by omega), upd2_ne _ _ _ (by omega), g282]; exact c5
    · rw [upd2_self, pk_un (by omega), o4 82 (by omega), upd2_ne _ _ _ (by omega), g282]; exact c6
    · rw [upd2_self, pk_us, o4 82 (by omega), upd2_ne _ _ _ (by omega), g282, c7]
  · rw [if_neg (fun z => hh (eH.mpr z))] at hQ
    have m2 : MOff f g2 := m1.tr (MOff.of (fun c d1 d2 d3 d4 => o2 c d3))
    have g282 : g2 82 = f 82 := by rw [o2 82 (by omega), o1 82 (by omega)]
    have g283 : g2 83 = S.1 := by rw [o2 83 (by omega), o1 83 (by omega)]; exact e83
    exact bX11_mayBeCut_11 (fun h => absurd rfl h) (fun h => absurd rfl h) (fun _ => hQ g2 m2 ⟨g283, by rw [g282]; exact c5, by rw [g282]; exact c6, by rw [g282]; exact c7⟩)
theorem sp_minuteGoes {G : GC} {d : Nat} {sw : Bool} {f : FF} {Q : QQ} {S : SM} {lw : FF} (hE : MEnv lw f) (hV : rV S.1) (R : MRel f S) (hQ : ∀ g : FF, MOff f g → MRel g (minR lw (f 86) (f 82 4) (f 82 5) S) → Q none sw g) : XP G mX11_minuteGoes (d + 6) 0 [.ref 82, .null] [] sw f Q := by
  unfold minR at hQ
  generalize hMM : minS lw (f 86) (f 82 4) (f 82 5) S = M at hQ
  have third : ∀ (l s : Nat) (g : FF) (T : SM), s + l = 16 → MOff f g → rV T.1 → MRel g (cts lw T s) → cts lw T 16 = M → XP G mX11_minuteGoes (d + 6) 61 [.ref 82, .int (nI s)] [] sw g Q := by
    intro l
    induction l with
    | zero =>
      intro s g T hs og hT Rg eT
      have e1 : s = 16 := by omega
      subst e1
      rw [eT] at Rg
      obtain ⟨e83, c5, c6, c7⟩ := Rg
      refine bX11_minuteGoes_61 (fun _ => hQ _ (og.tr (MOff.of (fun c d1 d2 d3 d4 => upd2_ne _ _ _ d1))) ⟨?_, ?_, ?_, ?_⟩) (fun h => absurd (by decide) h) (fun h => absurd (by decide) h) (fun h => absurd (by decide) h) (fun h => absurd (by decide) h)
      · rw [upd2_self, e83]
      · rw [upd2_ne _ _ _ (by omega)]; exact c5
      · rw [upd2_ne _ _ _ (by omega)]; exact c6
      · rw [upd2_ne _ _ _ (by omega)]; exact c7
    | succ l ih =>
      intro s g T hs og hT Rg eT
      have n16 : ¬ (16 : Int32) ≤ nI s := nI_ge (a := s) (b := 16) (by omega) (by omega)
      have hV2 := (cts_ok (lw := lw) hT s (by omega)).1
      have e83 : g 83 = (cts lw T s).1 := Rg.1
      have tm : toldM g (nI s) ↔ (cts lw T s).1 s = 1 := by rw [toldM_iff (by omega), e83]
      have e48 : ((48 : Int32) + nI s) = nI (48 + s) := by rw [n_48, nI_add]
      have r48 : g 83 ((48 : Int32) + nI s).toNatClampNeg = (cts lw T s).1 (48 + s) := by rw [e48, nI_clamp (by omega), e83]
      have no : ¬ ((cts lw T s).1 s = 1 ∧ (cts lw T s).1 (48 + s) = 1) → XP G mX11_minuteGoes (d + 6) 61 [.ref 82, .int (nI s + 1)] [] sw g Q := by
        intro h
        rw [nI_1]
        have e : cts lw T (s + 1) = cts lw T s := if_neg h
        exact ih (s + 1) g T (by omega) og hT (by rw [e]; exact Rg) eT
      refine bX11_minuteGoes_61 (fun h => absurd h n16) (fun _ h => no (fun z => h (tm.mpr z.1))) (fun _ _ => by rw [e48]; exact vp_in_nI (by omega) (by omega)) (fun _ _ h => no (fun z => h (r48.trans z.2))) (fun _ h1 h2 => ?_)
      have e : cts lw T (s + 1) = ctR lw (cts lw T s) s := if_pos ⟨tm.mp h1, r48.symm.trans h2⟩
      refine sp_mayBeCut (d := d + 2) (hE.off og) hV2 Rg (by omega) (fun g2 o2 R2 => bX11_minuteGoes_93 ?_)
      rw [nI_1]
      exact ih (s + 1) g2 T (by omega) (og.tr o2) hT (by rw [e]; exact R2) eT
  have second : ∀ (l s : Nat) (g : FF) (T : SM), s + l = 16 → MOff f g → rV T.1 → MRel g (tns lw (f 86) T s) → cts lw (tns lw (f 86) T 16) 16 = M → XP G mX11_minuteGoes (d + 6) 34 [.ref 82, .int (nI s)] [] sw g Q := by
    intro l
    induction l with
    | zero =>
      intro s g T hs og hT Rg eT
      have e1 : s = 16 := by omega
      subst e1
      have hV2 := (tns_ok (lw := lw) (cir := f 86) hT 16 (by omega)).1
      exact bX11_minuteGoes_34 (fun _ => third 16 0 g (tns lw (f 86) T 16) (by omega) og hV2 Rg eT) (fun h => absurd (by decide) h)
    | succ l ih =>
      intro s g T hs og hT Rg eT
      have n16 : ¬ (16 : Int32) ≤ nI s := nI_ge (a := s) (b := 16) (by omega) (by omega)
      have hV2 := (tns_ok (lw := lw) (cir := f 86) hT s (by omega)).1
      have e83 : g 83 = (tns lw (f 86) T s).1 := Rg.1
      have g86 : g 86 = f 86 := og.1 86 (by omega) (by omega) (by omega) (by omega) (by omega)
      refine bX11_minuteGoes_34 (fun h => absurd h n16) (fun _ => sp_isFree (d := d + 3) (by omega) (by rw [e83]; exact hV2.1) (fun fr => ?_) (fun fr => ?_))
      · rw [e83] at fr
        have e : tns lw (f 86) T (s + 1) = tnR lw (f 86) (tns lw (f 86) T s) s := if_pos fr
        refine bX11_minuteGoes_45 (fun h => absurd h (by decide)) (fun _ => sp_turnOfM (hE.off og) hV2 Rg (by omega) fr.1 (fun g2 o2 R2 => bX11_minuteGoes_53 ?_))
        rw [nI_1]
        rw [g86] at R2
        exact ih (s + 1) g2 T (by omega) (og.tr o2) hT (by rw [e]; exact R2) eT
      · rw [e83] at fr
        have e : tns lw (f 86) T (s + 1) = tns lw (f 86) T s := if_neg fr
        refine bX11_minuteGoes_45 (fun _ => ?_) (fun h => absurd rfl h)
        rw [nI_1]
        exact ih (s + 1) g T (by omega) og hT (by rw [e]; exact Rg) eT
  have first : ∀ (l i : Nat) (g : FF), i + l = 20 → MOff f g → MRel g (chs (f 82 4) (f 82 5) S.1 i, S.2) → XP G mX11_minuteGoes (d + 6) 2 [.ref 82, .int (nI i)] [] sw g Q := by
    intro l
    induction l with
    | zero =>
      intro i g hi og Rg
      have e1 : i = 20 := by omega
      subst e1
      have hV2 := (chs_ok hV (f 82 4) (f 82 5) 20 (by omega)).1
      unfold minS at hMM
      generalize chs (f 82 4) (f 82 5) S.1 20 = b at hV2 Rg hMM
      exact bX11_minuteGoes_2 (fun _ => second 16 0 g (b, S.2) (by omega) og hV2 Rg hMM) (fun h => absurd (by decide) h) (fun h => absurd (by decide) h) (fun h => absurd (by decide) h)
    | succ l ih =>
      intro i g hi og Rg
      have n20 : ¬ (20 : Int32) ≤ nI i := nI_ge (a := i) (b := 20) (by omega) (by omega)
      have hV2 := (chs_ok hV (f 82 4) (f 82 5) i (by omega)).1
      obtain ⟨e83, c5, c6, c7⟩ := id Rg
      have e83 : g 83 = chs (f 82 4) (f 82 5) S.1 i := e83
      have e188 : (188 : Int32) + nI i = nI (188 + i) := by rw [n_188, nI_add]
      have r188 : g 83 ((188 : Int32) + nI i).toNatClampNeg = chs (f 82 4) (f 82 5) S.1 i (188 + i) := by rw [e188, nI_clamp (by omega), e83]
      refine bX11_minuteGoes_2 (fun h => absurd h n20) (fun _ => by rw [e188]; exact vp_in_nI (by omega) (by omega)) (fun _ h => ?_) (fun _ h => ?_)
      · rw [r188] at h
        rw [nI_1]
        have e : chs (f 82 4) (f 82 5) S.1 (i + 1) = chs (f 82 4) (f 82 5) S.1 i := if_pos h
        refine ih (i + 1) g (by omega) og ?_
        rw [e]
        exact Rg
      · rw [r188] at h
        have nz : chs (f 82 4) (f 82 5) S.1 i (188 + i) ≠ 0 := fun z => h ((isN_le0 (hV2.1 i (by omega)).1).mpr z)
        refine sp_charges (d := d + 4) (by omega) (by rw [e83]; exact h) (by rw [e83]; exact hV2.2.1 i (by omega) nz) (fun g2 o2 r2 => bX11_minuteGoes_26 ?_)
        rw [nI_1]
        have g4 : g 82 4 = f 82 4 := og.2 4 (by omega)
        have g5 : g 82 5 = f 82 5 := og.2 5 (by omega)
        have g282 : g2 82 = g 82 := o2 82 (by omega)
        refine ih (i + 1) g2 (by omega) (og.tr (MOff.of (fun c d1 d2 d3 d4 => o2 c d1))) ⟨?_, by rw [g282]; exact c5, by rw [g282]; exact c6, by rw [g282]; exact c7⟩
        rw [r2, g4, g5, e83]
        rfl
  exact bX11_minuteGoes_0 (first 20 0 f (by omega) (MOff.rf f) R)
