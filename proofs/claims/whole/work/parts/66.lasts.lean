/-! ===== fundLasts ===== -/
theorem rgR_row {lw : FF} {cir : Nat → Int32} {S S' : SM} {s k : Nat} (h : S.1 = S'.1) : (rgR lw cir S s k).1 = (rgR lw cir S' s k).1 := by
  obtain ⟨a, c⟩ := S
  obtain ⟨a', c'⟩ := S'
  have h : a = a' := h
  subst h
  unfold rgR
  by_cases c1 : rtF cir a s k = 0 ∨ frP a = 20
  · rw [if_pos c1, if_pos c1]
  · rw [if_neg c1, if_neg c1]
    by_cases m0 : lawV lw (fctC a s k (rtF cir a s k - 1)) 108 99 = 0
    · rw [if_pos m0, if_pos m0]
    · rw [if_neg m0, if_neg m0]
theorem tnR_row {lw : FF} {cir : Nat → Int32} {S S' : SM} {s : Nat} (h : S.1 = S'.1) : (tnR lw cir S s).1 = (tnR lw cir S' s).1 := by
  obtain ⟨a, c⟩ := S
  obtain ⟨a', c'⟩ := S'
  have h : a = a' := h
  subst h
  unfold tnR
  by_cases c1 : lawV lw (fcts a s) 114 10 ≤ nxX (a 390) - nxX (a 390) / 10 * 10
  · rw [if_pos c1, if_pos c1]
  · rw [if_neg c1, if_neg c1]
    exact rgR_row rfl
theorem ctR_row {lw : FF} {S S' : SM} {s : Nat} (h : S.1 = S'.1) : (ctR lw S s).1 = (ctR lw S' s).1 := by
  obtain ⟨a, c⟩ := S
  obtain ⟨a', c'⟩ := S'
  have h : a = a' := h
  subst h
  unfold ctR
  by_cases c1 : lawH lw (fcts a s) 120
  · rw [if_pos c1, if_pos c1]
  · rw [if_neg c1, if_neg c1]
theorem tns_row {lw : FF} {cir : Nat → Int32} {S S' : SM} (h : S.1 = S'.1) : ∀ s, (tns lw cir S s).1 = (tns lw cir S' s).1 := by
  intro s
  induction s with
  | zero => exact h
  | succ s ih =>
    have e : tns lw cir S (s + 1) = @ite SM (frM (tns lw cir S s).1 s) (Classical.propDecidable _) (tnR lw cir (tns lw cir S s) s) (tns lw cir S s) := rfl
    have e' : tns lw cir S' (s + 1) = @ite SM (frM (tns lw cir S' s).1 s) (Classical.propDecidable _) (tnR lw cir (tns lw cir S' s) s) (tns lw cir S' s) := rfl
    rw [e, e']
    generalize tns lw cir S s = T at ih ⊢
    generalize tns lw cir S' s = T' at ih ⊢
    by_cases c : frM T.1 s
    · have c' : frM T'.1 s := by rw [← ih]; exact c
      rw [if_pos c, if_pos c']
      exact tnR_row ih
    · have c' : ¬ frM T'.1 s := by rw [← ih]; exact c
      rw [if_neg c, if_neg c']
      exact ih
theorem cts_row {lw : FF} {S S' : SM} (h : S.1 = S'.1) : ∀ s, (cts lw S s).1 = (cts lw S' s).1 := by
  intro s
  induction s with
  | zero => exact h
  | succ s ih =>
    have e : cts lw S (s + 1) = if (cts lw S s).1 s = 1 ∧ (cts lw S s).1 (48 + s) = 1 then ctR lw (cts lw S s) s else cts lw S s := rfl
    have e' : cts lw S' (s + 1) = if (cts lw S' s).1 s = 1 ∧ (cts lw S' s).1 (48 + s) = 1 then ctR lw (cts lw S' s) s else cts lw S' s := rfl
    rw [e, e']
    generalize cts lw S s = T at ih ⊢
    generalize cts lw S' s = T' at ih ⊢
    by_cases c : T.1 s = 1 ∧ T.1 (48 + s) = 1
    · have c' : T'.1 s = 1 ∧ T'.1 (48 + s) = 1 := by rw [← ih]; exact c
      rw [if_pos c, if_pos c']
      exact ctR_row ih
    · have c' : ¬ (T'.1 s = 1 ∧ T'.1 (48 + s) = 1) := by rw [← ih]; exact c
      rw [if_neg c, if_neg c']
      exact ih
theorem minR_row {lw : FF} {cir : Nat → Int32} {pt pc : Int32} {S S' : SM} (h : S.1 = S'.1) : (minR lw cir pt pc S).1 = (minR lw cir pt pc S').1 := by
  have h2 : (minS lw cir pt pc S).1 = (minS lw cir pt pc S').1 := by
    unfold minS
    rw [h]
    generalize chs pt pc S'.1 20 = b
    exact cts_row (tns_row (S := (b, S.2)) (S' := (b, S'.2)) rfl 16) 16
  unfold minR
  rw [h2]
noncomputable def mnR (lw : FF) (cir : Nat → Int32) (pt pc : Int32) (a : Nat → Int32) : Nat → Int32 := (minR lw cir pt pc (a, 0, 0, 0)).1
noncomputable def flR (lw : FF) (cir : Nat → Int32) (pt pc : Int32) : Nat → Nat → (Nat → Int32) → Int32
  | 0, _, _ => -2
  | l + 1, j, a => if 99999 ≤ a 389 then -2 else if mnR lw cir pt pc a 388 = 0 then nI j else flR lw cir pt pc l (j + 1) (mnR lw cir pt pc a)
theorem sp_tillPoor {G : GC} {d : Nat} {sw : Bool} {f : FF} {Q : QQ} {w n : Nat} {a : Nat → Int32} {lw : FF} (hw : isW w) (hE : CEnv sw lw f) (H : RWr f w a) (hn : n ≤ 240) (h0 : a 388 = 0 → Q (some (.int 0)) sw f) (hQ : ¬ a 388 = 0 → ∀ g : FF, COff f g w → Q (some (.int (flR lw (f 86) (f 32 3) (f 32 4) n 1 a))) sw g) : XP G mX7_minutesTillPoor (d + 6) 0 [.ref 32, .ref w, .int (nI n), .null] [] sw f Q := by
  have hw2 := isW_lt hw
  have e5 : f w 5 = a 388 := H.2.2.2.2.2.1
  have loop : ∀ (l j : Nat) (b : Nat → Int32) (g : FF), j + l = n + 1 → 1 ≤ j → COff f g w → RWr g w b → (∀ g' : FF, COff f g' w → Q (some (.int (flR lw (f 86) (f 32 3) (f 32 4) l j b))) sw g') → XP G mX7_minutesTillPoor (d + 6) 11 [.ref 32, .ref w, .int (nI n), .int (nI j)] [] sw g Q := by
    intro l
    induction l with
    | zero =>
      intro j b g hj hj1 og Hg hq
      have lt : nI n < nI j := nI_lt (by omega) (by omega)
      exact bX7_minutesTillPoor_11 hw (fun _ => hq g og) (fun h => absurd lt h) (fun h => absurd lt h)
    | succ l ih =>
      intro j b g hj hj1 og Hg hq
      have nlt : ¬ nI n < nI j := nI_nlt (by omega) (by omega)
      have e6 : g w 6 = b 389 := Hg.2.2.2.2.2.2.2.1
      have g86 : g 86 = f 86 := og.1 86 (by omega) (by omega) (by omega)
      refine bX7_minutesTillPoor_11 hw (fun h => absurd h nlt) (fun _ h => ?_) (fun _ h => ?_)
      · rw [e6] at h
        have := hq g og
        unfold flR at this
        rw [if_pos h] at this
        exact this
      · have h2 := h
        rw [e6] at h
        refine sp_goBy (S := (b, g 32 5, g 32 6, g 32 7)) hw (hE.off hw og) ⟨Hg, rfl, rfl, rfl⟩ h2 (minS_ok (S := (b, g 32 5, g 32 6, g 32 7)) (Hg.rV hw)).2 (fun g2 o2 R2 => ?_)
        rw [g86, og.2.1, og.2.2] at R2
        have er : (minR lw (f 86) (f 32 3) (f 32 4) (b, g 32 5, g 32 6, g 32 7)).1 = mnR lw (f 86) (f 32 3) (f 32 4) b := minR_row rfl
        have H2 := R2.1
        rw [er] at H2
        have e5' : g2 w 5 = mnR lw (f 86) (f 32 3) (f 32 4) b 388 := H2.2.2.2.2.2.1
        refine bX7_minutesTillPoor_30 hw (fun z => ?_) (fun z => ?_)
        · rw [e5'] at z
          rw [nI_1]
          refine ih (j + 1) _ g2 (by omega) (by omega) (og.tr o2) H2 (fun g' og' => ?_)
          have := hq g' og'
          unfold flR at this
          rw [if_neg h, if_neg z] at this
          exact this
        · rw [e5'] at z
          have := hq g2 (og.tr o2)
          unfold flR at this
          rw [if_neg h, if_pos z] at this
          exact this
  exact bX7_minutesTillPoor_0 hw (fun z => loop n 1 a f (by omega) (by omega) (COff.rf f w) H (hQ (by rw [← e5]; exact z))) (fun z => h0 (by rw [← e5]; exact z))
theorem op_fundLasts (G : GC) : OP14 G RR := by
  intro a1 sw f hR
  obtain ⟨h1, h2, h3, h4, h5, h6, h7⟩ := id hR
  by_cases c1 : 1 ≤ a1 ∧ a1 ≤ 240
  · obtain ⟨n, hn, rfl⟩ := rng (K := 240) (by decide) ⟨Int32.le_trans (by decide) c1.1, c1.2⟩
    -- the reference
    have ref : ∀ (g : FF) (r : Int32), (∀ c, (c < 5 ∨ c = 6 ∨ 10 < c) → (c < 32 ∨ 35 < c) → (c < 69 ∨ 81 < c) → g c = f c) → g 32 3 = f 32 3 → g 32 4 = f 32 4 → (f 83 388 = 0 → r = 0) → (¬ f 83 388 = 0 → r = flR (fun m => f (lwB sw + m)) (f 86) (f 32 3) (f 32 4) n 1 (f 83)) → XP G mX11_fundLasts 999 0 [.ref 82, .int (nI n), .null, .null] [] sw g (fun v2 sw2 f2 => v2 = some (.int r) ∧ RR sw2 f2) := by
      intro g r og g3 g4 q0 q1
      obtain ⟨hE, hM⟩ := hR.cenv
      have g82 : g 82 = f 82 := og 82 (by omega) (by omega) (by omega)
      have g83 : g 83 = f 83 := og 83 (by omega) (by omega) (by omega)
      have g86 : g 86 = f 86 := og 86 (by omega) (by omega) (by omega)
      refine bX11_fundLasts_0 (d := 992) (fun _ z => ?_) (fun _ z => ?_) (fun h => absurd c1 h)
      · rw [g83] at z
        refine sp_copies sh83 sh84 (by decide) (fun g1 o1 k1 => bX11_fundLasts_37 (d := 992) (bX11_beginsMinutes_0 (bX11_fundLasts_41 (d := 992) ?_)))
        have gM : MEnv (fun m => f (lwB sw + m)) g1 := ⟨hM.cg (by rw [o1 82 (by omega), g82]) (fun k q1 q2 => by rw [o1 k (by omega)]; exact og k (by omega) (by omega) (by omega)), h2.cg (by rw [o1 4 (by omega)]; exact og 4 (by omega) (by omega) (by omega)) (by rw [o1 6 (by omega)]; exact og 6 (by omega) (by omega) (by omega)) (by rw [o1 86 (by omega)]; exact g86)⟩
        have m0 : MOff g1 (upd2 (upd2 (upd2 g1 82 34 0) 82 35 0) 82 36 0) := ⟨fun c d1 d2 d3 d4 d5 => by rw [upd2_ne _ _ _ d1, upd2_ne _ _ _ d1, upd2_ne _ _ _ d1], fun j hj => by rw [upd2_self, pk_un (by omega), upd2_self, pk_un (by omega), upd2_self, pk_un (by omega)]⟩
        have e83 : upd2 (upd2 (upd2 g1 82 34 0) 82 35 0) 82 36 0 83 = f 83 := by rw [upd2_ne _ _ _ (by omega), upd2_ne _ _ _ (by omega), upd2_ne _ _ _ (by omega), o1 83 (by omega), g83]
        generalize upd2 (upd2 (upd2 g1 82 34 0) 82 35 0) 82 36 0 = g2 at m0 e83 ⊢
        have g186 : g1 86 = f 86 := by rw [o1 86 (by omega)]; exact g86
        have g14 : g1 82 4 = f 32 3 := by rw [o1 82 (by omega), g82]; exact h3.1
        have g15 : g1 82 5 = f 32 4 := by rw [o1 82 (by omega), g82]; exact h3.2.2.1
        -- back
        have back : ∀ (x2 x3 : Int32) (h : FF), MOff g1 h → x2 = r → XP G mX11_copies (992 + 6) 0 [.ref 84, .ref 83, .null] [] sw h (fun v sw' f' => XP G mX11_fundLasts (992 + 7) 105 [.ref 82, .int (nI n), .int x2, .int x3] (retst v []) sw' f' (fun v2 sw2 f2 => v2 = some (.int r) ∧ RR sw2 f2)) := by
          intro x2 x3 h o2 hx
          refine sp_copies sh84 sh83 (by decide) (fun g5 o5 k5 => bX11_fundLasts_105 (d := 992) ⟨by rw [hx], ?_⟩)
          have o15 : ∀ c, c ≠ 82 → c ≠ 83 → c ≠ 84 → (c < 87 ∨ 89 < c) → c ≠ 102 → c ≠ 103 → g5 c = g c := fun c q1 q2 q3 q4 q5 q6 => by rw [o5 c q2, o2.1 c q1 q2 q4 q5 q6]; exact o1 c q3
          refine hR.run (fun c p1 p2 p3 p4 p5 p6 p7 p8 p9 p10 => by rw [o15 c p5 p6 p7 p8 p9 p10]; exact og c p1 p2 p4) ?_ ?_ (fun j hj => ?_) (h6.row (fun k hk => ?_) (fun k hk => ?_))
          · rw [o15 32 (by omega) (by omega) (by omega) (by omega) (by omega) (by omega)]; exact g3
          · rw [o15 32 (by omega) (by omega) (by omega) (by omega) (by omega) (by omega)]; exact g4
          · rw [o5 82 (by omega), o2.2 j hj, o1 82 (by omega), g82]
          · rw [o15 _ (by omega) (by omega) (by omega) (by omega) (by omega) (by omega)]; exact og _ (by omega) (by omega) (by omega)
          · rw [k5 k hk, o2.1 84 (by omega) (by omega) (by omega) (by omega) (by omega), k1 k hk, g83]
        have loop : ∀ (l j : Nat) (b : Nat → Int32) (h : FF), j + l = n + 1 → 1 ≤ j → MOff g1 h → rV b → h 83 = b → r = flR (fun m => f (lwB sw + m)) (f 86) (f 32 3) (f 32 4) l j b → XP G mX11_fundLasts (992 + 7) 46 [.ref 82, .int (nI n), .int (-2), .int (nI j)] [] sw h (fun v2 sw2 f2 => v2 = some (.int r) ∧ RR sw2 f2) := by
          intro l
          induction l with
          | zero =>
            intro j b h hj hj1 oh hV hb hr
            have lt : nI n < nI j := nI_lt (by omega) (by omega)
            exact bX11_fundLasts_46 (d := 992) (fun _ => back _ _ h oh hr.symm) (fun h => absurd lt h) (fun h => absurd lt h) (fun h => absurd lt h)
          | succ l ih =>
            intro j b h hj hj1 oh hV hb hr
            have nlt : ¬ nI n < nI j := nI_nlt (by omega) (by omega)
            have h86 : h 86 = f 86 := by rw [oh.1 86 (by omega) (by omega) (by omega) (by omega) (by omega)]; exact g186
            have h4' : h 82 4 = f 32 3 := by rw [oh.2 4 (by omega)]; exact g14
            have h5' : h 82 5 = f 32 4 := by rw [oh.2 5 (by omega)]; exact g15
            unfold flR at hr
            refine bX11_fundLasts_46 (d := 992) (fun h => absurd h nlt) (fun _ h => absurd rfl h) (fun _ _ z2 => ?_) (fun _ _ z2 => ?_)
            · rw [hb] at z2
              rw [if_pos z2] at hr
              exact back _ _ h oh hr.symm
            · rw [hb] at z2
              rw [if_neg z2] at hr
              refine sp_minuteGoes (S := (b, h 82 34, h 82 35, h 82 36)) (gM.off oh) hV ⟨hb, rfl, rfl, rfl⟩ (fun h2 o2 R2 => ?_)
              rw [h86, h4', h5'] at R2
              have er : (minR (fun m => f (lwB sw + m)) (f 86) (f 32 3) (f 32 4) (b, h 82 34, h 82 35, h 82 36)).1 = mnR (fun m => f (lwB sw + m)) (f 86) (f 32 3) (f 32 4) b := minR_row rfl
              have e2 : h2 83 = mnR (fun m => f (lwB sw + m)) (f 86) (f 32 3) (f 32 4) b := R2.1.trans er
              have hV2 : rV (mnR (fun m => f (lwB sw + m)) (f 86) (f 32 3) (f 32 4) b) := minR_ok (S := (b, 0, 0, 0)) hV
              refine bX11_fundLasts_75 (d := 992) (fun y => ?_) (fun y => ?_)
              · rw [e2] at y
                rw [if_neg y] at hr
                rw [nI_1]
                exact ih (j + 1) _ h2 (by omega) (by omega) (oh.tr o2) hV2 e2 hr
              · rw [e2] at y
                rw [if_pos y] at hr
                have nj : ¬ nI j = -2 := by
                  intro e
                  have := congrArg Int32.toInt e
                  rw [nI_toInt (by omega), show ((-2 : Int32)).toInt = -2 from rfl] at this
                  omega
                exact bX11_fundLasts_46 (d := 992) (fun _ => back _ _ h2 (oh.tr o2) hr.symm) (fun _ _ => back _ _ h2 (oh.tr o2) hr.symm) (fun _ h => absurd h nj) (fun _ h => absurd h nj)
        exact loop n 1 (f 83) g2 (by omega) (by omega) m0 ((RWr.of h6).rV isW_43) e83 (q1 z)
      · rw [g83] at z
        refine ⟨by rw [q0 z], hR.run (fun c p1 p2 p3 p4 p5 p6 p7 p8 p9 p10 => og c p1 p2 p4) g3 g4 (fun j hj => by rw [g82]) (h6.cg (fun k hk => og _ (by omega) (by omega) (by omega)) g83)⟩
    -- the class
    refine bX10_fundLasts_0 (d := 992) (fun _ => sp_copy_69_43 (fun g0 hg0 => bX10_fundLasts_24 (d := 992) ?_)) (fun h => absurd c1 h)
    obtain ⟨hE, hM, HW⟩ := trialE hR hg0
    have o0 : ∀ c, (c < 69 ∨ 81 < c) → g0 c = f c := hg0.1
    refine sp_tillPoor isW_69 hE HW hn (fun z => bX10_fundLasts_36 (d := 992) ⟨_, rfl, ref g0 _ (fun c p1 p2 p3 => o0 c p3) (by rw [o0 32 (by omega)]) (by rw [o0 32 (by omega)]) (fun _ => rfl) (fun h => absurd z h)⟩) (fun z g og => bX10_fundLasts_36 (d := 992) ⟨_, rfl, ref g _ (fun c p1 p2 p3 => by rw [og.1 c p1 p2 p3]; exact o0 c p3) (by rw [og.2.1, o0 32 (by omega)]) (by rw [og.2.2, o0 32 (by omega)]) (fun h => absurd h z) (fun _ => by rw [o0 86 (by omega), o0 32 (by omega)])⟩)
  · exact bX10_fundLasts_0 (d := 992) (fun h => absurd h c1) (fun _ => ⟨_, rfl, bX11_fundLasts_0 (d := 992) (fun h => absurd h c1) (fun h => absurd h c1) (fun _ => ⟨rfl, hR⟩)⟩)
