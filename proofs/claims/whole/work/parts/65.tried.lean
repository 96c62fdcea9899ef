/-! ===== tried ===== -/
theorem RW.row {f g : FF} {w a : Nat} (h : RW f w a) (hw : ∀ k, k < 13 → g (w + k) = f (w + k)) (hb : ∀ k, k < 391 → g a k = f a k) : RW g w a := by
  unfold RW at h ⊢
  have h0 := hw 0 (by omega)
  rw [Nat.add_zero] at h0
  rw [h0, hw 1 (by omega), hw 2 (by omega), hw 3 (by omega), hw 4 (by omega), hw 5 (by omega), hw 6 (by omega), hw 7 (by omega), hw 8 (by omega), hw 9 (by omega), hw 10 (by omega), hw 11 (by omega), hw 12 (by omega)]
  exact h.ext (fun _ _ => rfl) (fun _ _ => rfl) (fun _ _ => rfl) (fun _ _ => rfl) (fun _ _ => rfl) (fun _ _ => rfl) (fun _ _ => rfl) (fun _ _ => rfl) (fun _ _ => rfl) (fun _ _ => rfl) (fun _ _ => rfl) (fun _ _ => rfl) (fun _ _ => rfl) hb
theorem sp_callsR {G : GC} {d : Nat} {sw : Bool} {f : FF} {Q : QQ} {w : Nat} {a : Nat → Int32} (hw : isW w) (h : RWr f w a) (hQ : Q (some (.int (nI (nCalls a)))) sw f) : XP G mX9_calls (d + 1) 0 [.ref w] [] sw f Q := by
  have hw2 := isW_lt hw
  obtain ⟨m, hm, em⟩ := set16 (fun s hs => (h.1 s hs).2.2.2.2)
  have hp := (h.RW' hw).pairs
  simp only [show ¬ w = 200 by omega, if_false, if_true] at hp
  have hc : cN 16 m = 2 * nCalls a := by
    rw [cN_cnt, ← hp]
    apply cntP_cg
    intro s hs
    rw [em, bt_nI (by omega) (by omega)]
  have := nCalls_le a
  refine bX9_calls_0 hw ?_
  rw [em]
  refine sp_bitCount hm (bX9_calls_7 hw ?_)
  rw [n_2, hc, pk_div (by omega) (by omega) (by omega), show 2 * nCalls a / 2 = nCalls a by omega]
  exact hQ
/-- the class's trial world -/
theorem trialE {sw : Bool} {f g : FF} (hR : RR sw f) (hg : CpW f g 69 43) : CEnv sw (fun m => f (lwB sw + m)) g ∧ MEnv (fun m => f (lwB sw + m)) g ∧ RWr g 69 (f 83) := by
  obtain ⟨hE, hM⟩ := hR.cenv
  obtain ⟨h1, h2, h3, h4, h5, h6, h7⟩ := id hR
  have o : ∀ c, (c < 69 ∨ 81 < c) → g c = f c := hg.1
  have hN : RN g := h2.cg (o 4 (by omega)) (o 6 (by omega)) (o 86 (by omega))
  refine ⟨⟨fun m hm => o _ (by have := lwB_in sw hm; omega), hE.2.1, hN, by rw [o 32 (by omega)]; exact hE.2.2.2.1, by rw [o 32 (by omega)]; exact hE.2.2.2.2⟩, ⟨hM.cg (by rw [o 82 (by omega)]) (fun k k1 k2 => o k (by omega)), hN⟩, ?_⟩
  have := hg.toRW (g2 := g) (b := 83) h6 (fun _ _ => rfl) (fun k hk => by rw [o 83 (by omega)])
  have := RWr.of this
  rw [o 83 (by omega)] at this
  exact this
theorem op_tried (G : GC) : OP9 G RR := by
  intro a1 a2 sw f hR
  obtain ⟨h1, h2, h3, h4, h5, h6, h7⟩ := id hR
  by_cases c1 : 1 ≤ a1 ∧ a1 ≤ 240
  · have told : ((0 ≤ (a2 - 100) ∧ (a2 - 100) ≤ 15) ∧ bitI (f 43 0) (a2 - 100)) ↔ toldM f (a2 - 100) := by
      constructor
      · intro h
        obtain ⟨s, hs, es⟩ := rng (K := 15) (by decide) h.1
        rw [es] at h ⊢
        exact (toldM_iff (by omega)).mpr ((toldC_iff h6 (by omega)).mp h)
      · intro h
        obtain ⟨s, hs, es⟩ := rng (K := 15) (by decide) h.1
        rw [es] at h ⊢
        exact (toldC_iff h6 (by omega)).mpr ((toldM_iff (by omega)).mp h)
    by_cases c2 : (0 ≤ a2 ∧ a2 ≤ 4) ∨ toldM f (a2 - 100)
    · obtain ⟨n, hn, rfl⟩ := rng (K := 240) (by decide) ⟨Int32.le_trans (by decide) c1.1, c1.2⟩
      generalize hS : runR (fun m => f (lwB sw + m)) (f 86) (f 32 3) (f 32 4) (f 83, 0, 0, 0) n = S
      have hSlo : ∀ x, x < 16 → S.1 x = f 83 x := fun x hx => by rw [← hS]; exact runR_lo hx n
      have hSV : rV S.1 := by rw [← hS]; exact runR_ok (S := (f 83, 0, 0, 0)) ((RWr.of h6).rV isW_43) n
      have ref : ∀ (g : FF) (r : Int32), (∀ c, (c < 5 ∨ c = 6 ∨ 10 < c) → (c < 32 ∨ 35 < c) → (c < 69 ∨ 81 < c) → g c = f c) → g 32 3 = f 32 3 → g 32 4 = f 32 4 → (a2 = 0 → r = S.2.1) → (a2 = 1 → r = S.2.2.1) → (a2 = 2 → r = f 83 388 - S.1 388) → (a2 = 3 → r = S.2.2.2) → (a2 = 4 → r = nI (nCalls S.1)) → (∀ s, s < 16 → a2 - 100 = nI s → r = S.1 (80 + s)) → XP G mX11_tried 999 0 [.ref 82, .int (nI n), .int a2, .null] [] sw g (fun v2 sw2 f2 => v2 = some (.int r) ∧ RR sw2 f2) := by
        intro g r og g3 g4 q0 q1 q2 q3 q4 q5
        obtain ⟨hE, hM⟩ := hR.cenv
        have g82 : g 82 = f 82 := og 82 (by omega) (by omega) (by omega)
        have g83 : g 83 = f 83 := og 83 (by omega) (by omega) (by omega)
        have g86 : g 86 = f 86 := og 86 (by omega) (by omega) (by omega)
        have main : XP G mX11_copies (991 + 7) 0 [.ref 83, .ref 84, .null] [] sw g (fun v sw' f' => XP G mX11_tried (991 + 8) 44 [.ref 82, .int (nI n), .int a2, .null] (retst v []) sw' f' (fun v2 sw2 f2 => v2 = some (.int r) ∧ RR sw2 f2)) := by
          refine sp_copies sh83 sh84 (by decide) (fun g1 o1 k1 => bX11_tried_44 (d := 991) ?_)
          have gM : MEnv (fun m => f (lwB sw + m)) g1 := ⟨hM.cg (by rw [o1 82 (by omega), g82]) (fun k q1 q2 => by rw [o1 k (by omega)]; exact og k (by omega) (by omega) (by omega)), h2.cg (by rw [o1 4 (by omega)]; exact og 4 (by omega) (by omega) (by omega)) (by rw [o1 6 (by omega)]; exact og 6 (by omega) (by omega) (by omega)) (by rw [o1 86 (by omega)]; exact g86)⟩
          refine sp_minutesGo gM (by rw [o1 83 (by omega), g83]; exact (RWr.of h6).rV isW_43) hn (fun g2 o2 R2 => ?_)
          rw [o1 86 (by omega), o1 82 (by omega), o1 83 (by omega), g82, g83, g86, h3.1, h3.2.2.1, hS] at R2
          obtain ⟨e83, d5, d6, d7⟩ := R2
          have r84 : ∀ k, k < 391 → g2 84 k = f 83 k := fun k hk => by rw [o2.1 84 (by omega) (by omega) (by omega) (by omega) (by omega), k1 k hk, g83]
          -- back
          have back : ∀ x3 : Int32, x3 = r → XP G mX11_copies (991 + 7) 0 [.ref 84, .ref 83, .null] [] sw g2 (fun v sw' f' => XP G mX11_tried (991 + 8) 161 [.ref 82, .int (nI n), .int a2, .int x3] (retst v []) sw' f' (fun v2 sw2 f2 => v2 = some (.int r) ∧ RR sw2 f2)) := by
            intro x3 hx3
            refine sp_copies sh84 sh83 (by decide) (fun g5 o5 k5 => bX11_tried_161 (d := 991) ⟨by rw [hx3], ?_⟩)
            have o15 : ∀ c, c ≠ 82 → c ≠ 83 → c ≠ 84 → (c < 87 ∨ 89 < c) → c ≠ 102 → c ≠ 103 → g5 c = g c := fun c q1 q2 q3 q4 q5 q6 => by rw [o5 c q2, o2.1 c q1 q2 q4 q5 q6]; exact o1 c q3
            refine hR.run (fun c p1 p2 p3 p4 p5 p6 p7 p8 p9 p10 => by rw [o15 c p5 p6 p7 p8 p9 p10]; exact og c p1 p2 p4) ?_ ?_ (fun j hj => ?_) (h6.row (fun k hk => ?_) (fun k hk => ?_))
            · rw [o15 32 (by omega) (by omega) (by omega) (by omega) (by omega) (by omega)]; exact g3
            · rw [o15 32 (by omega) (by omega) (by omega) (by omega) (by omega) (by omega)]; exact g4
            · rw [o5 82 (by omega), o2.2 j hj, o1 82 (by omega), g82]
            · rw [o15 _ (by omega) (by omega) (by omega) (by omega) (by omega) (by omega)]; exact og _ (by omega) (by omega) (by omega)
            · rw [k5 k hk, r84 k hk]
          refine bX11_tried_49 (d := 991) (fun z => back _ (by rw [d5, q0 z])) (fun z => back _ (by rw [d6, q1 z])) (fun z => back _ (by rw [r84 388 (by omega), e83, q2 z])) (fun z => back _ (by rw [d7, q3 z])) (fun z => ?_) (fun z0 z1 z2 z3 z4 => ?_) (fun z0 z1 z2 z3 z4 => back _ ?_)
          · refine sp_callsNow (by rw [e83]; exact hSV.1) (bX11_tried_133 (d := 991) (back _ (by rw [e83, q4 z])))
          · have ht : toldM f (a2 - 100) := by
              rcases c2 with y | y
              · obtain ⟨m, hm, em⟩ := rng (K := 4) (by decide) y
                rcases (by omega : m = 0 ∨ m = 1 ∨ m = 2 ∨ m = 3 ∨ m = 4) with rfl | rfl | rfl | rfl | rfl
                · exact absurd em z0
                · exact absurd em z1
                · exact absurd em z2
                · exact absurd em z3
                · exact absurd em z4
              · exact y
            obtain ⟨s, hs, es⟩ := rng (K := 15) (by decide) ht.1
            have e80 : (80 : Int32) + a2 - 100 = nI (80 + s) := by
              have : (80 : Int32) + a2 - 100 = 80 + (a2 - 100) := by
                rw [Int32.sub_eq_add_neg, Int32.sub_eq_add_neg, Int32.add_assoc]
              rw [this, es, n_80, nI_add]
            rw [e80]
            exact vp_in_nI (by omega) (by omega)
          · have ht : toldM f (a2 - 100) := by
              rcases c2 with y | y
              · obtain ⟨m, hm, em⟩ := rng (K := 4) (by decide) y
                rcases (by omega : m = 0 ∨ m = 1 ∨ m = 2 ∨ m = 3 ∨ m = 4) with rfl | rfl | rfl | rfl | rfl
                · exact absurd em z0
                · exact absurd em z1
                · exact absurd em z2
                · exact absurd em z3
                · exact absurd em z4
              · exact y
            obtain ⟨s, hs, es⟩ := rng (K := 15) (by decide) ht.1
            have e80 : (80 : Int32) + a2 - 100 = nI (80 + s) := by
              have : (80 : Int32) + a2 - 100 = 80 + (a2 - 100) := by
                rw [Int32.sub_eq_add_neg, Int32.sub_eq_add_neg, Int32.add_assoc]
              rw [this, es, n_80, nI_add]
            rw [e80, nI_clamp (by omega), e83]
            exact (q5 s (by omega) es).symm
        have tg : toldM g (a2 - 100) ↔ toldM f (a2 - 100) := by unfold toldM; rw [g83]
        exact bX11_tried_0 (d := 991) (fun h => absurd c1 h) (fun _ _ => main) (fun _ _ _ => main) (fun _ n1 n2 => absurd c2 (fun z => z.elim n1 (fun y => n2 (tg.mpr y))))
      -- the class
      have main : ∀ x3 : Int32, XP G mX9_copyFrom (992 + 6) 0 [.ref 69, .ref 43] [] sw f (fun v sw' f' => XP G mX10_tried (992 + 7) 49 [.ref 0, .int (nI n), .int a2, .int x3] (retst v []) sw' f' (fun v sw1 f1 => ∃ r : Int32, v = some (.int r) ∧ XP G mX11_tried 999 0 [.ref 82, .int (nI n), .int a2, .null] [] sw1 f1 (fun v2 sw2 f2 => v2 = some (.int r) ∧ RR sw2 f2))) := by
        intro x3
        refine sp_copy_69_43 (fun g0 hg0 => bX10_tried_49 (d := 992) ?_)
        obtain ⟨hE, hM, HW⟩ := trialE hR hg0
        have o0 : ∀ c, (c < 69 ∨ 81 < c) → g0 c = f c := hg0.1
        refine sp_run isW_69 hE HW hn (fun g og Rg => ?_)
        rw [o0 86 (by omega), o0 32 (by omega), hS] at Rg
        obtain ⟨HG, c5, c6, c7⟩ := Rg
        have gf : ∀ c, (c < 5 ∨ c = 6 ∨ 10 < c) → (c < 32 ∨ 35 < c) → (c < 69 ∨ 81 < c) → g c = f c := fun c p1 p2 p3 => by rw [og.1 c p1 p2 p3]; exact o0 c p3
        have g3 : g 32 3 = f 32 3 := by rw [og.2.1, o0 32 (by omega)]
        have g4 : g 32 4 = f 32 4 := by rw [og.2.2, o0 32 (by omega)]
        have e5 : g 43 5 = f 83 388 := by rw [gf 43 (by omega) (by omega) (by omega)]; exact h6.2.2.2.2.2.1
        have e695 : g 69 5 = S.1 388 := HG.2.2.2.2.2.1
        have num : ∀ s, s < 16 → a2 - 100 = nI s → (a2 = 0 ∨ a2 = 1 ∨ a2 = 2 ∨ a2 = 3 ∨ a2 = 4) → False := by
          intro s hs es hz
          have t := congrArg Int32.toInt es
          rw [nI_toInt (by omega)] at t
          rcases hz with rfl | rfl | rfl | rfl | rfl
          · exact absurd t (by rw [show ((0 : Int32) - 100).toInt = -100 from rfl]; omega)
          · exact absurd t (by rw [show ((1 : Int32) - 100).toInt = -99 from rfl]; omega)
          · exact absurd t (by rw [show ((2 : Int32) - 100).toInt = -98 from rfl]; omega)
          · exact absurd t (by rw [show ((3 : Int32) - 100).toInt = -97 from rfl]; omega)
          · exact absurd t (by rw [show ((4 : Int32) - 100).toInt = -96 from rfl]; omega)
        refine bX10_tried_61 (d := 992) (fun z => ⟨_, rfl, ref g _ gf g3 g4 (fun _ => c5) (fun y => ?_) (fun y => ?_) (fun y => ?_) (fun y => ?_) (fun s hs es => absurd (num s hs es (by rw [z]; simp)) id)⟩) (fun z => ⟨_, rfl, ref g _ gf g3 g4 (fun y => ?_) (fun _ => c6) (fun y => ?_) (fun y => ?_) (fun y => ?_) (fun s hs es => absurd (num s hs es (by rw [z]; simp)) id)⟩) (fun z => ⟨_, rfl, ref g _ gf g3 g4 (fun y => ?_) (fun y => ?_) (fun _ => by rw [e5, e695]) (fun y => ?_) (fun y => ?_) (fun s hs es => absurd (num s hs es (by rw [z]; simp)) id)⟩) (fun z => ⟨_, rfl, ref g _ gf g3 g4 (fun y => ?_) (fun y => ?_) (fun y => ?_) (fun _ => c7) (fun y => ?_) (fun s hs es => absurd (num s hs es (by rw [z]; simp)) id)⟩) (fun z => sp_callsR isW_69 HG (bX10_tried_143 (d := 992) ⟨_, rfl, ref g _ gf g3 g4 (fun y => ?_) (fun y => ?_) (fun y => ?_) (fun y => ?_) (fun _ => rfl) (fun s hs es => absurd (num s hs es (by rw [z]; simp)) id)⟩)) (fun z0 z1 z2 z3 z4 => ?_)
        all_goals first | (exact absurd (z.symm.trans y) (by decide)) | skip
        have ht : toldM f (a2 - 100) := by
          rcases c2 with y | y
          · obtain ⟨m, hm, em⟩ := rng (K := 4) (by decide) y
            rcases (by omega : m = 0 ∨ m = 1 ∨ m = 2 ∨ m = 3 ∨ m = 4) with rfl | rfl | rfl | rfl | rfl
            · exact absurd em z0
            · exact absurd em z1
            · exact absurd em z2
            · exact absurd em z3
            · exact absurd em z4
          · exact y
        obtain ⟨s, hs, es⟩ := rng (K := 15) (by decide) ht.1
        have ts : f 83 s = 1 := by rw [es] at ht; exact (toldM_iff (by omega)).mp ht
        have tS : S.1 s = 1 := by rw [hSlo s (by omega)]; exact ts
        obtain ⟨r0, r1, r2, r3, r4, r5⟩ := HG.2.1 s (by omega)
        obtain ⟨m1, m2, m3, m4, m5, m6, m7, m8, m9, m10, m11⟩ := r5 tS
        have tb : (0 ≤ a2 - 100 ∧ a2 - 100 ≤ 15) ∧ bitI (g 69 0) (a2 - 100) := ⟨ht.1, by rw [es]; exact (bitI_bt (by omega)).mpr (r1.mpr tS)⟩
        refine bX9_arrearsOf_0 (d := 996) isW_69 (fun h => absurd tb h) (fun _ => by rw [es]; exact vp_in_nI (by omega) (by omega)) (fun _ => bX10_tried_155 (d := 992) ⟨_, rfl, ref g _ gf g3 g4 (fun y => absurd y z0) (fun y => absurd y z1) (fun y => absurd y z2) (fun y => absurd y z3) (fun y => absurd y z4) (fun s' hs' es' => ?_)⟩)
        have : s' = s := (nI_eq (by omega) (by omega)).mp (es'.symm.trans es)
        subst this
        rw [es, nI_clamp (by omega)]
        exact m6
      exact bX10_tried_0 (d := 992) (fun h => absurd c1 h) (fun _ _ => main _) (fun _ _ _ => main _) (fun _ n1 n2 => absurd c2 (fun z => z.elim n1 (fun y => n2 (told.mpr y))))
    · have n1 : ¬ (0 ≤ a2 ∧ a2 ≤ 4) := fun h => c2 (Or.inl h)
      have n2 : ¬ toldM f (a2 - 100) := fun h => c2 (Or.inr h)
      exact bX10_tried_0 (d := 992) (fun h => absurd c1 h) (fun _ h => absurd h n1) (fun _ _ h => absurd (told.mp h) n2) (fun _ _ _ => ⟨_, rfl, bX11_tried_0 (d := 991) (fun h => absurd c1 h) (fun _ h => absurd h n1) (fun _ _ h => absurd h n2) (fun _ _ _ => ⟨rfl, hR⟩)⟩)
  · exact bX10_tried_0 (d := 992) (fun _ => ⟨_, rfl, bX11_tried_0 (d := 991) (fun _ => ⟨rfl, hR⟩) (fun h => absurd h c1) (fun h => absurd h c1) (fun h => absurd h c1)⟩) (fun h => absurd h c1) (fun h => absurd h c1) (fun h => absurd h c1)
