/-! ===== law ===== -/
theorem op_lawF {G : GC} (hF : RFB G) : OP5 G RR := by
  intro a1 sw f hR
  obtain ⟨h1, h2, h3, h4, h5, h6, h7⟩ := id hR
  by_cases c1 : 1 ≤ a1 ∧ a1 ≤ 240
  · obtain ⟨n, hn, rfl⟩ := rng (K := 240) (by decide) ⟨Int32.le_trans (by decide) c1.1, c1.2⟩
    refine bX10_law_0 (d := 993) (fun h => absurd c1 h) (fun _ => sp_take (by omega) h1 (fun hle g0 s0 tk o0 p0 => ?_) (fun hnl => ?_))
    · -- enough bytes
      obtain ⟨t1, t2, t3, t4⟩ := tk
      have q := lwR_or sw
      have ht : TX g0 n := ⟨t1, by omega, t4⟩
      have b90 : ∀ j : Nat, (f 90 j).toInt8.toInt32 = f 90 j := h1.2.2.2
      refine bX10_law_19 (d := 993) (fun _ => bX2_readLaw_0 (d := 992) ?_) (fun h => absurd h (by decide))
      have o1 : COQ sw g0 (upd2 (upd2 g0 (lwR sw) 0 0) (lwR sw) 1 0) := ((COQ.rf sw g0).up (by omega)).up (by omega)
      have z1 : (upd2 (upd2 g0 (lwR sw) 0 0) (lwR sw) 1 0) (lwR sw) 1 = nI 0 := by rw [upd2_self, pk_us]; rfl
      have z3 : (upd2 (upd2 g0 (lwR sw) 0 0) (lwR sw) 1 0) 1 3 = nI 0 := by rw [upd2_ne _ _ _ (by omega), upd2_ne _ _ _ (by omega)]; exact p0
      generalize upd2 (upd2 g0 (lwR sw) 0 0) (lwR sw) 1 0 = f1 at o1 z1 z3 ⊢
      obtain ⟨ht1, e901⟩ := ht.oq o1
      have e90 : f1 90 = f 90 := e901.trans (o0 90 (by omega))
      obtain ⟨S0, sp, sk, ss, sg5, sg6⟩ : ∃ S0 : St, S0.p = 0 ∧ S0.k = 0 ∧ S0.su = f 91 ∧ S0.sg = f1 (lwR sw + 5) ∧ S0.wt = f1 (lwR sw + 6) := ⟨(0, 0, f1 (lwR sw + 5), f1 (lwR sw + 6), f 91, fun _ => 0, fun _ => false), rfl, rfl, rfl, rfl, rfl⟩
      obtain ⟨L0, l1, l2, l3, l4⟩ : ∃ L0 : LLs, L0.1 = f1 (lwR sw + 1) ∧ L0.2.1 = f1 (lwR sw + 2) ∧ L0.2.2.1 = f1 (lwR sw + 3) ∧ L0.2.2.2 = f1 (lwR sw + 4) := ⟨(f1 (lwR sw + 1), f1 (lwR sw + 2), f1 (lwR sw + 3), f1 (lwR sw + 4)), rfl, rfl, rfl, rfl⟩
      have hc : CLV f1 sw S0 L0 := ⟨⟨COL.rf sw f1, by rw [sp]; exact z3, by rw [sk]; exact z1, sg5.symm, sg6.symm⟩, l1.symm, l2.symm, l3.symm, l4.symm⟩
      obtain ⟨r, hr⟩ := LWz.ex (t := f1 90) (n := n) 17 0 S0 L0 rfl (by omega) (by omega) (by omega)
      obtain ⟨r2, hr2, rE, rO⟩ := hr.sw 17 0 S0 L0 (f 93, f 94, f 95, f 96) (fun j hj => by omega)
      rw [e90] at hr2
      -- the reference
      have ref : ∀ (sw1 : Bool) (g : FF) (a : Int32), COQ sw f1 g → (∀ e, r = .error e → a = e ∧ sw1 = sw) → (∀ S' L' k, r = .ok (S', L', k) → a = nI k ∧ sw1 = !sw ∧ CLV g sw S' L' ∧ g (lwR sw) 0 = nI k) → XP G mX11_law 999 0 [.ref 82, .int (nI n), .null, .null] [] sw1 g (fun v2 sw2 f2 => v2 = some (.int a) ∧ RR sw2 f2) := by
        intro sw1 g a og qE qO
        have oc : ∀ c, c ≠ 1 → ¬ (25 ≤ c ∧ c ≤ 31) → ¬ (36 ≤ c ∧ c ≤ 42) → g c = f c := fun c k1 k2 k3 => by rw [og.1 c k1 (by omega), o1.1 c k1 (by omega)]; exact o0 c k1
        have g11 : g 1 1 = 0 := by rw [og.2 1 (by omega), o1.2 1 (by omega)]; exact t3
        have g82 : g 82 = f 82 := oc 82 (by omega) (by omega) (by omega)
        have gle : nI n ≤ g 82 10 := by rw [g82, h1.2.1]; exact hle
        refine bX11_law_0 (d := 991) (fun h => absurd c1 h) (fun _ _ => bX11_beginsText_0 (bX11_law_26 (d := 991) ?_)) (fun _ h => absurd gle h)
        have y11 : (upd2 (upd2 (upd2 (upd2 g 82 11 0) 82 12 (nI n)) 82 16 0) 82 18 0) 82 11 = nI 0 := by rw [upd2_self, pk_un (by omega), upd2_self, pk_un (by omega), upd2_self, pk_un (by omega), upd2_self, pk_us]; rfl
        have y12 : (upd2 (upd2 (upd2 (upd2 g 82 11 0) 82 12 (nI n)) 82 16 0) 82 18 0) 82 12 = nI n := by rw [upd2_self, pk_un (by omega), upd2_self, pk_un (by omega), upd2_self, pk_us]
        have y16 : (upd2 (upd2 (upd2 (upd2 g 82 11 0) 82 12 (nI n)) 82 16 0) 82 18 0) 82 16 = nI 0 := by rw [upd2_self, pk_un (by omega), upd2_self, pk_us]; rfl
        have y18 : (upd2 (upd2 (upd2 (upd2 g 82 11 0) 82 12 (nI n)) 82 16 0) 82 18 0) 82 18 = nI 0 := by rw [upd2_self, pk_us]; rfl
        have yc : ∀ c, c ≠ 82 → (upd2 (upd2 (upd2 (upd2 g 82 11 0) 82 12 (nI n)) 82 16 0) 82 18 0) c = g c := fun c k => by rw [upd2_ne _ _ _ k, upd2_ne _ _ _ k, upd2_ne _ _ _ k, upd2_ne _ _ _ k]
        have yj : ∀ j, (j < 10 ∨ 18 < j) → (upd2 (upd2 (upd2 (upd2 g 82 11 0) 82 12 (nI n)) 82 16 0) 82 18 0) 82 j = f 82 j := fun j k => by rw [upd2_self, pk_un (by omega), upd2_self, pk_un (by omega), upd2_self, pk_un (by omega), upd2_self, pk_un (by omega), g82]
        generalize upd2 (upd2 (upd2 (upd2 g 82 11 0) 82 12 (nI n)) 82 16 0) 82 18 0 = b at y11 y12 y16 y18 yc yj ⊢
        have bc : ∀ c, c ≠ 1 → ¬ (25 ≤ c ∧ c ≤ 31) → ¬ (36 ≤ c ∧ c ≤ 42) → c ≠ 82 → b c = f c := fun c k1 k2 k3 k4 => by rw [yc c k4]; exact oc c k1 k2 k3
        have hv : RLV b S0 (f 93, f 94, f 95, f 96) 0 := ⟨by rw [sp]; exact y11, by rw [sk]; exact y16, by rw [ss]; exact bc 91 (by omega) (by omega) (by omega) (by omega), bc 93 (by omega) (by omega) (by omega) (by omega), bc 94 (by omega) (by omega) (by omega) (by omega), bc 95 (by omega) (by omega) (by omega) (by omega), bc 96 (by omega) (by omega) (by omega) (by omega), y18⟩
        have hb : LWz (b 90) n 17 0 S0 (f 93, f 94, f 95, f 96) r2 := by rw [bc 90 (by omega) (by omega) (by omega) (by omega)]; exact hr2
        refine LWz.ref (d := 991) (v3 := .null) hn 17 0 S0 _ b _ rfl (by omega) y12 hb hv (by omega) (by omega) (fun e he g' o' => ?_) (fun S' L2 k he g' o' hv' => ?_) (fun g3 h3 => bX11_law_30 (d := 991) h3) (fun g3 h3 => bX11_law_30 (d := 991) h3)
        · -- a fault
          cases r with
          | ok w =>
            obtain ⟨S', L', k⟩ := w
            obtain ⟨L2, x1, _⟩ := rO S' L' k rfl
            exact absurd (x1.symm.trans he) (by simp)
          | error e0 =>
            have x1 := Except.error.inj ((rE e0 rfl).symm.trans he)
            obtain ⟨y1, y2⟩ := qE e0 rfl
            subst y2
            refine ⟨by rw [y1, x1], ?_⟩
            have gc : ∀ c, c ≠ 1 → ¬ (lwR sw1 ≤ c ∧ c ≤ lwR sw1 + 6) → c ≠ 82 → ¬ (91 ≤ c ∧ c ≤ 96) → upd2 g' 82 10 0 c = f c := fun c k1 k2 k4 k5 => by rw [upd2_ne _ _ _ k4, o'.1 c k4 k5, yc c k4, og.1 c k1 k2, o1.1 c k1 k2]; exact o0 c k1
            have gj : ∀ j, (j < 10 ∨ 18 < j) → upd2 g' 82 10 0 82 j = f 82 j := fun j k => by rw [upd2_self, pk_un (by omega), o'.2 j (by omega) (by omega) (by omega) (by omega) (by omega) (by omega) (by omega)]; exact yj j k
            refine hR.law (fun c k1 k2 k3 k4 k5 => gc c k1 (by omega) k4 (by omega)) (fun j k => gj j (by omega)) (h5.cg (fun k hk => gc _ (by have := lwB_in sw1 hk; omega) (by unfold lwR lwB; cases sw1 <;> simp <;> omega) (by have := lwB_in sw1 hk; omega) (by have := lwB_in sw1 hk; omega)) (gj 19 (by omega)) (fun k k1 k2 => gc k (by omega) (by omega) (by omega) (by omega))) (RT_empty ?_ ?_ (fun j => ?_))
            · rw [upd2_ne _ _ _ (by omega), o'.1 1 (by omega) (by omega), yc 1 (by omega)]; exact g11
            · rw [upd2_self, pk_us]
            · rw [gc 90 (by omega) (by omega) (by omega) (by omega)]; exact b90 j
        · -- a law
          cases r with
          | error e0 => exact absurd ((rE e0 rfl).symm.trans he) (by simp)
          | ok w =>
            obtain ⟨S1, L1, k1⟩ := w
            obtain ⟨L2', x1, x2⟩ := rO S1 L1 k1 rfl
            have x3 := Except.ok.inj (x1.symm.trans he)
            have x4 : S1 = S' := congrArg Prod.fst x3
            have x5 : L2' = L2 := congrArg (fun x => x.2.1) x3
            have x6 : k1 = k := congrArg (fun x => x.2.2) x3
            subst x4 x5 x6
            obtain ⟨y1, y2, y3, y4⟩ := qO S1 L1 k1 rfl
            subst y2
            obtain ⟨w1, w2, w3, w4⟩ := hr.re hn 17 0 S0 L0 (by omega) (by omega) (fun j hj => by omega)
            have e19 : (upd2 (upd2 g' 82 10 0) 82 19 ((upd2 g' 82 10 0) 82 18)) 82 19 = nI k1 := by rw [upd2_self, pk_us, upd2_self, pk_un (by omega)]; exact hv'.2.2.2.2.2.2.2
            have e16 : (upd2 (upd2 g' 82 10 0) 82 19 ((upd2 g' 82 10 0) 82 18)) 82 16 = nI S1.k := by rw [upd2_self, pk_un (by omega), upd2_self, pk_un (by omega)]; exact hv'.2.1
            have e18 : (upd2 (upd2 g' 82 10 0) 82 19 ((upd2 g' 82 10 0) 82 18)) 82 18 = nI k1 := by rw [upd2_self, pk_un (by omega), upd2_self, pk_un (by omega)]; exact hv'.2.2.2.2.2.2.2
            have e10 : (upd2 (upd2 g' 82 10 0) 82 19 ((upd2 g' 82 10 0) 82 18)) 82 10 = 0 := by rw [upd2_self, pk_un (by omega), upd2_self, pk_us]
            have ej : ∀ j, (j < 10 ∨ 19 < j) → (upd2 (upd2 g' 82 10 0) 82 19 ((upd2 g' 82 10 0) 82 18)) 82 j = f 82 j := fun j k => by rw [upd2_self, pk_un (by omega), upd2_self, pk_un (by omega), o'.2 j (by omega) (by omega) (by omega) (by omega) (by omega) (by omega) (by omega)]; exact yj j (by omega)
            have ec : ∀ c, c ≠ 82 → (upd2 (upd2 g' 82 10 0) 82 19 ((upd2 g' 82 10 0) 82 18)) c = g' c := fun c k => by rw [upd2_ne _ _ _ k, upd2_ne _ _ _ k]
            generalize upd2 (upd2 g' 82 10 0) 82 19 ((upd2 g' 82 10 0) 82 18) = u at e19 e16 e18 e10 ej ec ⊢
            refine rt_copies (d := 991) w3 w2 e16 e18 (fun g2 p1 p2 p3 => ⟨by rw [y1], ?_⟩)
            have pg : ∀ c, c ≠ 82 → ¬ (91 ≤ c ∧ c ≤ 101) → g2 c = g c := fun c k1 k2 => by rw [p1 c (by omega), ec c k1, o'.1 c k1 (by omega)]; exact yc c k1
            have eB : lwB (!sw) = lwR sw := by cases sw <;> rfl
            have h82 : g2 82 = u 82 := p1 82 (by omega)
            refine hR.law (fun c k1 k2 k3 k4 k5 => by rw [pg c k4 k5]; exact oc c k1 k2 k3) (fun j k => by rw [h82]; exact ej j k) ?_ (RT_empty ?_ ?_ (fun j => ?_))
            · unfold RLw
              rw [eB]
              have c0 := pg (lwR sw) (by omega) (by omega)
              have c1 := pg (lwR sw + 1) (by omega) (by omega)
              have c2 := pg (lwR sw + 2) (by omega) (by omega)
              have c3 := pg (lwR sw + 3) (by omega) (by omega)
              have c4 := pg (lwR sw + 4) (by omega) (by omega)
              have c5 := pg (lwR sw + 5) (by omega) (by omega)
              have c6 := pg (lwR sw + 6) (by omega) (by omega)
              rw [c0, c1, c2, c3, c4, c5, c6, y3.2.1, y3.2.2.1, y3.2.2.2.1, y3.2.2.2.2, y3.1.2.2.2.1, y3.1.2.2.2.2]
              refine ⟨by rw [y4, h82, e19], by rw [y4]; exact nI_isN w2 (by omega), fun i hi => ?_⟩
              rw [y4, nI_toInt (by omega)] at hi
              have hi2 : i < k1 := by omega
              obtain ⟨m1, m2, m3, m4⟩ := p3 i hi2
              obtain ⟨a1, a2, a3, a4⟩ := x2 i hi2
              rw [ec 93 (by omega), hv'.2.2.2.1] at m1
              rw [ec 94 (by omega), hv'.2.2.2.2.1] at m2
              rw [ec 95 (by omega), hv'.2.2.2.2.2.1] at m3
              rw [ec 96 (by omega), hv'.2.2.2.2.2.2.1] at m4
              obtain ⟨v, c, e, r1, r2', r3, r4, r5, r6, r7, r8, r9, r10⟩ := w4 i hi2
              refine ⟨(m1.trans a1).symm, (m2.trans a2).symm, (m3.trans a3).symm, (m4.trans a4).symm, v, c, e, r1, r2', by omega, r4, r5, r6, fun t k1' k2' => ?_, r8, r9, r10⟩
              rw [p2 t (by omega), ec 91 (by omega), hv'.2.2.1]
              exact r7 t k1' k2'
            · rw [pg 1 (by omega) (by omega)]; exact g11
            · rw [h82]; exact e10
            · rw [pg 90 (by omega) (by omega), oc 90 (by omega) (by omega) (by omega)]; exact b90 j
      -- the class
      refine LWz.cls (d := 992) hF hn (by omega) 17 0 S0 L0 f1 rfl (by omega) ht1 hr hc (by omega) (by omega) (fun e he g og => ?_) (fun S' L' k he g og hg h0 => ?_)
      · have hneg : e ≤ 0 := by subst he; exact hr.neg hn 17 0 S0 L0 (by omega) (by omega)
        refine bX10_law_31 (d := 993) (fun _ => ⟨_, rfl, ref sw g e og (fun e' he' => ⟨?_, rfl⟩) (fun S' L' k hk => absurd (he.symm.trans hk) (by simp))⟩) (fun z => absurd hneg z)
        exact Except.error.inj (he.symm.trans he')
      · have hk1 : 1 ≤ k ∧ k ≤ 16 := by subst he; have := hr.re hn 17 0 S0 L0 (by omega) (by omega) (fun j hj => by omega); exact ⟨this.1, this.2.1⟩
        have np : ¬ nI k ≤ 0 := nI_nle (by omega) (by omega)
        refine bX10_law_31 (d := 993) (fun z => absurd z np) (fun _ => ⟨_, rfl, ref (!sw) g _ og (fun e' he' => absurd (he.symm.trans he') (by simp)) (fun S2 L2 k2 hk => ?_)⟩)
        have x3 := Except.ok.inj (he.symm.trans hk)
        have x4 : S' = S2 := congrArg Prod.fst x3
        have x5 : L' = L2 := congrArg (fun x => x.2.1) x3
        have x6 : k = k2 := congrArg (fun x => x.2.2) x3
        subst x4 x5 x6
        exact ⟨rfl, rfl, hg, h0⟩
    · -- too few
      have gle : ¬ nI n ≤ f 82 10 := by rw [h1.2.1]; exact hnl
      exact bX10_law_19 (d := 993) (fun h => absurd rfl h) (fun _ => ⟨_, rfl, bX11_law_0 (d := 991) (fun h => absurd c1 h) (fun _ h => absurd h gle) (fun _ _ => ⟨rfl, hR⟩)⟩)
  · exact bX10_law_0 (d := 993) (fun _ => ⟨_, rfl, bX11_law_0 (d := 991) (fun _ => ⟨rfl, hR⟩) (fun h => absurd h c1) (fun h => absurd h c1)⟩) (fun h => absurd h c1)
