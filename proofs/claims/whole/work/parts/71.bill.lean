/-! ===== bill ===== -/
theorem apR_ok {a : Nat → Int32} {l : BL} (h : rOk a) (hl : l.1 < 16 ∨ l.1 = 16) : rOk (apR a l) := by
  have up : ∀ (k : Nat) (x : Int32), (k < 128 ∨ 228 ≤ k) → rOk (upd a k x) := fun k x hk i hi => by
    rw [pk_un (by omega), pk_un (by omega), pk_un (by omega), pk_un (by omega)]; exact h i hi
  unfold apR
  repeat' split
  · exact up _ _ (by omega)
  · exact (up _ _ (by omega)).ends _
  · exact up _ _ (by omega)
  · exact up _ _ (by omega)
  · exact up _ _ (by omega)
  · exact up _ _ (by omega)
  · exact up _ _ (by omega)
theorem linesR_er {t : Nat → Int32} {n : Nat} {a : Nat → Int32} (hn : n ≤ 260) : ∀ (l i p : Nat) (e : Int32), i + l = 21 → i ≤ 20 → p ≤ n → linesR t n a l i p = .error e → e ≤ 0 := by
  intro l
  induction l with
  | zero => intro i p e h1 h2; omega
  | succ l ih =>
    intro i p e h1 h2 hp h
    unfold linesR at h
    cases hl : lineP t n a i p with
    | error e2 => rw [hl] at h; have := Except.error.inj h; subst this; exact lineP_er (by omega) hl
    | ok r =>
      rw [hl] at h
      have h : (if tx t n r.1 = -1 then Except.ok [r.2] else if tx t n r.1 = 59 then (match linesR t n a l (i + 1) (r.1 + 1) with | .error e => .error e | .ok L => .ok (r.2 :: L)) else .error (er 1 r.1)) = Except.error e := h
      have hi : i < 20 ∧ r.1 ≤ n := by
        unfold lineP at hl
        cases hw : whoP t n a i p with
        | error e => rw [hw] at hl; exact absurd hl (by simp)
        | ok s =>
          rw [hw] at hl
          have w := whoP_ok hw
          refine ⟨w.1, ?_⟩
          have hl : whatP t n (p + 1) s = .ok r := hl
          unfold whatP at hl
          by_cases c1 : tx t n (p + 1) = 43 ∨ tx t n (p + 1) = 45
          · rw [if_pos c1] at hl
            have hlt : p + 1 < n := by
              refine tx_in (c := tx t n (p + 1)) rfl ?_
              rcases c1 with z | z <;> rw [z] <;> decide
            cases hr : numR t n (p + 1 + 1) with
            | error e2 => rw [hr] at hl; exact absurd hl (by simp)
            | ok q =>
              rw [hr] at hl
              have := Except.ok.inj hl; subst this
              show q.1 ≤ n
              have key : ∀ (r k : Nat), p + 1 + 1 + k ≤ n → numL t n (p + 1 + 1) r k = .ok q → q.1 ≤ n := by
                intro r
                induction r with
                | zero =>
                  intro k hk hq
                  unfold numL at hq
                  split at hq
                  · exact absurd hq (by simp)
                  · have := Except.ok.inj hq; rw [← this]; exact hk
                | succ r ih =>
                  intro k hk hq
                  unfold numL at hq
                  split at hq
                  · rename_i hd
                    have := dg_in hd
                    exact ih (k + 1) (by omega) hq
                  · have := Except.ok.inj hq; rw [← this]; exact hk
              unfold numR at hr
              split at hr
              · exact key 5 0 (by omega) hr
              · exact absurd hr (by simp)
          · rw [if_neg c1] at hl
            by_cases c2 : isFl5 (tx t n (p + 1)) ∧ s ≠ 16
            · rw [if_pos c2] at hl
              have := Except.ok.inj hl; subst this
              show p + 1 + 1 ≤ n
              refine tx_in (c := tx t n (p + 1)) rfl ?_
              rcases c2.1 with z | z | z | z | z <;> rw [z] <;> decide
            · rw [if_neg c2] at hl; exact absurd hl (by simp)
      by_cases c1 : tx t n r.1 = -1
      · rw [if_pos c1] at h; exact absurd h (by simp)
      · rw [if_neg c1] at h
        by_cases c2 : tx t n r.1 = 59
        · rw [if_pos c2] at h
          have := tx_in c2 (by decide)
          cases hr : linesR t n a l (i + 1) (r.1 + 1) with
          | error e2 => rw [hr] at h; have := Except.error.inj h; subst this; exact ih (i + 1) (r.1 + 1) e2 (by omega) (by omega) (by omega) hr
          | ok L2 => rw [hr] at h; exact absurd h (by simp)
        · rw [if_neg c2] at h
          have := Except.error.inj h; subst this
          exact er_neg (by omega) (by omega) (by omega)
theorem RR.bill {sw : Bool} {f g : FF} (hR : RR sw f) (o : ∀ c, c ≠ 1 → (c < 20 ∨ 23 < c) → (c < 43 ∨ 55 < c) → c ≠ 82 → c ≠ 83 → c ≠ 84 → g c = f c) (o82 : ∀ j, (j < 10 ∨ (18 < j ∧ j ≠ 33)) → g 82 j = f 82 j) (hW : RW g 43 83) (hT : RT g) : RR sw g := by
  obtain ⟨h1, h2, h3, h4, h5, h6, h7⟩ := hR
  have oo : ∀ c, ((2 ≤ c ∧ c < 20) ∨ c = 0 ∨ (23 < c ∧ c < 43) ∨ (55 < c ∧ c < 82) ∨ 84 < c) → g c = f c := fun c hc => o c (by omega) (by omega) (by omega) (by omega) (by omega) (by omega)
  refine ⟨hT, h2.cg (oo 4 (by omega)) (oo 6 (by omega)) (oo 86 (by omega)), h3.cg (o82 4 (by omega)) (o82 5 (by omega)) (by rw [oo 32 (by omega)]) (by rw [oo 32 (by omega)]), h4.cg (oo 12 (by omega)) (fun e _ => by rw [oo 13 (by omega)]) (oo 112 (by omega)) (oo 113 (by omega)), h5.cg (fun k hk => oo _ (by have := lwB_in sw hk; omega)) (o82 19 (by omega)) (fun k k1 k2 => oo k (by omega)), hW, h7.cg (o82 47 (by omega)) (by rw [oo 0 (by omega)]) (fun k hk => oo _ (by omega)) (oo 85 (by omega))⟩
theorem op_bill (G : GC) : OP6 G RR := by
  intro a1 sw f hR
  obtain ⟨h1, h2, h3, h4, h5, h6, h7⟩ := id hR
  by_cases c1 : 1 ≤ a1 ∧ a1 ≤ 120
  · obtain ⟨n, hn, rfl⟩ := rng (K := 120) (by decide) ⟨Int32.le_trans (by decide) c1.1, c1.2⟩
    have hn1 : 1 ≤ n := by
      have := c1.1
      rw [n_1, nI_leI (by omega) (by omega)] at this
      exact this
    refine bX10_bill_0 (d := 993) (fun h => absurd c1 h) (fun _ => sp_take (by omega) h1 (fun hle g0 s0 tk o0 p0 => ?_) (fun hnl => ?_))
    · -- enough bytes
      obtain ⟨t1, t2, t3, t4⟩ := tk
      have ht : TX g0 n := ⟨t1, by omega, t4⟩
      have g90 : g0 90 = f 90 := o0 90 (by omega)
      have hmk : ∀ s, s < 16 → (bt (g0 43 0) s = true ↔ f 83 s = 1) := fun s hs => by rw [o0 43 (by omega)]; exact (h6.2.1 s hs).2.1
      have b90 : ∀ j : Nat, (f 90 j).toInt8.toInt32 = f 90 j := h1.2.2.2
      -- the reference
      have ref : ∀ (g : FF) (r : Int32), (∀ c, c ≠ 1 → (c < 20 ∨ 23 < c) → (c < 43 ∨ 55 < c) → g c = f c) → g 1 1 = 0 → (∀ e, linesR (f 90) n (f 83) 21 0 0 = .error e → r = e ∧ ∀ k, k < 13 → g (43 + k) = f (43 + k)) → (∀ L, linesR (f 90) n (f 83) 21 0 0 = .ok L → r = nI L.length ∧ RWr g 43 (apL (f 83) L)) → XP G mX11_bill 999 0 [.ref 82, .int (nI n), .null] [] sw g (fun v2 sw2 f2 => v2 = some (.int r) ∧ RR sw2 f2) := by
        intro g r og g11 qE qO
        have g82 : g 82 = f 82 := og 82 (by omega) (by omega) (by omega)
        have g83 : g 83 = f 83 := og 83 (by omega) (by omega) (by omega)
        have gle : nI n ≤ g 82 10 := by rw [g82, h1.2.1]; exact hle
        refine bX11_bill_0 (d := 994) (fun h => absurd c1 h) (fun _ _ => bX11_beginsText_0 (bX11_bill_25 (d := 994) (sp_copies sh83 sh84 (by decide) (fun g1 o1 k1 => bX11_bill_41 (d := 994) ?_)))) (fun _ h => absurd gle h)
        -- the text begins
        have q1c : ∀ c, c ≠ 82 → c ≠ 84 → g1 c = g c := fun c c2 c4 => by rw [o1 c c4, upd2_ne _ _ _ c2, upd2_ne _ _ _ c2, upd2_ne _ _ _ c2, upd2_ne _ _ _ c2, upd2_ne _ _ _ c2]
        have q1j : ∀ j, j ≠ 11 → j ≠ 12 → j ≠ 16 → j ≠ 18 → j ≠ 33 → g1 82 j = f 82 j := fun j j1 j2 j3 j4 j5 => by rw [o1 82 (by omega), upd2_self, pk_un j5, upd2_self, pk_un j4, upd2_self, pk_un j3, upd2_self, pk_un j2, upd2_self, pk_un j1, g82]
        have m33 : g1 82 33 = nI 0 := by rw [o1 82 (by omega), upd2_self, pk_us]; rfl
        have hM1 : MX g1 n 0 := ⟨by rw [o1 82 (by omega), upd2_self, pk_un (by omega), upd2_self, pk_un (by omega), upd2_self, pk_un (by omega), upd2_self, pk_us], by omega, by rw [o1 82 (by omega), upd2_self, pk_un (by omega), upd2_self, pk_un (by omega), upd2_self, pk_un (by omega), upd2_self, pk_un (by omega), upd2_self, pk_us]; rfl, by omega⟩
        have g183 : g1 83 = f 83 := by rw [q1c 83 (by omega) (by omega)]; exact g83
        have g190 : g1 90 = f 90 := by rw [q1c 90 (by omega) (by omega)]; exact og 90 (by omega) (by omega) (by omega)
        have g184 : ∀ k, k < 391 → g1 84 k = f 83 k := fun k hk => by
          rw [k1 k hk, upd2_ne _ _ _ (by omega), upd2_ne _ _ _ (by omega), upd2_ne _ _ _ (by omega), upd2_ne _ _ _ (by omega), upd2_ne _ _ _ (by omega), g83]
        clear k1 o1
        -- a bill with a fault
        have bad : ∀ (h : FF) (e : Int32), MB g1 h → h 82 13 = e → linesR (f 90) n (f 83) 21 0 0 = .error e → XP G mX11_bill (994 + 5) 46 [.ref 82, .int (nI n), .int 0] [] sw h (fun v2 sw2 f2 => v2 = some (.int r) ∧ RR sw2 f2) := by
          intro h e oh he hl
          obtain ⟨re, rw'⟩ := qE e hl
          refine bX11_bill_46 (d := 994) (fun _ _ => sp_copies sh84 sh83 (by decide) (fun g5 o5 k5 => bX11_bill_111 (d := 994) ⟨?_, ?_⟩)) (fun _ h => absurd rfl h) (fun h => absurd rfl h) (fun h => absurd rfl h) (fun h => absurd rfl h)
          · rw [o5 82 (by omega), upd2_self, pk_un (by omega), he, re]
          · have oc : ∀ c, c ≠ 82 → c ≠ 83 → c ≠ 84 → g5 c = g c := fun c q1 q2 q3 => by rw [o5 c q2, upd2_ne _ _ _ q1, oh.1 c q1 q2]; exact q1c c q1 q3
            refine hR.bill (fun c q1 q2 q3 q4 q5 q6 => by rw [oc c q4 q5 q6]; exact og c q1 q2 q3) (fun j hj => ?_) (h6.row (fun k hk => ?_) (fun k hk => ?_)) (RT_empty ?_ ?_ (fun j => ?_))
            · rw [o5 82 (by omega), upd2_self, pk_un (by omega), oh.2 j (by omega) (by omega) (by omega) (by omega)]; exact q1j j (by omega) (by omega) (by omega) (by omega) (by omega)
            · rw [oc _ (by omega) (by omega) (by omega)]; exact rw' k hk
            · rw [k5 k hk, upd2_ne _ _ _ (by omega), oh.1 84 (by omega) (by omega)]; exact g184 k hk
            · rw [oc 1 (by omega) (by omega) (by omega)]; exact g11
            · rw [o5 82 (by omega), upd2_self, pk_us]
            · rw [oc 90 (by omega) (by omega) (by omega), og 90 (by omega) (by omega) (by omega)]; exact b90 j
        -- all lines
        have loop : ∀ (l i p : Nat) (b : Nat → Int32) (h : FF) (Q2 : QQ), i + l = 21 → i ≤ 20 → MB g1 h → MX h n p → h 82 33 = nI i → h 83 = b → rOk b → (∀ x, x < 16 → b x = f 83 x) → (∀ e, linesR (f 90) n (f 83) l i p = .error e → linesR (f 90) n (f 83) 21 0 0 = .error e) → (∀ L, linesR (f 90) n (f 83) l i p = .ok L → ∃ L0, linesR (f 90) n (f 83) 21 0 0 = .ok L0 ∧ L0.length = i + L.length ∧ apL (f 83) L0 = apL b L) → (∀ h', XP G mX11_bill (994 + 5) 46 [.ref 82, .int (nI n), .int 0] [] sw h' (fun v2 sw2 f2 => v2 = some (.int r) ∧ RR sw2 f2) → Q2 (some (.int 0)) sw h') → (∀ h', XP G mX11_bill (994 + 5) 46 [.ref 82, .int (nI n), .int 1] [] sw h' (fun v2 sw2 f2 => v2 = some (.int r) ∧ RR sw2 f2) → Q2 (some (.int 1)) sw h') → XP G mX11_readsLine (994 + 4) 0 [.ref 82, .null, .null] [] sw h Q2 := by
          intro l
          induction l with
          | zero => intro i p b h Q2 q1 q2; omega
          | succ l ih =>
            intro i p b h Q2 hi hi20 oh hM hh33 hb hrb hlo hE hO k0 k1'
            have h90 : h 90 = f 90 := by rw [oh.1 90 (by omega) (by omega)]; exact g190
            refine sp_readsLine (a := f 83) hM hi20 hh33 (by rw [hb]; exact hrb) (fun x hx => by rw [hb]; exact hlo x hx) (fun e g2 hl o2 e5 => k0 g2 (bad g2 e (oh.tr o2) e5 (hE e ?_))) (fun rr g2 hl o2 hM2 r33 r83 => k1' g2 ?_)
            · rw [h90] at hl
              unfold linesR
              rw [hl]
            · rw [h90] at hl
              rw [hb] at r83
              have og2 := oh.tr o2
              have hln : lnOk (f 83) rr.2 ∧ i < 20 := by
                unfold lineP at hl
                cases hw : whoP (f 90) n (f 83) i p with
                | error e => rw [hw] at hl; exact absurd hl (by simp)
                | ok s =>
                  rw [hw] at hl
                  have := whoP_ok hw
                  exact ⟨whatP_ok this.2.2 hl, this.1⟩
              have l16 : rr.2.1 < 16 ∨ rr.2.1 = 16 := by
                rcases hln.1 with z | z
                · exact Or.inr z.1
                · exact Or.inl z.1
              have hu : ∀ X, (if tx (f 90) n rr.1 = -1 then Except.ok [rr.2] else if tx (f 90) n rr.1 = 59 then (match linesR (f 90) n (f 83) l (i + 1) (rr.1 + 1) with | .error e => .error e | .ok L => .ok (rr.2 :: L)) else .error (er 1 rr.1)) = X → linesR (f 90) n (f 83) (l + 1) i p = X := by
                intro X hX
                conv => lhs; unfold linesR
                rw [hl]
                exact hX
              have e12 : g2 82 12 = nI n := hM2.1
              have e11 : g2 82 11 = nI rr.1 := hM2.2.2.1
              have hr260 := hM2.2.2.2
              by_cases ce : n ≤ rr.1
              · have le : g2 82 12 ≤ g2 82 11 := by rw [e12, e11]; exact nI_le ce (by omega)
                have tm : tx (f 90) n rr.1 = -1 := tx_m1.mpr ce
                obtain ⟨L0, q1, q2, q3⟩ := hO [rr.2] (hu _ (by rw [if_pos tm]))
                obtain ⟨re, rW⟩ := qO L0 q1
                refine bX11_bill_46 (d := 994) (fun h => absurd h (by decide)) (fun h => absurd h (by decide)) (fun _ _ h => absurd h (by decide)) (fun _ _ _ => ⟨?_, ?_⟩) (fun _ h => absurd le h)
                · rw [upd2_self, pk_un (by omega), r33, re, q2]
                  rfl
                · have oc : ∀ c, c ≠ 82 → c ≠ 83 → c ≠ 84 → upd2 g2 82 10 0 c = g c := fun c q1 q2 q3 => by rw [upd2_ne _ _ _ q1, og2.1 c q1 q2]; exact q1c c q1 q3
                  refine hR.bill (fun c p1 p2 p3 p4 p5 p6 => by rw [oc c p4 p5 p6]; exact og c p1 p2 p3) (fun j hj => ?_) (RWr.to (rW.cg (fun k hk => oc _ (by omega) (by omega) (by omega))) ?_) (RT_empty ?_ ?_ (fun j => ?_))
                  · rw [upd2_self, pk_un (by omega), og2.2 j (by omega) (by omega) (by omega) (by omega)]; exact q1j j (by omega) (by omega) (by omega) (by omega) (by omega)
                  · rw [upd2_ne _ _ _ (by omega), r83, q3]
                    rfl
                  · rw [oc 1 (by omega) (by omega) (by omega)]; exact g11
                  · rw [upd2_self, pk_us]
                  · rw [oc 90 (by omega) (by omega) (by omega), og 90 (by omega) (by omega) (by omega)]; exact b90 j
              · have nle : ¬ g2 82 12 ≤ g2 82 11 := by rw [e12, e11]; exact nI_ge (by omega) (by omega)
                have tm : ¬ tx (f 90) n rr.1 = -1 := fun z => ce (tx_m1.mp z)
                have g290 : g2 90 = f 90 := by rw [og2.1 90 (by omega) (by omega)]; exact g190
                refine bX11_bill_46 (d := 994) (fun h => absurd h (by decide)) (fun h => absurd h (by decide)) (fun _ h => absurd h nle) (fun _ h => absurd h nle) (fun _ _ => sp_takes (d := 997) hM2 (by decide) (fun hy g3 o3 hM3 => ?_) (fun hy g3 o3 e5 => ?_))
                · rw [g290] at hy
                  refine bX11_bill_67 (d := 994) (fun h => absurd h (by decide)) (fun _ => ?_)
                  refine ih (i + 1) (rr.1 + 1) (apR b rr.2) g3 _ (by omega) (by omega) (og2.tr (MB.ot o3)) hM3 (by rw [o3.2 33 (by omega) (by omega) (by omega)]; exact r33) (by rw [o3.1 83 (by omega)]; exact r83) (apR_ok hrb l16) (fun x hx => by rw [apR_lo hx]; exact hlo x hx) (fun e he => hE e (hu _ (by rw [if_neg tm, if_pos hy, he]))) (fun L hL => ?_) (fun h' hX => bX11_bill_74 (d := 994) (fun _ => hX) (fun h => absurd rfl h)) (fun h' hX => bX11_bill_74 (d := 994) (fun h => absurd h (by decide)) (fun _ => hX))
                  obtain ⟨L0, q1, q2, q3⟩ := hO (rr.2 :: L) (hu _ (by rw [if_neg tm, if_pos hy, hL]))
                  exact ⟨L0, q1, by rw [q2, List.length_cons]; omega, q3⟩
                · rw [g290] at hy
                  refine bX11_bill_67 (d := 994) (fun _ => bad g3 _ (og2.tr (MB.ot o3)) e5 (hE _ (hu _ (by rw [if_neg tm, if_neg hy])))) (fun h => absurd rfl h)
        exact loop 21 0 0 (f 83) g1 _ (by omega) (by omega) (MB.rf g1) hM1 m33 g183 h6.rOk (fun _ _ => rfl) (fun e he => he) (fun L hL => ⟨L, hL, by omega, rfl⟩) (fun h' hX => bX11_bill_45 (d := 994) hX) (fun h' hX => bX11_bill_45 (d := 994) hX)
      -- the class
      refine bX10_bill_18 (d := 993) (fun _ => sp_readLines (d := 995) (a := f 83) ht p0 hmk (fun e g hl og => ?_) (fun L g hl og hB h204 => ?_)) (fun h => absurd h (by decide))
      · rw [g90] at hl
        have he := linesR_er (by omega) 21 0 0 e (by omega) (by omega) (by omega) hl
        refine bX10_bill_37 (d := 993) (fun _ => ⟨_, rfl, ref g e (fun c q1 q2 q3 => by rw [og.1 c q1 q2]; exact o0 c q1) ?_ (fun e' he' => ⟨?_, fun k hk => ?_⟩) (fun L hL => absurd (hl.symm.trans hL) (by simp))⟩) (fun h => absurd he h)
        · rw [og.2 1 (by omega)]; exact t3
        · exact Except.error.inj (hl.symm.trans he')
        · rw [og.1 _ (by omega) (by omega)]; exact o0 _ (by omega)
      · rw [g90] at hl
        obtain ⟨l1, l2, l3⟩ := linesR_ok 21 0 0 L hl
        have np : ¬ nI L.length ≤ 0 := nI_nle (by omega) (by omega)
        have HW : RWr g 43 (f 83) := (RWr.of h6).cg (fun k hk => by rw [og.1 _ (by omega) (by omega)]; exact o0 _ (by omega))
        refine bX10_bill_37 (d := 993) (fun h => absurd h np) (fun _ => sp_settle isW_43 HW l1 (by omega) hB h204 (fun g2 o2 H2 => bX10_bill_53 (d := 993) ⟨_, rfl, ref g2 _ (fun c q1 q2 q3 => ?_) ?_ (fun e he => absurd (hl.symm.trans he) (by simp)) (fun L' hL' => ?_)⟩))
        · rw [o2 c q3, og.1 c q1 q2]; exact o0 c q1
        · rw [o2 1 (by omega), og.2 1 (by omega)]; exact t3
        · have := Except.ok.inj (hl.symm.trans hL')
          subst this
          exact ⟨rfl, H2⟩
    · -- too few
      have gle : ¬ nI n ≤ f 82 10 := by rw [h1.2.1]; exact hnl
      exact bX10_bill_18 (d := 993) (fun h => absurd rfl h) (fun _ => ⟨_, rfl, bX11_bill_0 (d := 994) (fun h => absurd c1 h) (fun _ h => absurd h gle) (fun _ _ => ⟨rfl, hR⟩)⟩)
  · exact bX10_bill_0 (d := 993) (fun _ => ⟨_, rfl, bX11_bill_0 (d := 994) (fun _ => ⟨rfl, hR⟩) (fun h => absurd h c1) (fun h => absurd h c1)⟩) (fun h => absurd h c1)
