/-! ===== runs of minutes ===== -/
theorem chR_lo (pt pc : Int32) (a : Nat → Int32) {i x : Nat} (hx : x < 16) : chR pt pc a i x = a x := by
  unfold chR
  split
  · rfl
  · split
    · rw [pk_un (by omega), pk_un (by omega)]
    · rw [pk_un (by omega), pk_un (by omega)]
theorem chs_lo (pt pc : Int32) (a : Nat → Int32) {x : Nat} (hx : x < 16) : ∀ i, chs pt pc a i x = a x := by
  intro i
  induction i with
  | zero => rfl
  | succ i ih => exact (chR_lo pt pc _ hx).trans ih
theorem begR_lo {a : Nat → Int32} {s k i : Nat} {m pv : Int32} {T : Nat} {p : Nat → Nat} {x : Nat} (hx : x < 16) : begR a s k i m pv T p x = a x := by
  unfold begR begA
  rw [pk_un (by omega), pk_un (by omega), rowsR_off _ (by omega), pk_un (by omega), pk_un (by omega), pk_un (by omega), pk_un (by omega), pk_un (by omega)]
theorem rgR_lo {lw : FF} {cir : Nat → Int32} {S : SM} {s k x : Nat} (hx : x < 16) : (rgR lw cir S s k).1 x = S.1 x := by
  unfold rgR
  split
  · rfl
  · split
    · rfl
    · exact begR_lo hx
theorem tnR_lo {lw : FF} {cir : Nat → Int32} {S : SM} {s x : Nat} (hx : x < 16) : (tnR lw cir S s).1 x = S.1 x := by
  have e : upd S.1 390 (nxX (S.1 390)) x = S.1 x := pk_un (by omega)
  unfold tnR
  split
  · exact e
  · exact (rgR_lo hx).trans e
theorem ctR_lo {lw : FF} {S : SM} {s x : Nat} (hx : x < 16) : (ctR lw S s).1 x = S.1 x := by
  unfold ctR
  split
  · show endsR _ s x = _
    rw [endsR_lo _ s (by omega), pk_un (by omega)]
  · rfl
theorem tns_lo {lw : FF} {cir : Nat → Int32} {S : SM} {x : Nat} (hx : x < 16) : ∀ s, (tns lw cir S s).1 x = S.1 x := by
  intro s
  induction s with
  | zero => rfl
  | succ s ih =>
    have e : tns lw cir S (s + 1) = @ite SM (frM (tns lw cir S s).1 s) (Classical.propDecidable _) (tnR lw cir (tns lw cir S s) s) (tns lw cir S s) := rfl
    rw [e]
    generalize tns lw cir S s = T at ih ⊢
    split
    · exact (tnR_lo hx).trans ih
    · exact ih
theorem cts_lo {lw : FF} {S : SM} {x : Nat} (hx : x < 16) : ∀ s, (cts lw S s).1 x = S.1 x := by
  intro s
  induction s with
  | zero => rfl
  | succ s ih =>
    have e : cts lw S (s + 1) = if (cts lw S s).1 s = 1 ∧ (cts lw S s).1 (48 + s) = 1 then ctR lw (cts lw S s) s else cts lw S s := rfl
    rw [e]
    generalize cts lw S s = T at ih ⊢
    split
    · exact (ctR_lo hx).trans ih
    · exact ih
theorem minR_lo {lw : FF} {cir : Nat → Int32} {pt pc : Int32} {S : SM} {x : Nat} (hx : x < 16) : (minR lw cir pt pc S).1 x = S.1 x := by
  unfold minR
  show upd _ 389 _ x = _
  rw [pk_un (by omega)]
  unfold minS
  have h1 := chs_lo pt pc S.1 hx 20
  generalize chs pt pc S.1 20 = b at h1 ⊢
  have h2 := tns_lo (lw := lw) (cir := cir) (S := (b, S.2)) hx 16
  generalize tns lw cir (b, S.2) 16 = T at h2 ⊢
  rw [cts_lo hx 16, h2]
  exact h1
noncomputable def runR (lw : FF) (cir : Nat → Int32) (pt pc : Int32) (S : SM) : Nat → SM
  | 0 => S
  | n + 1 => if 99999 ≤ (runR lw cir pt pc S n).1 389 then runR lw cir pt pc S n else minR lw cir pt pc (runR lw cir pt pc S n)
theorem runR_ok {lw : FF} {cir : Nat → Int32} {pt pc : Int32} {S : SM} (h : rV S.1) : ∀ n, rV (runR lw cir pt pc S n).1 := by
  intro n
  induction n with
  | zero => exact h
  | succ n ih =>
    have e : runR lw cir pt pc S (n + 1) = if 99999 ≤ (runR lw cir pt pc S n).1 389 then runR lw cir pt pc S n else minR lw cir pt pc (runR lw cir pt pc S n) := rfl
    rw [e]
    generalize runR lw cir pt pc S n = T at ih ⊢
    split
    · exact ih
    · exact minR_ok ih
theorem runR_lo {lw : FF} {cir : Nat → Int32} {pt pc : Int32} {S : SM} {x : Nat} (hx : x < 16) : ∀ n, (runR lw cir pt pc S n).1 x = S.1 x := by
  intro n
  induction n with
  | zero => rfl
  | succ n ih =>
    have e : runR lw cir pt pc S (n + 1) = if 99999 ≤ (runR lw cir pt pc S n).1 389 then runR lw cir pt pc S n else minR lw cir pt pc (runR lw cir pt pc S n) := rfl
    rw [e]
    generalize runR lw cir pt pc S n = T at ih ⊢
    split
    · exact ih
    · exact (minR_lo hx).trans ih
theorem runR_stop {lw : FF} {cir : Nat → Int32} {pt pc : Int32} {S : SM} {j : Nat} (h : 99999 ≤ (runR lw cir pt pc S j).1 389) : ∀ m, runR lw cir pt pc S (j + m) = runR lw cir pt pc S j := by
  intro m
  induction m with
  | zero => rfl
  | succ m ih =>
    have e : runR lw cir pt pc S (j + m + 1) = if 99999 ≤ (runR lw cir pt pc S (j + m)).1 389 then runR lw cir pt pc S (j + m) else minR lw cir pt pc (runR lw cir pt pc S (j + m)) := rfl
    show runR lw cir pt pc S (j + m + 1) = _
    rw [e, ih, if_pos h]
theorem sp_run {G : GC} {d : Nat} {sw : Bool} {f : FF} {Q : QQ} {w n : Nat} {a : Nat → Int32} {lw : FF} (hw : isW w) (hE : CEnv sw lw f) (H : RWr f w a) (hn : n ≤ 240) (hQ : ∀ g : FF, COff f g w → CRel g w (runR lw (f 86) (f 32 3) (f 32 4) (a, 0, 0, 0) n) → Q none sw g) : XP G mX7_run (d + 6) 0 [.ref 32, .ref w, .int (nI n), .null] [] sw f Q := by
  have hw2 := isW_lt hw
  have hV : rV (a, (0 : Int32), (0 : Int32), (0 : Int32)).1 := H.rV hw
  have loop : ∀ (l j : Nat) (g : FF), j + l = n → COff f g w → CRel g w (runR lw (f 86) (f 32 3) (f 32 4) (a, 0, 0, 0) j) → XP G mX7_run (d + 6) 17 [.ref 32, .ref w, .int (nI n), .int (nI j)] [] sw g Q := by
    intro l
    induction l with
    | zero =>
      intro j g hj og Rg
      have e1 : j = n := by omega
      subst e1
      have le : nI j ≤ nI j := nI_le (Nat.le_refl _) (by omega)
      exact bX7_run_17 hw (fun _ => hQ g og Rg) (fun h => absurd le h) (fun h => absurd le h)
    | succ l ih =>
      intro j g hj og Rg
      have nle : ¬ nI n ≤ nI j := nI_ge (by omega) (by omega)
      have e6 : g w 6 = (runR lw (f 86) (f 32 3) (f 32 4) (a, 0, 0, 0) j).1 389 := Rg.1.2.2.2.2.2.2.2.1
      have g86 : g 86 = f 86 := og.1 86 (by omega) (by omega) (by omega)
      have e : runR lw (f 86) (f 32 3) (f 32 4) (a, 0, 0, 0) (j + 1) = if 99999 ≤ (runR lw (f 86) (f 32 3) (f 32 4) (a, 0, 0, 0) j).1 389 then runR lw (f 86) (f 32 3) (f 32 4) (a, 0, 0, 0) j else minR lw (f 86) (f 32 3) (f 32 4) (runR lw (f 86) (f 32 3) (f 32 4) (a, 0, 0, 0) j) := rfl
      refine bX7_run_17 hw (fun h => absurd h nle) (fun _ h => ?_) (fun _ h => ?_)
      · rw [e6] at h
        have es := runR_stop h (l + 1)
        rw [hj] at es
        refine hQ g og ?_
        rw [es]
        exact Rg
      · have h2 := h
        rw [e6] at h
        rw [if_neg h] at e
        refine sp_goBy hw (hE.off hw og) Rg h2 (minS_ok (runR_ok hV j)).2 (fun g2 o2 R2 => bX7_run_36 hw ?_)
        rw [nI_1]
        rw [g86, og.2.1, og.2.2, ← e] at R2
        exact ih (j + 1) g2 (by omega) (og.tr o2) R2
  refine bX7_run_0 hw (loop n 0 _ (by omega) ⟨fun c d1 d2 d3 => by rw [upd2_ne _ _ _ (by omega), upd2_ne _ _ _ (by omega), upd2_ne _ _ _ (by omega)], ?_, ?_⟩ ⟨H.cg (fun k hk => by rw [upd2_ne _ _ _ (by omega), upd2_ne _ _ _ (by omega), upd2_ne _ _ _ (by omega)]), ?_, ?_, ?_⟩)
  · rw [upd2_self, pk_un (by omega), upd2_self, pk_un (by omega), upd2_self, pk_un (by omega)]
  · rw [upd2_self, pk_un (by omega), upd2_self, pk_un (by omega), upd2_self, pk_un (by omega)]
  · rw [upd2_self, pk_un (by omega), upd2_self, pk_un (by omega), upd2_self, pk_us]
    rfl
  · rw [upd2_self, pk_un (by omega), upd2_self, pk_us]
    rfl
  · rw [upd2_self, pk_us]
    rfl
theorem sp_minutesGo {G : GC} {d : Nat} {sw : Bool} {f : FF} {Q : QQ} {n : Nat} {lw : FF} (hE : MEnv lw f) (hV : rV (f 83)) (hn : n ≤ 240) (hQ : ∀ g : FF, MOff f g → MRel g (runR lw (f 86) (f 82 4) (f 82 5) (f 83, 0, 0, 0) n) → Q none sw g) : XP G mX11_minutesGo (d + 7) 0 [.ref 82, .int (nI n), .null] [] sw f Q := by
  have loop : ∀ (l j : Nat) (g : FF), j + l = n → MOff f g → MRel g (runR lw (f 86) (f 82 4) (f 82 5) (f 83, 0, 0, 0) j) → XP G mX11_minutesGo (d + 7) 6 [.ref 82, .int (nI n), .int (nI j)] [] sw g Q := by
    intro l
    induction l with
    | zero =>
      intro j g hj og Rg
      have e1 : j = n := by omega
      subst e1
      have le : nI j ≤ nI j := nI_le (Nat.le_refl _) (by omega)
      exact bX11_minutesGo_6 (fun _ => hQ g og Rg) (fun h => absurd le h) (fun h => absurd le h)
    | succ l ih =>
      intro j g hj og Rg
      have nle : ¬ nI n ≤ nI j := nI_ge (by omega) (by omega)
      have e83 : g 83 = (runR lw (f 86) (f 82 4) (f 82 5) (f 83, 0, 0, 0) j).1 := Rg.1
      have g86 : g 86 = f 86 := og.1 86 (by omega) (by omega) (by omega) (by omega) (by omega)
      have e : runR lw (f 86) (f 82 4) (f 82 5) (f 83, 0, 0, 0) (j + 1) = if 99999 ≤ (runR lw (f 86) (f 82 4) (f 82 5) (f 83, 0, 0, 0) j).1 389 then runR lw (f 86) (f 82 4) (f 82 5) (f 83, 0, 0, 0) j else minR lw (f 86) (f 82 4) (f 82 5) (runR lw (f 86) (f 82 4) (f 82 5) (f 83, 0, 0, 0) j) := rfl
      refine bX11_minutesGo_6 (fun h => absurd h nle) (fun _ h => ?_) (fun _ h => ?_)
      · rw [e83] at h
        have es := runR_stop h (l + 1)
        rw [hj] at es
        refine hQ g og ?_
        rw [es]
        exact Rg
      · rw [e83] at h
        rw [if_neg h] at e
        refine sp_minuteGoes (hE.off og) (runR_ok (S := (f 83, 0, 0, 0)) hV j) Rg (fun g2 o2 R2 => bX11_minutesGo_29 ?_)
        rw [nI_1]
        rw [g86, og.2 4 (by omega), og.2 5 (by omega), ← e] at R2
        exact ih (j + 1) g2 (by omega) (og.tr o2) R2
  refine bX11_minutesGo_0 (bX11_beginsMinutes_0 (bX11_minutesGo_4 (loop n 0 _ (by omega) ⟨fun c d1 d2 d3 d4 d5 => by rw [upd2_ne _ _ _ d1, upd2_ne _ _ _ d1, upd2_ne _ _ _ d1], fun j hj => by rw [upd2_self, pk_un (by omega), upd2_self, pk_un (by omega), upd2_self, pk_un (by omega)]⟩ ⟨?_, ?_, ?_, ?_⟩)))
  · rw [upd2_ne _ _ _ (by omega), upd2_ne _ _ _ (by omega), upd2_ne _ _ _ (by omega)]
    rfl
  · rw [upd2_self, pk_un (by omega), upd2_self, pk_un (by omega), upd2_self, pk_us]
    rfl
  · rw [upd2_self, pk_un (by omega), upd2_self, pk_us]
    rfl
  · rw [upd2_self, pk_us]
    rfl
theorem RR.run {sw : Bool} {f g : FF} (hR : RR sw f) (o : ∀ c, (c < 5 ∨ c = 6 ∨ 10 < c) → (c < 32 ∨ 35 < c) → (c < 43 ∨ 55 < c) → (c < 69 ∨ 81 < c) → c ≠ 82 → c ≠ 83 → c ≠ 84 → (c < 87 ∨ 89 < c) → c ≠ 102 → c ≠ 103 → g c = f c) (o3 : g 32 3 = f 32 3) (o4 : g 32 4 = f 32 4) (o82 : ∀ j, (j < 34 ∨ 36 < j) → g 82 j = f 82 j) (hW : RW g 43 83) : RR sw g := by
  obtain ⟨h1, h2, h3, h4, h5, h6, h7⟩ := hR
  have oo : ∀ c, (c < 5 ∨ c = 6 ∨ (10 < c ∧ c < 32) ∨ (35 < c ∧ c < 43) ∨ (55 < c ∧ c < 69) ∨ c = 85 ∨ c = 86 ∨ (89 < c ∧ c < 102) ∨ 103 < c) → g c = f c := fun c hc => o c (by omega) (by omega) (by omega) (by omega) (by omega) (by omega) (by omega) (by omega) (by omega) (by omega)
  refine ⟨h1.cg (by rw [oo 1 (by omega)]) (oo 2 (by omega)) (o82 10 (by omega)) (oo 90 (by omega)), h2.cg (oo 4 (by omega)) (oo 6 (by omega)) (oo 86 (by omega)), h3.cg (o82 4 (by omega)) (o82 5 (by omega)) o3 o4, h4.cg (oo 12 (by omega)) (fun e _ => by rw [oo 13 (by omega)]) (oo 112 (by omega)) (oo 113 (by omega)), h5.cg (fun k hk => oo _ (by have := lwB_in sw hk; omega)) (o82 19 (by omega)) (fun k k1 k2 => oo k (by omega)), hW, h7.cg (o82 47 (by omega)) (by rw [oo 0 (by omega)]) (fun k hk => oo _ (by omega)) (oo 85 (by omega))⟩
theorem RR.cenv {sw : Bool} {f : FF} (hR : RR sw f) : CEnv sw (fun m => f (lwB sw + m)) f ∧ LMd (fun m => f (lwB sw + m)) f := by
  have hM : LMd (fun m => f (lwB sw + m)) f := hR.2.2.2.2.1
  exact ⟨⟨fun _ _ => rfl, hM.ok, hR.2.1, hR.2.2.1.2.1, hR.2.2.1.2.2.2⟩, hM⟩
theorem op_minutes (G : GC) : OP8 G RR := by
  intro a1 sw f hR
  obtain ⟨h1, h2, h3, h4, h5, h6, h7⟩ := id hR
  by_cases c1 : 1 ≤ a1 ∧ a1 ≤ 240
  · obtain ⟨n, hn, rfl⟩ := rng (K := 240) (by decide) ⟨Int32.le_trans (by decide) c1.1, c1.2⟩
    obtain ⟨hE, hM⟩ := hR.cenv
    refine bX10_minutes_0 (d := 992) (fun _ => sp_run isW_43 hE (RWr.of h6) hn (fun g og Rg => bX10_minutes_25 (d := 992) ⟨_, rfl, ?_⟩)) (fun h => absurd c1 h)
    have g82 : g 82 = f 82 := og.1 82 (by omega) (by omega) (by omega)
    have g83 : g 83 = f 83 := og.1 83 (by omega) (by omega) (by omega)
    have g86 : g 86 = f 86 := og.1 86 (by omega) (by omega) (by omega)
    have gM : MEnv (fun m => f (lwB sw + m)) g := ⟨hM.cg (by rw [g82]) (fun k k1 k2 => og.1 k (by omega) (by omega) (by omega)), (hE.off isW_43 og).2.2.1⟩
    refine bX11_minutes_0 (d := 991) (fun _ => sp_minutesGo gM (by rw [g83]; exact (RWr.of h6).rV isW_43) hn (fun g2 o2 R2 => bX11_minutes_18 (d := 991) ?_)) (fun h => absurd c1 h)
    rw [g83, g86, g82, h3.1, h3.2.2.1] at R2
    obtain ⟨HW, c5, c6, c7⟩ := Rg
    obtain ⟨e83, d5, d6, d7⟩ := R2
    refine ⟨by rw [d5, c5], hR.run (fun c q1 q2 q3 q4 q5 q6 q7 q8 q9 q10 => by rw [o2.1 c q5 q6 q8 q9 q10]; exact og.1 c q1 q2 q3) ?_ ?_ (fun j hj => by rw [o2.2 j hj, g82]) (RWr.to (HW.cg (fun k hk => o2.1 _ (by omega) (by omega) (by omega) (by omega) (by omega))) e83)⟩
    · rw [o2.1 32 (by omega) (by omega) (by omega) (by omega) (by omega)]; exact og.2.1
    · rw [o2.1 32 (by omega) (by omega) (by omega) (by omega) (by omega)]; exact og.2.2
  · exact bX10_minutes_0 (d := 992) (fun h => absurd h c1) (fun _ => ⟨_, rfl, bX11_minutes_0 (d := 991) (fun h => absurd h c1) (fun _ => ⟨rfl, hR⟩)⟩)
