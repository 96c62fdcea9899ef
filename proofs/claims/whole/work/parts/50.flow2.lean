/-! ===== the reference's flow ===== -/
theorem adjR_iff {R : Nat → Nat} {u v : Nat} : adjR R u v = true ↔ R (8 * u + v) ≠ 0 := by
  unfold adjR
  rw [decide_eq_true_iff]
def MO (f g : FF) (t : BS) : Prop := (∀ c, c ≠ 105 → c ≠ 88 → g c = f c) ∧ (∀ v, v < 8 → g 105 v = if t.1 v = 0 then -1 else nI (t.2.1 v)) ∧ (∀ i, i < t.2.2.2 → g 88 i = nI (t.2.2.1 i))
theorem MO.ext {f g : FF} {t : BS} {u q : Nat} (h : MO f g t) : MO f (upd2 (upd2 g 105 q (nI u)) 88 t.2.2.2 (nI q)) (bfX t u q) := by
  obtain ⟨h1, h2, h4⟩ := h
  refine ⟨fun c c1 c2 => ?_, fun v hv => ?_, fun i hi => ?_⟩
  · rw [upd2_ne _ _ _ c2, upd2_ne _ _ _ c1]; exact h1 c c1 c2
  · rw [upd2_ne _ _ _ (by omega), upd2_self]
    show _ = if updN _ _ _ v = 0 then -1 else nI (updN _ _ _ v)
    by_cases y : v = q
    · subst y; rw [pk_us, updN_s, updN_s, if_neg (by omega)]
    · rw [pk_un y, updN_n y, updN_n y]; exact h2 v hv
  · rw [upd2_self, upd2_ne _ _ _ (by omega)]
    show _ = nI (updN _ _ _ i)
    have hi : i < t.2.2.2 + 1 := hi
    by_cases y : i = t.2.2.2
    · subst y; rw [pk_us, updN_s]
    · rw [pk_un y, updN_n y]; exact h4 i (by omega)
theorem sp_oneMore {G : GC} {d : Nat} {sw : Bool} {f : FF} {Q : QQ} {R : Nat → Nat} {s q0 : Nat} (hs : s < 8) (hq0 : q0 < 8) (h104 : ∀ i, i < 64 → f 104 i = nI (R i)) (hR : ∀ i, i < 64 → R i ≤ 18)
    (h0 : ∀ t : BS, BI (adjR R) s t → (∀ u v, t.1 u ≠ 0 → v < 8 → adjR R u v = true → t.1 v ≠ 0) → t.1 q0 = 0 → ∀ g : FF, (∀ c, c ≠ 105 → c ≠ 88 → g c = f c) → Q (some (.int 0)) sw g)
    (h1 : ∀ (t : BS) (D : Nat), BI (adjR R) s t → t.1 q0 = D + 1 → ∀ g : FF, (∀ c, c ≠ 105 → c ≠ 88 → c ≠ 104 → g c = f c) → (∀ i, i < 64 → g 104 i = nI (pushP R (itN t.2.1 q0) 1 D i)) → Q (some (.int 1)) sw g) : XP G mX11_oneMore d 0 [.ref 82, .int (nI s), .int (nI q0), .null, .null, .null] [] sw f Q := by
  have vs : vp_in (nI s) 8 := vp_in_nI hs (by omega)
  have vq0 : vp_in (nI q0) 8 := vp_in_nI hq0 (by omega)
  have cq0 : (nI q0).toNatClampNeg = q0 := nI_clamp (by omega)
  have fin : ∀ (t : BS) (g : FF) (v5 : Value), BI (adjR R) s t → (∀ u v, t.1 u ≠ 0 → v < 8 → adjR R u v = true → t.1 v ≠ 0) → MO f g t → ∀ x4 : Int32, nI t.2.2.2 ≤ x4 → XP G mX11_oneMore d 40 [.ref 82, .int (nI s), .int (nI q0), .int (nI t.2.2.2), .int x4, v5] [] sw g Q := by
    intro t g v5 hB hcl hM x4 hx4
    have c105 : g 105 (nI q0).toNatClampNeg = if t.1 q0 = 0 then -1 else nI (t.2.1 q0) := by rw [cq0]; exact hM.2.1 q0 hq0
    by_cases z : t.1 q0 = 0
    · rw [if_pos z] at c105
      exact bX11_oneMore_40 (fun _ => vq0) (fun _ h => absurd c105 h) (fun _ _ => h0 t hB hcl z g hM.1) (fun h => absurd hx4 h)
    · rw [if_neg z] at c105
      obtain ⟨D, hD⟩ : ∃ D, t.1 q0 = D + 1 := ⟨t.1 q0 - 1, by omega⟩
      have hD8 := hB.m8
      have hD9 := (hB.2.1 q0 z).2
      have hb8 : t.2.1 q0 < 8 := by
        rcases hB.2.2.2.2.2 q0 z with c | c
        · rw [c.2]; exact hs
        · exact c.2.1
      obtain ⟨hp, lv⟩ := bi_PO hB hD
      refine bX11_oneMore_40 (fun _ => vq0) (fun _ _ => ?_) (fun _ h => absurd h (by rw [c105]; exact nI_ne_m1 (by omega))) (fun h => absurd hx4 h)
      have loop : ∀ (l j : Nat) (g2 : FF) (v5 : Value), j + l = D → (∀ c, c ≠ 104 → g2 c = g c) → (∀ i, i < 64 → g2 104 i = nI (pushP R (itN t.2.1 q0) 1 j i)) → XP G mX11_oneMore d 144 [.ref 82, .int (nI s), .int (nI q0), .int (nI t.2.2.2), .int (nI (itN t.2.1 q0 j)), v5] [] sw g2 Q := by
        intro l
        induction l with
        | zero =>
          intro j g2 v5 hj go g4
          have e1 : j = D := by omega
          subst e1
          have ee : nI (itN t.2.1 q0 j) = nI s := by rw [hp.2.1]
          exact bX11_oneMore_144 (fun _ => h1 t j hB hD g2 (fun c d1 d2 d3 => by rw [go c d3]; exact hM.1 c d1 d2) g4) (fun h => absurd ee h) (fun h => absurd ee h) (fun h => absurd ee h) (fun h => absurd ee h) (fun h => absurd ee h) (fun h => absurd ee h)
        | succ l ih =>
          intro j g2 v5 hj go g4
          have xj := hp.2.2.1 j (by omega)
          have xj1 := hp.2.2.1 (j + 1) (by omega)
          have xne := hp.2.2.2.1 j (j + 1) (by omega) (by omega)
          have xns : ¬ nI (itN t.2.1 q0 j) = nI s := by
            rw [nI_eq (by omega) (by omega)]
            intro z2
            exact hp.2.2.2.1 j D (by omega) (Nat.le_refl _) (by rw [hp.2.1]; exact z2)
          have lvj := lv j (by omega)
          have b5 : g2 105 (nI (itN t.2.1 q0 j)).toNatClampNeg = nI (itN t.2.1 q0 (j + 1)) := by
            rw [nI_clamp (by omega), go 105 (by omega), hM.2.1 _ xj, if_neg (by omega)]
            rfl
          have adP := of_decide_eq_true (hp.2.2.2.2 j (by omega))
          have mA : 1 ≤ pushP R (itN t.2.1 q0) 1 j (8 * itN t.2.1 q0 (j + 1) + itN t.2.1 q0 j) := by rw [pushP_keep hp (by omega) j (Nat.le_refl _)]; omega
          have nxt : ∀ (i : Nat), i < 64 → upd (upd (g2 104) (8 * itN t.2.1 q0 (j + 1) + itN t.2.1 q0 j) (g2 104 (8 * itN t.2.1 q0 (j + 1) + itN t.2.1 q0 j) - 1)) (8 * itN t.2.1 q0 j + itN t.2.1 q0 (j + 1)) (upd (g2 104) (8 * itN t.2.1 q0 (j + 1) + itN t.2.1 q0 j) (g2 104 (8 * itN t.2.1 q0 (j + 1) + itN t.2.1 q0 j) - 1) (8 * itN t.2.1 q0 j + itN t.2.1 q0 (j + 1)) + 1) i = nI (pushP R (itN t.2.1 q0) 1 (j + 1) i) := by
            intro i hi
            show _ = nI (updN (updN _ _ _) _ _ i)
            generalize itN t.2.1 q0 (j + 1) = X1 at *
            generalize itN t.2.1 q0 j = X0 at *
            by_cases y : i = 8 * X0 + X1
            · subst y
              rw [pk_us, updN_s, pk_un (by omega), g4 _ hi, nI_1]
            · rw [pk_un y, updN_n y]
              by_cases y2 : i = 8 * X1 + X0
              · subst y2
                rw [pk_us, updN_s, g4 _ hi, n_1, pk_sub mA]
              · rw [pk_un y2, updN_n y2, g4 i hi]
          refine bX11_oneMore_144 (fun h => absurd h xns) (fun _ => vp_in_nI xj (by omega)) (fun _ => ?_) (fun _ => ?_) (fun _ => ?_) (fun _ => ?_) (fun _ => ?_)
          · rw [b5, e8']; exact vp_in_nI (by omega) (by omega)
          · rw [b5, e8']; exact vp_in_nI (by omega) (by omega)
          · rw [b5, e8']; exact vp_in_nI (by omega) (by omega)
          · rw [b5, e8']; exact vp_in_nI (by omega) (by omega)
          · rw [b5, e8', e8', nI_clamp (by omega), nI_clamp (by omega)]
            refine ih (j + 1) _ _ (by omega) (fun c hc => by rw [upd2_ne _ _ _ hc, upd2_ne _ _ _ hc]; exact go c hc) (fun i hi => ?_)
            rw [upd2_self, upd2_self]
            exact nxt i hi
      have := loop D 0 g v5 (by omega) (fun _ _ => rfl) (fun i hi => by rw [hM.1 104 (by omega) (by omega)]; exact h104 i hi)
      exact this
  have outer : ∀ (l i : Nat) (g : FF) (v5 : Value), i + l = 8 → MO f g (bfO (adjR R) i (bf0 s)) → XP G mX11_oneMore d 40 [.ref 82, .int (nI s), .int (nI q0), .int (nI (bfO (adjR R) i (bf0 s)).2.2.2), .int (nI i), v5] [] sw g Q := by
    intro l
    induction l with
    | zero =>
      intro i g v5 hi hc
      have e1 : i = 8 := by omega
      subst e1
      have m8 := (bfs_ok (adjR R) hs).1.m8
      rw [← bfs_eq] at hc ⊢
      exact fin _ g v5 (bfs_ok (adjR R) hs).1 (bfs_ok (adjR R) hs).2 hc _ (nI_le m8 (by omega))
    | succ l ih =>
      intro i g v5 hi hc
      obtain ⟨hB, -, -⟩ := bfO_ok (bf0_ok (adj := adjR R) hs) i
      have m8 := hB.m8
      by_cases c : i < (bfO (adjR R) i (bf0 s)).2.2.2
      · have n1 : ¬ nI (bfO (adjR R) i (bf0 s)).2.2.2 ≤ nI i := nI_ge c (by omega)
        refine bX11_oneMore_40 (fun h => absurd h n1) (fun h => absurd h n1) (fun h => absurd h n1) (fun _ => ?_)
        have hu := hB.2.2.2.1 i c
        have inner : ∀ (l2 q : Nat) (g : FF), q + l2 = 8 → MO f g (bfI (adjR R) ((bfO (adjR R) i (bf0 s)).2.2.1 i) q (bfO (adjR R) i (bf0 s))) → XP G mX11_oneMore d 49 [.ref 82, .int (nI s), .int (nI q0), .int (nI (bfI (adjR R) ((bfO (adjR R) i (bf0 s)).2.2.1 i) q (bfO (adjR R) i (bf0 s))).2.2.2), .int (nI i), .int (nI q)] [] sw g Q := by
          intro l2
          induction l2 with
          | zero =>
            intro q g hq hg
            have e1 : q = 8 := by omega
            subst e1
            refine bX11_oneMore_49 (fun _ => ?_) (fun h => absurd (by decide) h) (fun h => absurd (by decide) h) (fun h => absurd (by decide) h) (fun h => absurd (by decide) h) (fun h => absurd (by decide) h) (fun h => absurd (by decide) h) (fun h => absurd (by decide) h) (fun h => absurd (by decide) h) (fun h => absurd (by decide) h)
            have e : bfO (adjR R) (i + 1) (bf0 s) = (bfI (adjR R) ((bfO (adjR R) i (bf0 s)).2.2.1 i) 8 (bfO (adjR R) i (bf0 s))) := if_pos c
            rw [nI_1, ← e]
            exact ih (i + 1) g _ (by omega) (by rw [e]; exact hg)
          | succ l2 ih2 =>
            intro q g hq hg
            obtain ⟨hB2, hM2, -⟩ := bfI_ok hB hu.2 q (by omega)
            have hu2 : (bfI (adjR R) ((bfO (adjR R) i (bf0 s)).2.2.1 i) q (bfO (adjR R) i (bf0 s))).1 ((bfO (adjR R) i (bf0 s)).2.2.1 i) ≠ 0 := by rw [(hM2.1 _ hu.2).1]; exact hu.2
            have hcq : (nI q).toNatClampNeg = q := nI_clamp (by omega)
            have hci : (nI i).toNatClampNeg = i := nI_clamp (by omega)
            have g104 : g 104 = f 104 := hg.1 104 (by omega) (by omega)
            have g88 : g 88 i = nI ((bfO (adjR R) i (bf0 s)).2.2.1 i) := by
              have := hg.2.2 i (Nat.lt_of_lt_of_le c hM2.2.2)
              rw [this, hM2.2.1 i c]
            have vq : vp_in (nI q) 8 := vp_in_nI (by omega) (by omega)
            have vi : vp_in (nI i) 8 := vp_in_nI (by omega) (by omega)
            have a0 : g 105 (nI q).toNatClampNeg = -1 ↔ (bfI (adjR R) ((bfO (adjR R) i (bf0 s)).2.2.1 i) q (bfO (adjR R) i (bf0 s))).1 q = 0 := by
              rw [hcq, hg.2.1 q (by omega)]
              by_cases z : (bfI (adjR R) ((bfO (adjR R) i (bf0 s)).2.2.1 i) q (bfO (adjR R) i (bf0 s))).1 q = 0
              · rw [if_pos z]; exact ⟨fun _ => z, fun _ => rfl⟩
              · rw [if_neg z]
                have hb8 : (bfI (adjR R) ((bfO (adjR R) i (bf0 s)).2.2.1 i) q (bfO (adjR R) i (bf0 s))).2.1 q < 8 := by
                  rcases hB2.2.2.2.2.2 q z with c | c
                  · rw [c.2]; exact hs
                  · exact c.2.1
                exact ⟨fun h => absurd h (nI_ne_m1 (by omega)), fun h => absurd h z⟩
            have cc : (8 * (g 88 (nI i).toNatClampNeg) + nI q).toNatClampNeg = 8 * ((bfO (adjR R) i (bf0 s)).2.2.1 i) + q := by rw [hci, g88, e8', nI_clamp (by have := hu.1; omega)]
            have v64 : vp_in (8 * (g 88 (nI i).toNatClampNeg) + nI q) 64 := by rw [hci, g88, e8']; exact vp_in_nI (by have := hu.1; omega) (by omega)
            have n8 : ¬ (8 : Int32) ≤ nI q := nI_ge (a := q) (b := 8) (by omega) (by omega)
            have aT : adjR R ((bfO (adjR R) i (bf0 s)).2.2.1 i) q = true ↔ ¬ g 104 (8 * (g 88 (nI i).toNatClampNeg) + nI q).toNatClampNeg = 0 := by
              have hu1 := hu.1
              have := hR (8 * ((bfO (adjR R) i (bf0 s)).2.2.1 i) + q) (by omega)
              rw [cc, g104, h104 _ (by omega)]
              rw [adjR_iff]
              constructor
              · intro h; exact nI_ne0 (by omega) (by omega)
              · intro h z; exact h (by rw [z]; rfl)
            have stay : ¬ ((bfI (adjR R) ((bfO (adjR R) i (bf0 s)).2.2.1 i) q (bfO (adjR R) i (bf0 s))).1 q = 0 ∧ adjR R ((bfO (adjR R) i (bf0 s)).2.2.1 i) q = true) → XP G mX11_oneMore d 49 [.ref 82, .int (nI s), .int (nI q0), .int (nI (bfI (adjR R) ((bfO (adjR R) i (bf0 s)).2.2.1 i) q (bfO (adjR R) i (bf0 s))).2.2.2), .int (nI i), .int (nI q + 1)] [] sw g Q := by
              intro hn
              have e : (bfI (adjR R) ((bfO (adjR R) i (bf0 s)).2.2.1 i) (q + 1) (bfO (adjR R) i (bf0 s))) = (bfI (adjR R) ((bfO (adjR R) i (bf0 s)).2.2.1 i) q (bfO (adjR R) i (bf0 s))) := if_neg hn
              rw [nI_1, ← e]
              exact ih2 (q + 1) g (by omega) (by rw [e]; exact hg)
            refine bX11_oneMore_49 (fun h => absurd h n8) (fun _ => vq) (fun _ h => stay (fun z => h (a0.mpr z.1))) (fun _ _ => vi) (fun _ _ => v64) (fun _ _ _ => vi) (fun _ _ _ => vq) (fun _ h1 h2 => ?_) (fun _ h1 h2 => ?_) (fun _ h1 h2 => stay (fun z => aT.mp z.2 h2))
            · have hlt := hB2.lt8 (by omega) (a0.mp h1)
              exact vp_in_nI hlt (by omega)
            · have hlt := hB2.lt8 (by omega) (a0.mp h1)
              have e : (bfI (adjR R) ((bfO (adjR R) i (bf0 s)).2.2.1 i) (q + 1) (bfO (adjR R) i (bf0 s))) = bfX (bfI (adjR R) ((bfO (adjR R) i (bf0 s)).2.2.1 i) q (bfO (adjR R) i (bf0 s))) ((bfO (adjR R) i (bf0 s)).2.2.1 i) q := if_pos ⟨a0.mp h1, aT.mpr h2⟩
              rw [nI_1, nI_1, hcq, hci, g88, nI_clamp (by omega)]
              have := ih2 (q + 1) _ (by omega) (by rw [e]; exact hg.ext)
              rw [e] at this
              exact this
        exact inner 8 0 g (by omega) hc
      · have e := bfs_stop (adj := adjR R) (s := s) (i := i) (by omega) (by omega)
        rw [← e]
        exact fin _ g v5 (bfs_ok (adjR R) hs).1 (bfs_ok (adjR R) hs).2 (by rw [e]; exact hc) _ (nI_le (by rw [e]; omega) (by omega))
  have init : ∀ (l i : Nat) (g : FF) (v4 v5 : Value), i + l = 8 → (∀ c, c ≠ 105 → g c = f c) → (∀ v, v < i → g 105 v = -1) → XP G mX11_oneMore d 2 [.ref 82, .int (nI s), .int (nI q0), .int (nI i), v4, v5] [] sw g Q := by
    intro l
    induction l with
    | zero =>
      intro i g v4 v5 hi go gv
      have e1 : i = 8 := by omega
      subst e1
      refine bX11_oneMore_2 (fun _ => vs) (fun _ => ?_) (fun h => absurd (by decide) h) (fun h => absurd (by decide) h)
      rw [nI_clamp (by omega)]
      refine outer 8 0 _ v5 (by omega) ⟨fun c c1 c2 => ?_, fun v hv => ?_, fun i hi => ?_⟩
      · rw [upd2_ne _ _ _ c2, upd2_ne _ _ _ c1]; exact go c c1
      · rw [upd2_ne _ _ _ (by omega), upd2_self]
        by_cases y : v = s
        · subst y
          have z1 : (bfO (adjR R) 0 (bf0 v)).1 v = 1 := if_pos rfl
          rw [pk_us, if_neg (by rw [z1]; omega)]
          rfl
        · have z1 : (bfO (adjR R) 0 (bf0 s)).1 v = 0 := if_neg y
          rw [pk_un y, if_pos z1, gv v hv]
      · have : i = 0 := by
          have hi : i < 1 := hi
          omega
        subst this
        rw [upd2_self, pk_us]
        rfl
    | succ l ih =>
      intro i g v4 v5 hi go gv
      have n8 : ¬ (8 : Int32) ≤ nI i := nI_ge (a := i) (b := 8) (by omega) (by omega)
      refine bX11_oneMore_2 (fun h => absurd h n8) (fun h => absurd h n8) (fun _ => vp_in_nI (by omega) (by omega)) (fun _ => ?_)
      rw [nI_1, nI_clamp (by omega)]
      refine ih (i + 1) _ v4 v5 (by omega) (fun c hc => by rw [upd2_ne _ _ _ hc]; exact go c hc) (fun v hv => ?_)
      rw [upd2_self]
      by_cases y : v = i
      · subst y; exact pk_us
      · rw [pk_un y]; exact gv v (by omega)
  exact bX11_oneMore_0 (init 8 0 f _ _ (by omega) (fun _ _ => rfl) (fun v hv => absurd hv (by omega)))
theorem mnI_min {mo c : Nat} (hm : mo ≤ 9) (hc : c ≤ 9) : mnI (nI mo) (nI c) = nI (min mo c) := by
  unfold mnI
  by_cases h : mo < c
  · rw [if_pos (nI_lt h (by omega)), Nat.min_eq_left (by omega)]
  · rw [if_neg (nI_nlt (by omega) (by omega)), Nat.min_eq_right (by omega)]
theorem sp_flowBetween {G : GC} {d : Nat} {sw : Bool} {f : FF} {Q : QQ} {e q mo : Nat} (he : e < 8) (hq : q < 8) (hne : e ≠ q) (hN : RN f) (hmo : mo ≤ 9) (hQ : ∀ (n : Nat) (g : FF), (∀ c, c ≠ 88 → c ≠ 104 → c ≠ 105 → g c = f c) → isFl (capF mo f) e q n → Q (some (.int (nI n))) sw g) : XP G mX11_flowBetween (d + 1) 0 [.ref 82, .int (nI e), .int (nI q), .int (nI mo), .null] [] sw f Q := by
  have hC := capF_le hN hmo
  have loop : ∀ (l n : Nat) (R : Nat → Nat) (g : FF), n + l = 64 → FI (capF mo f) e q R n → (∀ c, c ≠ 88 → c ≠ 104 → c ≠ 105 → g c = f c) → (∀ i, i < 64 → g 104 i = nI (R i)) → XP G mX11_flowBetween (d + 1) 37 [.ref 82, .int (nI e), .int (nI q), .int (nI mo), .int (nI n)] [] sw g Q := by
    intro l
    induction l with
    | zero =>
      intro n R g hn hF go g4
      have := hF.n63 hC he hq hne
      omega
    | succ l ih =>
      intro n R g hn hF go g4
      refine bX11_flowBetween_37 (sp_oneMore he hq g4 (fun i hi => hF.le hi) (fun t hB hcl z g2 go2 => ?_) (fun t D hB hD g2 go2 g24 => ?_))
      · exact bX11_flowBetween_43 (fun _ => hQ n g2 (fun c d1 d2 d3 => by rw [go2 c d3 d1]; exact go c d1 d2 d3) (hF.done hB hcl z)) (fun h => absurd rfl h)
      · refine bX11_flowBetween_43 (fun h => absurd h (by decide)) (fun _ => ?_)
        rw [nI_1]
        obtain ⟨hp, lv⟩ := bi_PO hB hD
        exact ih (n + 1) _ g2 (by omega) (hF.push hp (fun j hj => by have := of_decide_eq_true (hp.2.2.2.2 j hj); omega)) (fun c d1 d2 d3 => by rw [go2 c d3 d1 d2]; exact go c d1 d2 d3) g24
  have init : ∀ (l i : Nat) (g : FF), i + l = 64 → (∀ c, c ≠ 104 → g c = f c) → (∀ j, j < i → g 104 j = nI (capF mo f j)) → XP G mX11_flowBetween (d + 1) 3 [.ref 82, .int (nI e), .int (nI q), .int (nI mo), .int (nI i)] [] sw g Q := by
    intro l
    induction l with
    | zero =>
      intro i g hi go gv
      have e1 : i = 64 := by omega
      subst e1
      exact bX11_flowBetween_3 (fun _ => loop 64 0 (capF mo f) g (by omega) (FI_start hC e q) (fun c d1 d2 d3 => go c d2) gv) (fun h => absurd (by decide) h) (fun h => absurd (by decide) h) (fun h => absurd (by decide) h)
    | succ l ih =>
      intro i g hi go gv
      have vi : vp_in (nI i) 64 := vp_in_nI (by omega) (by omega)
      refine bX11_flowBetween_3 (fun h => absurd h (nI_ge (a := i) (b := 64) (by omega) (by omega))) (fun _ => vi) (fun _ => vi) (fun _ => ?_)
      obtain ⟨k1, k2, k3⟩ := hN.1 i (by omega)
      obtain ⟨c, hc, ec⟩ := isN_nI k2 (by omega)
      have cap : capF mo f i = min mo c := by unfold capF; rw [k1, ec, nI_clamp (by omega)]
      rw [nI_1, nI_clamp (by omega), go 86 (by omega), k1, ec, mnI_min hmo hc]
      refine ih (i + 1) _ (by omega) (fun c hc => by rw [upd2_ne _ _ _ hc]; exact go c hc) (fun j hj => ?_)
      rw [upd2_self]
      by_cases y : j = i
      · subst y; rw [pk_us, cap]
      · rw [pk_un y]; exact gv j (by omega)
  exact bX11_flowBetween_0 (init 64 0 f (by omega) (fun _ _ => rfl) (fun j hj => absurd hj (by omega)))
theorem RR.offF {sw : Bool} {f g : FF} (hR : RR sw f) (h : ∀ c, (c < 5 ∨ 10 < c ∨ c = 6) → c ≠ 88 → c ≠ 104 → c ≠ 105 → g c = f c) : RR sw g := by
  refine hR.ofSX (fun c j hr => ?_) (hR.1.cg (by rw [h 1 (by omega) (by omega) (by omega) (by omega)]) (h 2 (by omega) (by omega) (by omega) (by omega)) (by rw [h 82 (by omega) (by omega) (by omega) (by omega)]) (h 90 (by omega) (by omega) (by omega) (by omega)))
  have := lwB_or sw
  unfold relv at hr
  rw [h c (by omega) (by omega) (by omega) (by omega)]
theorem op_atOnce (G : GC) : OP15 G RR := by
  intro a1 a2 sw f hR
  obtain ⟨h1, h2, h3, h4, h5, h6, h7⟩ := id hR
  by_cases c1 : twoE a1 a2
  · obtain ⟨i, j, hi, hj, hij, rfl, rfl⟩ := two_nI c1
    refine bX10_atOnce_0 (d := 996) (fun h => absurd c1 h) (fun _ => sp_flow (mo := 9) hi hj hij h2 (by omega) (fun n g go hn h63 => bX10_atOnce_19 (d := 996) ⟨_, rfl, ?_⟩))
    have e86 : capF 9 g = capF 9 f := by funext k; unfold capF; rw [go 86 (by omega)]
    refine bX11_atOnce_0 (d := 997) (fun h => absurd c1 h) (fun _ => sp_flowBetween (mo := 9) hi hj hij (h2.cg (go 4 (by omega)) (go 6 (by omega)) (go 86 (by omega))) (by omega) (fun n2 g2 go2 hn2 => bX11_atOnce_16 (d := 997) ⟨?_, hR.offF (fun c d1 d2 d3 d4 => by rw [go2 c d2 d3 d4]; exact go c d1)⟩))
    rw [e86] at hn2
    rw [hn.uq hn2]
  · exact bX10_atOnce_0 (d := 996) (fun _ => ⟨_, rfl, bX11_atOnce_0 (d := 997) (fun _ => ⟨rfl, hR⟩) (fun h => absurd h c1)⟩) (fun h => absurd h c1)
theorem op_stops (G : GC) : OP16 G RR := by
  intro a1 a2 sw f hR
  obtain ⟨h1, h2, h3, h4, h5, h6, h7⟩ := id hR
  by_cases c1 : twoE a1 a2
  · obtain ⟨i, j, hi, hj, hij, rfl, rfl⟩ := two_nI c1
    refine bX10_stops_0 (d := 996) (fun h => absurd c1 h) (fun _ => sp_flow (mo := 1) hi hj hij h2 (by omega) (fun n g go hn h63 => bX10_stops_18 (d := 996) ⟨_, rfl, ?_⟩))
    have e86 : capF 1 g = capF 1 f := by funext k; unfold capF; rw [go 86 (by omega)]
    refine bX11_stops_0 (d := 997) (fun h => absurd c1 h) (fun _ => sp_flowBetween (mo := 1) hi hj hij (h2.cg (go 4 (by omega)) (go 6 (by omega)) (go 86 (by omega))) (by omega) (fun n2 g2 go2 hn2 => bX11_stops_15 (d := 997) ⟨?_, hR.offF (fun c d1 d2 d3 d4 => by rw [go2 c d2 d3 d4]; exact go c d1)⟩))
    rw [e86] at hn2
    rw [hn.uq hn2]
  · exact bX10_stops_0 (d := 996) (fun _ => ⟨_, rfl, bX11_stops_0 (d := 997) (fun _ => ⟨rfl, hR⟩) (fun h => absurd h c1)⟩) (fun h => absurd h c1)
