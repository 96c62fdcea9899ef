/-! ===== the class's spread ===== -/
theorem e8 (u v : Nat) : nI u * 8 + nI v = nI (8 * u + v) := by rw [n_8, pk_mul, nI_add, Nat.mul_comm]
theorem e8' (u v : Nat) : 8 * nI u + nI v = nI (8 * u + v) := by rw [n_8, pk_mul, nI_add]
def adjC (f : FF) (u v : Nat) : Bool := decide (¬ f 7 (8 * u + v) ≤ 0)
def CS (f g : FF) (t : BS) : Prop := (∀ c, c ≠ 8 → c ≠ 9 → c ≠ 10 → g c = f c) ∧ (∀ v, v < 8 → g 8 v = eF (t.1 v)) ∧ (∀ v, v < 8 → t.1 v ≠ 0 → g 9 v = nI (t.2.1 v)) ∧ (∀ i, i < t.2.2.2 → g 10 i = nI (t.2.2.1 i))
theorem CS.ext {f g : FF} {t : BS} {adj : Nat → Nat → Bool} {s u q : Nat} (h : CS f g t) (hB : BI adj s t) (hu : t.1 u ≠ 0) (hz : t.1 q = 0) : CS f (upd2 (upd2 (upd2 g 8 q (g 8 u + 1)) 9 q (nI u)) 10 t.2.2.2 (nI q)) (bfX t u q) := by
  obtain ⟨h1, h2, h3, h4⟩ := h
  have hu8 := (hB.2.1 u hu).1
  refine ⟨fun c c1 c2 c3 => ?_, fun v hv => ?_, fun v hv hne => ?_, fun i hi => ?_⟩
  · rw [upd2_ne _ _ _ c3, upd2_ne _ _ _ c2, upd2_ne _ _ _ c1]; exact h1 c c1 c2 c3
  · rw [upd2_ne _ _ _ (by omega), upd2_ne _ _ _ (by omega), upd2_self]
    show _ = eF (updN _ _ _ v)
    by_cases y : v = q
    · subst y; rw [pk_us, updN_s, h2 u hu8, eF_add]
    · rw [pk_un y, updN_n y]; exact h2 v hv
  · rw [upd2_ne _ _ _ (by omega), upd2_self, upd2_ne _ _ _ (by omega)]
    show _ = nI (updN _ _ _ v)
    by_cases y : v = q
    · subst y; rw [pk_us, updN_s]
    · rw [pk_un y, updN_n y]
      have : (bfX t u q).1 v = t.1 v := updN_n y
      rw [this] at hne
      exact h3 v hv hne
  · rw [upd2_self, upd2_ne _ _ _ (by omega), upd2_ne _ _ _ (by omega)]
    show _ = nI (updN _ _ _ i)
    have hi : i < t.2.2.2 + 1 := hi
    by_cases y : i = t.2.2.2
    · subst y; rw [pk_us, updN_s]
    · rw [pk_un y, updN_n y]; exact h4 i (by omega)
theorem sp_spread {G : GC} {d : Nat} {sw : Bool} {f : FF} {Q : QQ} {s : Nat} (hs : s < 8) (hQ : ∀ g, CS f g (bfs (adjC f) s) → Q (some (.int (nI (bfs (adjC f) s).2.2.2))) sw g) : XP G mX3_spread d 0 [.ref 3, .int (nI s), .null, .null, .null, .null] [] sw f Q := by
  have vs : vp_in (nI s) 8 := vp_in_nI hs (by omega)
  have outer : ∀ (l i : Nat) (g : FF) (v4 v5 : Value), i + l = 8 → CS f g (bfO (adjC f) i (bf0 s)) → XP G mX3_spread d 46 [.ref 3, .int (nI s), .int (nI (bfO (adjC f) i (bf0 s)).2.2.2), .int (nI i), v4, v5] [] sw g Q := by
    intro l
    induction l with
    | zero =>
      intro i g v4 v5 hi hc
      have e1 : i = 8 := by omega
      subst e1
      have m8 := (bfs_ok (adjC f) hs).1.m8
      rw [← bfs_eq] at hc ⊢
      refine bX3_spread_46 (fun _ => hQ g hc) (fun h => ?_) (fun h => ?_) (fun h => ?_) <;> exact absurd (nI_le m8 (by omega)) h
    | succ l ih =>
      intro i g v4 v5 hi hc
      obtain ⟨hB, -, -⟩ := bfO_ok (bf0_ok (adj := adjC f) hs) i
      have m8 := hB.m8
      by_cases c : i < (bfO (adjC f) i (bf0 s)).2.2.2
      · have n1 : ¬ nI (bfO (adjC f) i (bf0 s)).2.2.2 ≤ nI i := nI_ge c (by omega)
        have n2 : ¬ (8 : Int32) ≤ nI i := nI_ge (a := i) (b := 8) (by omega) (by omega)
        refine bX3_spread_46 (fun h => absurd h n1) (fun _ h => absurd h n2) (fun _ _ => vp_in_nI (by omega) (by omega)) (fun _ _ => ?_)
        rw [nI_clamp (by omega), hc.2.2.2 i c]
        have hu := hB.2.2.2.1 i c
        have inner : ∀ (l2 q : Nat) (g : FF), q + l2 = 8 → CS f g (bfI (adjC f) ((bfO (adjC f) i (bf0 s)).2.2.1 i) q (bfO (adjC f) i (bf0 s))) → XP G mX3_spread d 68 [.ref 3, .int (nI s), .int (nI (bfI (adjC f) ((bfO (adjC f) i (bf0 s)).2.2.1 i) q (bfO (adjC f) i (bf0 s))).2.2.2), .int (nI i), .int (nI ((bfO (adjC f) i (bf0 s)).2.2.1 i)), .int (nI q)] [] sw g Q := by
          intro l2
          induction l2 with
          | zero =>
            intro q g hq hg
            have e1 : q = 8 := by omega
            subst e1
            refine bX3_spread_68 (fun _ => ?_) (fun h => absurd (by decide) h) (fun h => absurd (by decide) h) (fun h => absurd (by decide) h) (fun h => absurd (by decide) h) (fun h => absurd (by decide) h) (fun h => absurd (by decide) h) (fun h => absurd (by decide) h) (fun h => absurd (by decide) h) (fun h => absurd (by decide) h) (fun h => absurd (by decide) h)
            have e : bfO (adjC f) (i + 1) (bf0 s) = bfI (adjC f) ((bfO (adjC f) i (bf0 s)).2.2.1 i) 8 (bfO (adjC f) i (bf0 s)) := if_pos c
            rw [nI_1, ← e]
            exact ih (i + 1) g _ _ (by omega) (by rw [e]; exact hg)
          | succ l2 ih2 =>
            intro q g hq hg
            obtain ⟨hB2, hM2, -⟩ := bfI_ok hB hu.2 q (by omega)
            have hu2 : (bfI (adjC f) ((bfO (adjC f) i (bf0 s)).2.2.1 i) q (bfO (adjC f) i (bf0 s))).1 ((bfO (adjC f) i (bf0 s)).2.2.1 i) ≠ 0 := by rw [(hM2.1 _ hu.2).1]; exact hu.2
            have hcq : (nI q).toNatClampNeg = q := nI_clamp (by omega)
            have hfar : (bfI (adjC f) ((bfO (adjC f) i (bf0 s)).2.2.1 i) q (bfO (adjC f) i (bf0 s))).1 q < 2 ^ 30 := by
              by_cases z : (bfI (adjC f) ((bfO (adjC f) i (bf0 s)).2.2.1 i) q (bfO (adjC f) i (bf0 s))).1 q = 0
              · omega
              · have := (hB2.2.1 q z).2
                have := hB2.m8
                omega
            have g7 : g 7 = f 7 := hg.1 7 (by omega) (by omega) (by omega)
            have e64 : nI ((bfO (adjC f) i (bf0 s)).2.2.1 i) * 8 + nI q = nI (8 * ((bfO (adjC f) i (bf0 s)).2.2.1 i) + q) := e8 _ _
            have vq : vp_in (nI q) 8 := vp_in_nI (by omega) (by omega)
            have stay : ¬ ((bfI (adjC f) ((bfO (adjC f) i (bf0 s)).2.2.1 i) q (bfO (adjC f) i (bf0 s))).1 q = 0 ∧ adjC f ((bfO (adjC f) i (bf0 s)).2.2.1 i) q = true) → XP G mX3_spread d 68 [.ref 3, .int (nI s), .int (nI (bfI (adjC f) ((bfO (adjC f) i (bf0 s)).2.2.1 i) q (bfO (adjC f) i (bf0 s))).2.2.2), .int (nI i), .int (nI ((bfO (adjC f) i (bf0 s)).2.2.1 i)), .int (nI q + 1)] [] sw g Q := by
              intro hn
              have e : bfI (adjC f) ((bfO (adjC f) i (bf0 s)).2.2.1 i) (q + 1) (bfO (adjC f) i (bf0 s)) = bfI (adjC f) ((bfO (adjC f) i (bf0 s)).2.2.1 i) q (bfO (adjC f) i (bf0 s)) := if_neg hn
              rw [nI_1, ← e]
              exact ih2 (q + 1) g (by omega) (by rw [e]; exact hg)
            refine bX3_spread_68 (fun h => absurd h (nI_ge (a := q) (b := 8) (by omega) (by omega))) (fun _ => vq) (fun _ h => stay (fun z => h ?_)) (fun _ _ => ?_) (fun _ _ h => stay (fun z => ?_)) (fun _ h1 _ h => ?_) (fun _ _ _ _ => vp_in_nI hu.1 (by omega)) (fun _ _ _ _ => vq) (fun _ _ _ _ => vq) (fun _ h1 _ _ => ?_) (fun _ h1 h2 h3 => ?_)
            · rw [hcq, hg.2.1 q (by omega), z.1]; exact eF_0
            · rw [e64]; exact vp_in_nI (by have := hu.1; omega) (by omega)
            · rw [e64, nI_clamp (by have := hu.1; omega), g7] at h
              exact absurd h (of_decide_eq_true z.2)
            · rw [hcq, hg.2.1 q (by omega), eF_m1 hfar] at h1
              have := hB2.lt8 (by omega) h1
              exact absurd h (nI_ge (b := 8) this (by omega))
            · rw [hcq, hg.2.1 q (by omega), eF_m1 hfar] at h1
              have := hB2.lt8 (by omega) h1
              exact vp_in_nI (by omega) (by omega)
            · rw [hcq, hg.2.1 q (by omega), eF_m1 hfar] at h1
              rw [e64, nI_clamp (by have := hu.1; omega), g7] at h2
              have hlt := hB2.lt8 (by omega) h1
              have e : bfI (adjC f) ((bfO (adjC f) i (bf0 s)).2.2.1 i) (q + 1) (bfO (adjC f) i (bf0 s)) = bfX (bfI (adjC f) ((bfO (adjC f) i (bf0 s)).2.2.1 i) q (bfO (adjC f) i (bf0 s))) ((bfO (adjC f) i (bf0 s)).2.2.1 i) q := if_pos ⟨h1, decide_eq_true h2⟩
              rw [nI_1, nI_1, hcq, nI_clamp (by omega), nI_clamp (by omega)]
              have := ih2 (q + 1) _ (by omega) (by rw [e]; exact hg.ext hB2 hu2 h1)
              rw [e] at this
              exact this
        exact inner 8 0 g (by omega) hc
      · have e := bfs_stop (adj := adjC f) (s := s) (i := i) (by omega) (by omega)
        rw [← e]
        refine bX3_spread_46 (fun _ => hQ g (by rw [e]; exact hc)) (fun h => ?_) (fun h => ?_) (fun h => ?_) <;> exact absurd (nI_le (by rw [e]; omega) (by omega)) h
  have init : ∀ (l i : Nat) (g : FF) (v3 v4 v5 : Value), i + l = 8 → (∀ c, c ≠ 8 → g c = f c) → (∀ v, v < i → g 8 v = -1) → XP G mX3_spread d 2 [.ref 3, .int (nI s), .int (nI i), v3, v4, v5] [] sw g Q := by
    intro l
    induction l with
    | zero =>
      intro i g v3 v4 v5 hi go gv
      have e1 : i = 8 := by omega
      subst e1
      refine bX3_spread_2 (fun _ => vs) (fun _ => vs) (fun _ => ?_) (fun h => absurd (by decide) h) (fun h => absurd (by decide) h)
      rw [nI_clamp (by omega)]
      refine outer 8 0 _ v4 v5 (by omega) ⟨fun c c1 c2 c3 => ?_, fun v hv => ?_, fun v hv hne => ?_, fun i hi => ?_⟩
      · rw [upd2_ne _ _ _ c3, upd2_ne _ _ _ c2, upd2_ne _ _ _ c1]; exact go c c1
      · rw [upd2_ne _ _ _ (by omega), upd2_ne _ _ _ (by omega), upd2_self]
        show _ = eF (if v = s then 1 else 0)
        by_cases y : v = s
        · subst y; rw [pk_us, if_pos rfl]; rfl
        · rw [pk_un y, if_neg y, gv v hv]; exact eF_0.symm
      · have : v = s := by
          by_cases y : v = s
          · exact y
          · exact absurd (if_neg y) hne
        subst this
        rw [upd2_ne _ _ _ (by omega), upd2_self, pk_us]
        rfl
      · have : i = 0 := by
          have hi : i < 1 := hi
          omega
        subst this
        rw [upd2_self, pk_us]
        rfl
    | succ l ih =>
      intro i g v3 v4 v5 hi go gv
      have n8 : ¬ (8 : Int32) ≤ nI i := nI_ge (a := i) (b := 8) (by omega) (by omega)
      refine bX3_spread_2 (fun h => absurd h n8) (fun h => absurd h n8) (fun h => absurd h n8) (fun _ => vp_in_nI (by omega) (by omega)) (fun _ => ?_)
      rw [nI_1, nI_clamp (by omega)]
      refine ih (i + 1) _ v3 v4 v5 (by omega) (fun c hc => by rw [upd2_ne _ _ _ hc]; exact go c hc) (fun v hv => ?_)
      rw [upd2_self]
      by_cases y : v = i
      · subst y; exact pk_us
      · rw [pk_un y]; exact gv v (by omega)
  exact bX3_spread_0 (init 8 0 f _ _ _ (by omega) (fun _ _ => rfl) (fun v hv => absurd hv (by omega)))
/-! ===== the reference's laysTrunks ===== -/
def adjM (f : FF) (fr : Bool) (u v : Nat) : Bool := if fr = true then decide (¬ frB (f 86 (8 * u + v)) (cntR (f 83) u v) = 0) else decide (¬ f 86 (8 * u + v) = 0)
theorem adjM_f {f : FF} {fr : Bool} {u v : Nat} (h : fr = false) : adjM f fr u v = true ↔ ¬ f 86 (8 * u + v) = 0 := by
  subst h
  unfold adjM
  rw [if_neg (by decide), decide_eq_true_iff]
theorem adjM_t {f : FF} {fr : Bool} {u v : Nat} (h : fr = true) : adjM f fr u v = true ↔ ¬ frB (f 86 (8 * u + v)) (cntR (f 83) u v) = 0 := by
  subst h
  unfold adjM
  rw [if_pos rfl, decide_eq_true_iff]
def MS (f g : FF) (t : BS) : Prop := (∀ c, c ≠ 87 → c ≠ 88 → g c = f c) ∧ (∀ v, v < 8 → g 87 v = eF (t.1 v)) ∧ (∀ i, i < t.2.2.2 → g 88 i = nI (t.2.2.1 i))
theorem MS.ext {f g : FF} {t : BS} {adj : Nat → Nat → Bool} {s u q : Nat} (h : MS f g t) (hB : BI adj s t) (hu : t.1 u ≠ 0) : MS f (upd2 (upd2 g 87 q (g 87 u + 1)) 88 t.2.2.2 (nI q)) (bfX t u q) := by
  obtain ⟨h1, h2, h4⟩ := h
  have hu8 := (hB.2.1 u hu).1
  refine ⟨fun c c1 c2 => ?_, fun v hv => ?_, fun i hi => ?_⟩
  · rw [upd2_ne _ _ _ c2, upd2_ne _ _ _ c1]; exact h1 c c1 c2
  · rw [upd2_ne _ _ _ (by omega), upd2_self]
    show _ = eF (updN _ _ _ v)
    by_cases y : v = q
    · subst y; rw [pk_us, updN_s, h2 u hu8, eF_add]
    · rw [pk_un y, updN_n y]; exact h2 v hv
  · rw [upd2_self, upd2_ne _ _ _ (by omega)]
    show _ = nI (updN _ _ _ i)
    have hi : i < t.2.2.2 + 1 := hi
    by_cases y : i = t.2.2.2
    · subst y; rw [pk_us, updN_s]
    · rw [pk_un y, updN_n y]; exact h4 i (by omega)
theorem sp_laysTrunks {G : GC} {d : Nat} {sw : Bool} {f : FF} {Q : QQ} {s : Nat} {fr : Bool} (hs : s < 8) (hr : fr = true → rOk (f 83)) (hQ : ∀ g, MS f g (bfs (adjM f fr) s) → Q none sw g) : XP G mX11_laysTrunks (d + 2) 0 [.ref 82, .int (nI s), .int (if fr = true then 1 else 0), .null, .null, .null] [] sw f Q := by
  have vs : vp_in (nI s) 8 := vp_in_nI hs (by omega)
  have outer : ∀ (l i : Nat) (g : FF) (v5 : Value), i + l = 8 → MS f g (bfO (adjM f fr) i (bf0 s)) → XP G mX11_laysTrunks (d + 2) 40 [.ref 82, .int (nI s), .int (if fr = true then 1 else 0), .int (nI (bfO (adjM f fr) i (bf0 s)).2.2.2), .int (nI i), v5] [] sw g Q := by
    intro l
    induction l with
    | zero =>
      intro i g v5 hi hc
      have e1 : i = 8 := by omega
      subst e1
      have m8 := (bfs_ok (adjM f fr) hs).1.m8
      rw [← bfs_eq] at hc ⊢
      exact bX11_laysTrunks_40 (fun _ => hQ g hc) (fun h => absurd (nI_le m8 (by omega)) h)
    | succ l ih =>
      intro i g v5 hi hc
      obtain ⟨hB, -, -⟩ := bfO_ok (bf0_ok (adj := adjM f fr) hs) i
      have m8 := hB.m8
      by_cases c : i < (bfO (adjM f fr) i (bf0 s)).2.2.2
      · have n1 : ¬ nI (bfO (adjM f fr) i (bf0 s)).2.2.2 ≤ nI i := nI_ge c (by omega)
        refine bX11_laysTrunks_40 (fun h => absurd h n1) (fun _ => ?_)
        have hu := hB.2.2.2.1 i c
        have inner : ∀ (l2 q : Nat) (g : FF), q + l2 = 8 → MS f g (bfI (adjM f fr) ((bfO (adjM f fr) i (bf0 s)).2.2.1 i) q (bfO (adjM f fr) i (bf0 s))) → XP G mX11_laysTrunks (d + 2) 49 [.ref 82, .int (nI s), .int (if fr = true then 1 else 0), .int (nI (bfI (adjM f fr) ((bfO (adjM f fr) i (bf0 s)).2.2.1 i) q (bfO (adjM f fr) i (bf0 s))).2.2.2), .int (nI i), .int (nI q)] [] sw g Q := by
          intro l2
          induction l2 with
          | zero =>
            intro q g hq hg
            have e1 : q = 8 := by omega
            subst e1
            refine bX11_laysTrunks_49 (fun _ => ?_) (fun h => absurd (by decide) h) (fun h => absurd (by decide) h) (fun h => absurd (by decide) h) (fun h => absurd (by decide) h) (fun h => absurd (by decide) h) (fun h => absurd (by decide) h) (fun h => absurd (by decide) h) (fun h => absurd (by decide) h) (fun h => absurd (by decide) h) (fun h => absurd (by decide) h) (fun h => absurd (by decide) h) (fun h => absurd (by decide) h)
            have e : bfO (adjM f fr) (i + 1) (bf0 s) = bfI (adjM f fr) ((bfO (adjM f fr) i (bf0 s)).2.2.1 i) 8 (bfO (adjM f fr) i (bf0 s)) := if_pos c
            rw [nI_1, ← e]
            exact ih (i + 1) g _ (by omega) (by rw [e]; exact hg)
          | succ l2 ih2 =>
            intro q g hq hg
            obtain ⟨hB2, hM2, -⟩ := bfI_ok hB hu.2 q (by omega)
            have hu2 : (bfI (adjM f fr) ((bfO (adjM f fr) i (bf0 s)).2.2.1 i) q (bfO (adjM f fr) i (bf0 s))).1 ((bfO (adjM f fr) i (bf0 s)).2.2.1 i) ≠ 0 := by rw [(hM2.1 _ hu.2).1]; exact hu.2
            have hcq : (nI q).toNatClampNeg = q := nI_clamp (by omega)
            have hci : (nI i).toNatClampNeg = i := nI_clamp (by omega)
            have hfar : (bfI (adjM f fr) ((bfO (adjM f fr) i (bf0 s)).2.2.1 i) q (bfO (adjM f fr) i (bf0 s))).1 q < 2 ^ 30 := by
              by_cases z : (bfI (adjM f fr) ((bfO (adjM f fr) i (bf0 s)).2.2.1 i) q (bfO (adjM f fr) i (bf0 s))).1 q = 0
              · omega
              · have := (hB2.2.1 q z).2
                have := hB2.m8
                omega
            have g86 : g 86 = f 86 := hg.1 86 (by omega) (by omega)
            have g83 : g 83 = f 83 := hg.1 83 (by omega) (by omega)
            have g88 : g 88 i = nI ((bfO (adjM f fr) i (bf0 s)).2.2.1 i) := by
              have := hg.2.2 i (Nat.lt_of_lt_of_le c hM2.2.2)
              rw [this, hM2.2.1 i c]
            have e64 : 8 * nI ((bfO (adjM f fr) i (bf0 s)).2.2.1 i) + nI q = nI (8 * ((bfO (adjM f fr) i (bf0 s)).2.2.1 i) + q) := e8' _ _
            have vq : vp_in (nI q) 8 := vp_in_nI (by omega) (by omega)
            have vi : vp_in (nI i) 8 := vp_in_nI (by omega) (by omega)
            have vu : vp_in (g 88 (nI i).toNatClampNeg) 8 := by rw [hci, g88]; exact vp_in_nI hu.1 (by omega)
            have stay : ¬ ((bfI (adjM f fr) ((bfO (adjM f fr) i (bf0 s)).2.2.1 i) q (bfO (adjM f fr) i (bf0 s))).1 q = 0 ∧ adjM f fr ((bfO (adjM f fr) i (bf0 s)).2.2.1 i) q = true) → XP G mX11_laysTrunks (d + 2) 49 [.ref 82, .int (nI s), .int (if fr = true then 1 else 0), .int (nI (bfI (adjM f fr) ((bfO (adjM f fr) i (bf0 s)).2.2.1 i) q (bfO (adjM f fr) i (bf0 s))).2.2.2), .int (nI i), .int (nI q + 1)] [] sw g Q := by
              intro hn
              have e : bfI (adjM f fr) ((bfO (adjM f fr) i (bf0 s)).2.2.1 i) (q + 1) (bfO (adjM f fr) i (bf0 s)) = bfI (adjM f fr) ((bfO (adjM f fr) i (bf0 s)).2.2.1 i) q (bfO (adjM f fr) i (bf0 s)) := if_neg hn
              rw [nI_1, ← e]
              exact ih2 (q + 1) g (by omega) (by rw [e]; exact hg)
            have move : (bfI (adjM f fr) ((bfO (adjM f fr) i (bf0 s)).2.2.1 i) q (bfO (adjM f fr) i (bf0 s))).1 q = 0 → adjM f fr ((bfO (adjM f fr) i (bf0 s)).2.2.1 i) q = true → vp_in (nI (bfI (adjM f fr) ((bfO (adjM f fr) i (bf0 s)).2.2.1 i) q (bfO (adjM f fr) i (bf0 s))).2.2.2) 8 ∧ XP G mX11_laysTrunks (d + 2) 49 [.ref 82, .int (nI s), .int (if fr = true then 1 else 0), .int (nI (bfI (adjM f fr) ((bfO (adjM f fr) i (bf0 s)).2.2.1 i) q (bfO (adjM f fr) i (bf0 s))).2.2.2 + 1), .int (nI i), .int (nI q + 1)] [] sw (upd2 (upd2 g 87 (nI q).toNatClampNeg ((g 87 ((g 88 (nI i).toNatClampNeg).toNatClampNeg)) + 1)) 88 (nI (bfI (adjM f fr) ((bfO (adjM f fr) i (bf0 s)).2.2.1 i) q (bfO (adjM f fr) i (bf0 s))).2.2.2).toNatClampNeg (nI q)) Q := by
              intro h1 h2
              have hlt := hB2.lt8 (by omega) h1
              have e : bfI (adjM f fr) ((bfO (adjM f fr) i (bf0 s)).2.2.1 i) (q + 1) (bfO (adjM f fr) i (bf0 s)) = bfX (bfI (adjM f fr) ((bfO (adjM f fr) i (bf0 s)).2.2.1 i) q (bfO (adjM f fr) i (bf0 s))) ((bfO (adjM f fr) i (bf0 s)).2.2.1 i) q := if_pos ⟨h1, h2⟩
              refine ⟨vp_in_nI hlt (by omega), ?_⟩
              rw [nI_1, nI_1, hcq, hci, g88, nI_clamp (by have := hu.1; omega), nI_clamp (by omega)]
              have := ih2 (q + 1) _ (by omega) (by rw [e]; exact hg.ext hB2 hu2)
              rw [e] at this
              exact this
            have a0 : g 87 (nI q).toNatClampNeg = -1 ↔ (bfI (adjM f fr) ((bfO (adjM f fr) i (bf0 s)).2.2.1 i) q (bfO (adjM f fr) i (bf0 s))).1 q = 0 := by rw [hcq, hg.2.1 q (by omega), eF_m1 hfar]
            have cc : (8 * (g 88 (nI i).toNatClampNeg) + nI q).toNatClampNeg = 8 * ((bfO (adjM f fr) i (bf0 s)).2.2.1 i) + q := by rw [hci, g88, e64, nI_clamp (by have := hu.1; omega)]
            have v64 : vp_in (8 * (g 88 (nI i).toNatClampNeg) + nI q) 64 := by rw [hci, g88, e64]; exact vp_in_nI (by have := hu.1; omega) (by omega)
            have n8 : ¬ (8 : Int32) ≤ nI q := nI_ge (a := q) (b := 8) (by omega) (by omega)
            have aT : fr = false → (adjM f fr ((bfO (adjM f fr) i (bf0 s)).2.2.1 i) q = true ↔ ¬ g 86 (8 * (g 88 (nI i).toNatClampNeg) + nI q).toNatClampNeg = 0) := by
              intro hfr
              rw [cc, g86]
              exact adjM_f hfr
            have z0 : (if fr = true then (1 : Int32) else 0) = 0 → fr = false := by cases fr <;> simp
            have z1 : ¬ (if fr = true then (1 : Int32) else 0) = 0 → fr = true := by cases fr <;> simp
            refine bX11_laysTrunks_49 (fun h => absurd h n8) (fun _ => vq) (fun _ h => stay (fun z => h (a0.mpr z.1))) (fun _ _ _ => vi) (fun _ _ _ => v64) (fun _ _ _ _ => vi) (fun _ _ _ _ => vu) (fun _ _ _ _ => vq) (fun _ h1 h2 h3 => (move (a0.mp h1) ((aT (z0 h2)).mpr h3)).1) (fun _ h1 h2 h3 => (move (a0.mp h1) ((aT (z0 h2)).mpr h3)).2) (fun _ h1 h2 h3 => stay (fun z => (aT (z0 h2)).mp z.2 h3)) (fun _ _ _ => vi) (fun _ h1 h2 => ?_)
            have hfr := z1 h2
            rw [hci, g88]
            have adT : adjM f fr ((bfO (adjM f fr) i (bf0 s)).2.2.1 i) q = true ↔ ¬ frB (g 86 (8 * ((bfO (adjM f fr) i (bf0 s)).2.2.1 i) + q)) (cntR (g 83) ((bfO (adjM f fr) i (bf0 s)).2.2.1 i) q) = 0 := by
              rw [g86, g83]
              exact adjM_t hfr
            refine sp_freeBetween hu.1 (by omega) (by rw [g83]; exact hr hfr) ?_
            exact bX11_laysTrunks_84 (fun _ => vi) (fun _ => vu) (fun _ => vq) (fun h3 => (move (a0.mp h1) (adT.mpr h3)).1) (fun h3 => (move (a0.mp h1) (adT.mpr h3)).2) (fun h3 => stay (fun z => adT.mp z.2 h3))
        exact inner 8 0 g (by omega) hc
      · have e := bfs_stop (adj := adjM f fr) (s := s) (i := i) (by omega) (by omega)
        rw [← e]
        exact bX11_laysTrunks_40 (fun _ => hQ g (by rw [e]; exact hc)) (fun h => absurd (nI_le (by rw [e]; omega) (by omega)) h)
  have init : ∀ (l i : Nat) (g : FF) (v4 v5 : Value), i + l = 8 → (∀ c, c ≠ 87 → g c = f c) → (∀ v, v < i → g 87 v = -1) → XP G mX11_laysTrunks (d + 2) 2 [.ref 82, .int (nI s), .int (if fr = true then 1 else 0), .int (nI i), v4, v5] [] sw g Q := by
    intro l
    induction l with
    | zero =>
      intro i g v4 v5 hi go gv
      have e1 : i = 8 := by omega
      subst e1
      refine bX11_laysTrunks_2 (fun _ => vs) (fun _ => ?_) (fun h => absurd (by decide) h) (fun h => absurd (by decide) h)
      rw [nI_clamp (by omega)]
      refine outer 8 0 _ v5 (by omega) ⟨fun c c1 c2 => ?_, fun v hv => ?_, fun i hi => ?_⟩
      · rw [upd2_ne _ _ _ c2, upd2_ne _ _ _ c1]; exact go c c1
      · rw [upd2_ne _ _ _ (by omega), upd2_self]
        show _ = eF (if v = s then 1 else 0)
        by_cases y : v = s
        · subst y; rw [pk_us, if_pos rfl]; rfl
        · rw [pk_un y, if_neg y, gv v hv]; exact eF_0.symm
      · have : i = 0 := by
          have hi : i < 1 := hi
          omega
        subst this
        rw [upd2_self, pk_us]
        rfl
    | succ l ih =>
      intro i g v4 v5 hi go gv
      have n8 : ¬ (8 : Int32) ≤ nI i := nI_ge (a := i) (b := 8) (by omega) (by omega)
      refine bX11_laysTrunks_2 (fun h => absurd h n8) (fun h => absurd h n8) (fun _ => vp_in_nI (by omega) (by omega)) (fun _ => ?_)
      rw [nI_1, nI_clamp (by omega)]
      refine ih (i + 1) _ v4 v5 (by omega) (fun c hc => by rw [upd2_ne _ _ _ hc]; exact go c hc) (fun v hv => ?_)
      rw [upd2_self]
      by_cases y : v = i
      · subst y; exact pk_us
      · rw [pk_un y]; exact gv v (by omega)
  exact bX11_laysTrunks_0 (init 8 0 f _ _ (by omega) (fun _ _ => rfl) (fun v hv => absurd hv (by omega)))
