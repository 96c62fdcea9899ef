/-! ===== in the middle ===== -/
def fsum (t : BS) (q : Nat) : Nat := sumN (fun v => t.1 v - 1) q
def fcnt (t : BS) (q : Nat) : Nat := cntP (fun v => decide (t.1 v ≠ 0)) q
def midS (t : BS) (e : Nat) (b : Nat × Nat × Nat) : Nat × Nat × Nat := if b.2.1 < t.2.2.2 ∨ (t.2.2.2 = b.2.1 ∧ fsum t 8 < b.2.2) then (e, t.2.2.2, fsum t 8) else b
def mid (adj : Nat → Nat → Bool) : Nat → Nat × Nat × Nat
  | 0 => (0, 0, 0)
  | e + 1 => midS (bfs adj e) e (mid adj e)
theorem fsum_le {t : BS} (h : ∀ v, t.1 v ≤ 8) (q : Nat) : fsum t q ≤ 7 * q := sumN_le q (fun i _ => by have := h i; omega)
theorem mid_le (adj : Nat → Nat → Bool) : ∀ e, e ≤ 8 → (mid adj e).1 ≤ 8 ∧ (mid adj e).2.1 ≤ 8 ∧ (mid adj e).2.2 ≤ 56 := by
  intro e
  induction e with
  | zero => intro _; exact ⟨Nat.zero_le _, Nat.zero_le _, Nat.zero_le _⟩
  | succ e ih =>
    intro he
    have hst : mid adj (e + 1) = midS (bfs adj e) e (mid adj e) := rfl
    have h2 := (bfs_ok adj (show e < 8 by omega)).1.m8
    have h3 := fsum_le (t := bfs adj e) (bfs_le (show e < 8 by omega)) 8
    rw [hst]
    generalize bfs adj e = t at h2 h3 ⊢
    unfold midS
    split
    · exact ⟨by show e ≤ 8; omega, h2, h3⟩
    · exact ih (by omega)
theorem eF_mx (y : Nat) (hy : y < 2 ^ 30) : (if 0 < eF y then eF y else 0) = nI (y - 1) := by
  cases y with
  | zero => rfl
  | succ k =>
    rw [eF_s]
    show _ = nI k
    by_cases z : k = 0
    · subst z; rfl
    · rw [if_pos (show 0 < nI k from nI_lt (a := 0) (by omega) (by omega))]
theorem sp_middle {G : GC} {d : Nat} {sw : Bool} {f : FF} {Q : QQ} (hN : RN f) (hQ : ∀ g : FF, (∀ c, (c < 5 ∨ 10 < c ∨ c = 6) → g c = f c) → Q (some (.int (nI (mid (adjM f false) 8).1))) sw g) : XP G mX3_middle (d + 2) 0 [.ref 3, .null, .null, .null, .null, .null, .null, .null] [] sw f Q := by
  refine bX3_middle_0 (sp_leaveRoom sh6 (by omega) (fun g go g7 => bX3_middle_10 ?_))
  have ea : ∀ u v, u < 8 → v < 8 → adjC g u v = adjM f false u v := by
    intro u v hu hv
    rw [Bool.eq_iff_iff]
    unfold adjC adjM
    obtain ⟨k1, k2, k3⟩ := hN.1 (8 * u + v) (by omega)
    obtain ⟨c, hc, ec⟩ := isN_nI k2 (by omega)
    rw [if_neg (by decide), decide_eq_true_iff, decide_eq_true_iff, g7 _ (by omega), bnd_pos (by decide), k1, k3, ec, show nI c - 0 = nI c by simp, nI_toInt (by omega)]
    constructor
    · intro h; exact nI_ne0 (by omega) (by omega)
    · intro h
      have : c ≠ 0 := fun z => h (by rw [z]; rfl)
      omega
  have loop : ∀ (l e : Nat) (g3 : FF) (v5 v6 v7 : Value), e + l = 8 → (∀ c, c ≠ 8 → c ≠ 9 → c ≠ 10 → g3 c = g c) → XP G mX3_middle (d + 2) 19 [.ref 3, .int (nI (mid (adjM f false) e).1), .int (nI (mid (adjM f false) e).2.1), .int (nI (mid (adjM f false) e).2.2), .int (nI e), v5, v6, v7] [] sw g3 Q := by
    intro l
    induction l with
    | zero =>
      intro e g3 v5 v6 v7 he go3
      have e1 : e = 8 := by omega
      subst e1
      exact bX3_middle_19 (fun _ => hQ g3 (fun c hc => by rw [go3 c (by omega) (by omega) (by omega)]; exact go c (by omega))) (fun h => absurd (by decide) h)
    | succ l ih =>
      intro e g3 v5 v6 v7 he go3
      have he8 : e < 8 := by omega
      refine bX3_middle_19 (fun h => absurd h (nI_ge (a := e) (b := 8) (by omega) (by omega))) (fun _ => sp_spread he8 (fun g4 hc => bX3_middle_32 ?_))
      have eb : bfs (adjC g3) e = bfs (adjM f false) e := bfs_cg he8 (fun u v hu hv => by
        have : adjC g3 u v = adjC g u v := by unfold adjC; rw [go3 7 (by omega) (by omega) (by omega)]
        rw [this]
        exact ea u v hu hv)
      rw [eb] at hc
      have hm8 := (bfs_ok (adjM f false) he8).1.m8
      have bl := bfs_le (adj := adjM f false) he8
      obtain ⟨l1, l2, l3⟩ := mid_le (adjM f false) e (by omega)
      have hst : mid (adjM f false) (e + 1) = midS (bfs (adjM f false) e) e (mid (adjM f false) e) := rfl
      rw [eb]
      generalize bfs (adjM f false) e = t at hc hm8 bl hst ⊢
      obtain ⟨c1, c2, c3, c4⟩ := hc
      have hs8 := fsum_le bl 8
      have inner : ∀ (l2 q : Nat), q + l2 = 8 → XP G mX3_middle (d + 2) 40 [.ref 3, .int (nI (mid (adjM f false) e).1), .int (nI (mid (adjM f false) e).2.1), .int (nI (mid (adjM f false) e).2.2), .int (nI e), .int (nI t.2.2.2), .int (nI (fsum t q)), .int (nI q)] [] sw g4 Q := by
        intro l2
        induction l2 with
        | zero =>
          intro q hq
          have e1 : q = 8 := by omega
          subst e1
          have nx : ∀ (b : Nat × Nat × Nat) (v5 v6 v7 : Value), mid (adjM f false) (e + 1) = b → XP G mX3_middle (d + 2) 19 [.ref 3, .int (nI b.1), .int (nI b.2.1), .int (nI b.2.2), .int (nI e + 1), v5, v6, v7] [] sw g4 Q := by
            intro b v5 v6 v7 hb
            rw [nI_1, ← hb]
            exact ih (e + 1) g4 v5 v6 v7 (by omega) (fun c d1 d2 d3 => by rw [c1 c d1 d2 d3]; exact go3 c d1 d2 d3)
          refine bX3_middle_40 (fun _ h => nx (e, t.2.2.2, fsum t 8) _ _ _ (hst.trans (if_pos (Or.inl ((nI_ltI (by omega) (by omega)).mp h))))) (fun _ h1 h2 => nx _ _ _ _ (hst.trans (if_neg ?_))) (fun _ h1 h2 h3 => nx _ _ _ _ (hst.trans (if_neg ?_))) (fun _ h1 h2 h3 => nx (e, t.2.2.2, fsum t 8) _ _ _ (hst.trans (if_pos (Or.inr ?_)))) (fun h => absurd (by decide) h) (fun h => absurd (by decide) h)
          · rw [nI_ltI (by omega) (by omega)] at h1
            rw [nI_eq (by omega) (by omega)] at h2
            omega
          · rw [nI_ltI (by omega) (by omega)] at h1
            rw [nI_leI (by omega) (by omega)] at h3
            omega
          · rw [nI_eq (by omega) (by omega)] at h2
            rw [nI_leI (by omega) (by omega)] at h3
            omega
        | succ l2 ih2 =>
          intro q hq
          have n8 : ¬ (8 : Int32) ≤ nI q := nI_ge (a := q) (b := 8) (by omega) (by omega)
          refine bX3_middle_40 (fun h => absurd h n8) (fun h => absurd h n8) (fun h => absurd h n8) (fun h => absurd h n8) (fun _ => vp_in_nI (by omega) (by omega)) (fun _ => ?_)
          rw [nI_clamp (by omega), c2 q (by omega), eF_mx _ (by have := bl q; omega), nI_1, nI_add]
          exact ih2 (q + 1) (by omega)
      exact inner 8 0 (by omega)
  exact loop 8 0 g .null .null .null (by omega) (fun _ _ _ _ => rfl)
theorem sp_inTheMiddle {G : GC} {d : Nat} {sw : Bool} {f : FF} {Q : QQ} (hQ : ∀ g : FF, (∀ c, (c < 87 ∨ 89 < c) → g c = f c) → Q (some (.int (nI (mid (adjM f false) 8).1))) sw g) : XP G mX11_inTheMiddle (d + 3) 0 [.ref 82, .null, .null, .null, .null, .null, .null, .null] [] sw f Q := by
  have loop : ∀ (l e : Nat) (x1 : Int32) (g3 : FF) (v5 v6 v7 : Value), e + l = 8 → (e ≠ 0 → x1 = nI (mid (adjM f false) e).1) → (∀ c, c ≠ 87 → c ≠ 88 → g3 c = f c) → XP G mX11_inTheMiddle (d + 3) 9 [.ref 82, .int x1, .int (nI (mid (adjM f false) e).2.1), .int (nI (mid (adjM f false) e).2.2), .int (nI e), v5, v6, v7] [] sw g3 Q := by
    intro l
    induction l with
    | zero =>
      intro e x1 g3 v5 v6 v7 he hx go3
      have e1 : e = 8 := by omega
      subst e1
      refine bX11_inTheMiddle_9 (fun _ => ?_) (fun h => absurd (by decide) h)
      rw [hx (by omega)]
      exact hQ g3 (fun c hc => go3 c (by omega) (by omega))
    | succ l ih =>
      intro e x1 g3 v5 v6 v7 he hx go3
      have he8 : e < 8 := by omega
      have eA : adjM g3 false = adjM f false := by
        funext u v
        unfold adjM
        rw [go3 83 (by omega) (by omega), go3 86 (by omega) (by omega)]
      refine bX11_inTheMiddle_9 (fun h => absurd h (nI_ge (a := e) (b := 8) (by omega) (by omega))) (fun _ => sp_laysTrunks (fr := false) he8 (fun h => absurd h (by decide)) (fun g4 hc => bX11_inTheMiddle_23 ?_))
      rw [eA] at hc
      have hst : mid (adjM f false) (e + 1) = midS (bfs (adjM f false) e) e (mid (adjM f false) e) := rfl
      have hB := (bfs_ok (adjM f false) he8).1
      have hm8 := hB.m8
      have bl := bfs_le (adj := adjM f false) he8
      generalize bfs (adjM f false) e = t at hc hB hm8 bl hst
      obtain ⟨c1, c2, c4⟩ := hc
      obtain ⟨l1, l2, l3⟩ := mid_le (adjM f false) e (by omega)
      have hs8 := fsum_le bl 8
      have hc8 : fcnt t 8 = t.2.2.2 := hB.2.2.1
      have hpos : 0 < t.2.2.2 := by
        obtain ⟨i, hi, -⟩ := hB.2.2.2.2.1 e (by rw [hB.1]; omega)
        omega
      have inner : ∀ (l2 q : Nat), q + l2 = 8 → XP G mX11_inTheMiddle (d + 3) 32 [.ref 82, .int x1, .int (nI (mid (adjM f false) e).2.1), .int (nI (mid (adjM f false) e).2.2), .int (nI e), .int (nI (fcnt t q)), .int (nI (fsum t q)), .int (nI q)] [] sw g4 Q := by
        intro l2
        induction l2 with
        | zero =>
          intro q hq
          have e1 : q = 8 := by omega
          subst e1
          have go4 : ∀ c, c ≠ 87 → c ≠ 88 → g4 c = f c := fun c d1 d2 => by rw [c1 c d1 d2]; exact go3 c d1 d2
          have new : (mid (adjM f false) e).2.1 < t.2.2.2 ∨ (t.2.2.2 = (mid (adjM f false) e).2.1 ∧ fsum t 8 < (mid (adjM f false) e).2.2) → ∀ v5 v6 v7 : Value, XP G mX11_inTheMiddle (d + 3) 9 [.ref 82, .int (nI e), .int (nI t.2.2.2), .int (nI (fsum t 8)), .int (nI e + 1), v5, v6, v7] [] sw g4 Q := by
            intro hc v5 v6 v7
            have hm : mid (adjM f false) (e + 1) = (e, t.2.2.2, fsum t 8) := hst.trans (if_pos hc)
            have := ih (e + 1) (nI e) g4 v5 v6 v7 (by omega) (fun _ => by rw [hm]) go4
            rw [hm] at this
            rw [nI_1]
            exact this
          have old : ¬ ((mid (adjM f false) e).2.1 < t.2.2.2 ∨ (t.2.2.2 = (mid (adjM f false) e).2.1 ∧ fsum t 8 < (mid (adjM f false) e).2.2)) → ∀ v5 v6 v7 : Value, XP G mX11_inTheMiddle (d + 3) 9 [.ref 82, .int x1, .int (nI (mid (adjM f false) e).2.1), .int (nI (mid (adjM f false) e).2.2), .int (nI e + 1), v5, v6, v7] [] sw g4 Q := by
            intro hc v5 v6 v7
            have hm : mid (adjM f false) (e + 1) = mid (adjM f false) e := hst.trans (if_neg hc)
            have hne : e ≠ 0 := by
              intro z
              subst z
              exact hc (Or.inl hpos)
            have := ih (e + 1) x1 g4 v5 v6 v7 (by omega) (fun _ => by rw [hm]; exact hx hne) go4
            rw [hm] at this
            rw [nI_1]
            exact this
          rw [hc8]
          refine bX11_inTheMiddle_32 (fun _ h => old ?_ _ _ _) (fun _ h1 h2 => new ?_ _ _ _) (fun _ h1 h2 h3 => new ?_ _ _ _) (fun _ h1 h2 h3 => old ?_ _ _ _) (fun h => absurd (by decide) h) (fun h => absurd (by decide) h) (fun h => absurd (by decide) h) (fun h => absurd (by decide) h)
          · rw [nI_ltI (by omega) (by omega)] at h
            omega
          · rw [nI_ltI (by omega) (by omega)] at h1
            rw [nI_eq (by omega) (by omega)] at h2
            omega
          · rw [nI_eq (by omega) (by omega)] at h2
            rw [nI_ltI (by omega) (by omega)] at h3
            omega
          · rw [nI_ltI (by omega) (by omega)] at h1
            rw [nI_eq (by omega) (by omega)] at h2
            rw [nI_ltI (by omega) (by omega)] at h3
            omega
        | succ l2 ih2 =>
          intro q hq
          have n8 : ¬ (8 : Int32) ≤ nI q := nI_ge (a := q) (b := 8) (by omega) (by omega)
          have vq : vp_in (nI q) 8 := vp_in_nI (by omega) (by omega)
          have hq8 : g4 87 (nI q).toNatClampNeg = eF (t.1 q) := by rw [nI_clamp (by omega)]; exact c2 q (by omega)
          have blq := bl q
          refine bX11_inTheMiddle_32 (fun h => absurd h n8) (fun h => absurd h n8) (fun h => absurd h n8) (fun h => absurd h n8) (fun _ => vq) (fun _ _ => vq) (fun _ h => ?_) (fun _ h => ?_)
          · rw [hq8, eF_m1 (by omega)] at h
            obtain ⟨y, hy⟩ : ∃ y, t.1 q = y + 1 := ⟨_, (Nat.sub_add_cancel (Nat.pos_of_ne_zero h)).symm⟩
            have s1 : fsum t (q + 1) = fsum t q + y := by
              show fsum t q + (t.1 q - 1) = _
              rw [hy]
              rfl
            have s2 : fcnt t (q + 1) = fcnt t q + 1 := by
              show fcnt t q + (if decide (t.1 q ≠ 0) = true then 1 else 0) = _
              rw [if_pos (decide_eq_true h)]
            rw [hq8, hy, eF_s, nI_1, nI_1, nI_add, ← s1, ← s2]
            exact ih2 (q + 1) (by omega)
          · rw [hq8, eF_m1 (by omega)] at h
            have s1 : fsum t (q + 1) = fsum t q := by
              show fsum t q + (t.1 q - 1) = _
              rw [h]
              rfl
            have s2 : fcnt t (q + 1) = fcnt t q := by
              show fcnt t q + (if decide (t.1 q ≠ 0) = true then 1 else 0) = _
              rw [if_neg (fun z => (of_decide_eq_true z) h)]
              rfl
            rw [nI_1, ← s1, ← s2]
            exact ih2 (q + 1) (by omega)
      exact inner 8 0 (by omega)
  exact bX11_inTheMiddle_0 (loop 8 0 (-1) f .null .null .null (by omega) (fun h => absurd rfl h) (fun _ _ _ => rfl))
theorem op_inTheMiddle (G : GC) : OP17 G RR := by
  intro sw f hR
  obtain ⟨h1, h2, h3, h4, h5, h6, h7⟩ := id hR
  refine bX10_inTheMiddle_0 (d := 996) (sp_middle h2 (fun g go => bX10_inTheMiddle_7 (d := 996) ⟨_, rfl, ?_⟩))
  have eA : adjM g false = adjM f false := by
    funext u v
    unfold adjM
    rw [go 83 (by omega), go 86 (by omega)]
  refine sp_inTheMiddle (d := 996) (fun g2 go2 => ⟨by rw [eA], hR.off (fun c d1 d2 => by rw [go2 c d2]; exact go c d1)⟩)
