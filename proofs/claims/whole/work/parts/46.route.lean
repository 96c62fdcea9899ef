/-! ===== routes ===== -/
theorem edg_sym (ro : Nat → Int32) (e q i k : Nat) : edg ro e q i k = edg ro q e i k := by
  unfold edg
  exact decide_eq_decide.mpr Or.comm
theorem cntU_sym (le tr ro : Nat → Int32) (e q : Nat) : cntU le tr ro e q = cntU le tr ro q e := by
  rw [cntU_eq, cntU_eq]
  apply sumN_cg
  intro i _
  unfold cuI
  rw [cntP_cg (p := edg ro e q i) (q := edg ro q e i) _ (fun k _ => edg_sym ro e q i k)]
/-- whether a circuit is free between two -/
def adjT (f : FF) (u v : Nat) : Bool := decide (cntR (f 83) u v < (f 86 (8 * u + v)).toNatClampNeg)
theorem adjT_sym {f : FF} (hN : RN f) {u v : Nat} (hu : u < 8) (hv : v < 8) : adjT f u v = adjT f v u := by
  unfold adjT
  have h1 : cntR (f 83) u v = cntR (f 83) v u := cntU_sym _ _ _ _ _
  rw [h1, (hN.1 (8 * u + v) (by omega)).1, (hN.1 (8 * v + u) (by omega)).1, hN.2.1 u v hu hv]
theorem adjT_cg {f g : FF} (h1 : g 83 = f 83) (h2 : g 86 = f 86) : adjT g = adjT f := by
  funext u v
  unfold adjT
  rw [h1, h2]
theorem bnd_pos {x m : Int32} (hm : 0 < m.toInt) : ¬ bnd x m ≤ 0 ↔ 0 < x.toInt := by
  have e0 : (0 : Int32).toInt = 0 := rfl
  unfold bnd
  by_cases c : m < x
  · rw [if_pos c]
    have c1 := Int32.lt_iff_toInt_lt.mp c
    have c2 : (0 : Int32) < m := Int32.lt_iff_toInt_lt.mpr (by omega)
    rw [if_pos c2]
    constructor
    · intro _; omega
    · intro _ h
      have := Int32.le_iff_toInt_le.mp h
      omega
  · rw [if_neg c]
    by_cases c2 : (0 : Int32) < x
    · rw [if_pos c2]
      have c3 := Int32.lt_iff_toInt_lt.mp c2
      constructor
      · intro _; omega
      · intro _ h
        have := Int32.le_iff_toInt_le.mp h
        omega
    · rw [if_neg c2]
      constructor
      · intro h; exact absurd (by decide) h
      · intro h; exact absurd (Int32.lt_iff_toInt_lt.mpr (by omega)) c2
theorem room_adj {f : FF} {w : Nat} (hN : RN f) (hW : RW f w 83) {u v : Nat} (hu : u < 8) (hv : v < 8) {m : Int32} (hm : 0 < m.toInt) : ¬ bnd (f 4 (8 * u + v) - f (w + 12) (8 * u + v)) m ≤ 0 ↔ adjT f u v = true := by
  rw [bnd_pos hm]
  obtain ⟨c, hc, ec⟩ := isN_nI (hN.1 (8 * u + v) (by omega)).2.1 (by omega)
  have eu : f (w + 12) (8 * u + v) = nI (cntR (f 83) u v) := by rw [← hW.cnt]; exact hW.2.2.2.2.1 u v hu hv
  have hn := cntR_le hW.rOk u v
  unfold adjT
  rw [decide_eq_true_iff, (hN.1 (8 * u + v) (by omega)).1, ec, eu, pk_sub_toInt (by omega) (by omega), nI_clamp (by omega)]
  omega
theorem frB_adj {f : FF} (hN : RN f) (hr : rOk (f 83)) {u v : Nat} (hu : u < 8) (hv : v < 8) : ¬ frB (f 86 (8 * u + v)) (cntR (f 83) u v) = 0 ↔ adjT f u v = true := by
  obtain ⟨c, hc, ec⟩ := isN_nI (hN.1 (8 * u + v) (by omega)).2.1 (by omega)
  have hn := cntR_le hr u v
  have e0 : (0 : Int32).toInt = 0 := rfl
  have e := pk_sub_toInt (a := c) (b := cntR (f 83) u v) (by omega) (by omega)
  unfold frB adjT
  rw [(hN.1 (8 * u + v) (by omega)).1, ec, decide_eq_true_iff, nI_clamp (by omega)]
  by_cases c2 : (0 : Int32) < nI c - nI (cntR (f 83) u v)
  · rw [if_pos c2]
    have c3 := Int32.lt_iff_toInt_lt.mp c2
    constructor
    · intro _; omega
    · intro _ h
      rw [h] at e
      omega
  · rw [if_neg c2]
    constructor
    · intro h; exact absurd rfl h
    · intro h; exact absurd (Int32.lt_iff_toInt_lt.mpr (by omega)) c2
/-- a route: from each the lowest of those that are one nearer -/
def IsRt (adj : Nat → Nat → Bool) (far : Nat → Nat) (e : Nat) (p : Nat → Nat) (T : Nat) : Prop := p 0 = e ∧ ∀ k, k < T → p (k + 1) < 8 ∧ adj (p k) (p (k + 1)) = true ∧ far (p (k + 1)) + 1 = far (p k) ∧ ∀ v, v < p (k + 1) → ¬ (adj (p k) v = true ∧ far v + 1 = far (p k))
theorem IsRt.uq {adj : Nat → Nat → Bool} {far : Nat → Nat} {e T : Nat} {p p' : Nat → Nat} (h : IsRt adj far e p T) (h' : IsRt adj far e p' T) : ∀ k, k ≤ T → p k = p' k := by
  intro k
  induction k with
  | zero => intro _; rw [h.1, h'.1]
  | succ k ih =>
    intro hk
    have e := ih (by omega)
    obtain ⟨a1, a2, a3, a4⟩ := h.2 k (by omega)
    obtain ⟨b1, b2, b3, b4⟩ := h'.2 k (by omega)
    rw [← e] at b2 b3 b4
    rcases Nat.lt_trichotomy (p (k + 1)) (p' (k + 1)) with c | c | c
    · exact absurd ⟨a2, a3⟩ (b4 _ c)
    · exact c
    · exact absurd ⟨b2, b3⟩ (a4 _ c)
theorem IsRt.far {adj : Nat → Nat → Bool} {far : Nat → Nat} {e T : Nat} {p : Nat → Nat} (h : IsRt adj far e p T) : ∀ k, k ≤ T → far (p k) + k = far e := by
  intro k
  induction k with
  | zero => intro _; rw [h.1]; rfl
  | succ k ih =>
    intro hk
    have e := ih (by omega)
    obtain ⟨a1, a2, a3, a4⟩ := h.2 k (by omega)
    omega
theorem bi_nx {adj : Nat → Nat → Bool} {s : Nat} {t : BS} (hB : BI adj s t) (sym : ∀ u v, u < 8 → v < 8 → adj u v = adj v u) {u : Nat} (hu : 1 < t.1 u) : ∃ v, (v < 8 ∧ adj u v = true ∧ t.1 v + 1 = t.1 u) ∧ ∀ x, x < v → ¬ (adj u x = true ∧ t.1 x + 1 = t.1 u) := by
  obtain ⟨b1, b2, b3, b4, b5, b6⟩ := hB
  have hu8 := (b2 u (by omega)).1
  obtain ⟨v, hv, hm⟩ := pk_least (fun v => v < 8 ∧ adj u v = true ∧ t.1 v + 1 = t.1 u) (by
    rcases b6 u (by omega) with c | ⟨c0, c1, c2, c3, c4⟩
    · rw [c.1, b1] at hu; omega
    · exact ⟨t.2.1 u, c1, by rw [sym _ _ hu8 c1]; exact c4, c3.symm⟩)
  exact ⟨v, hv, fun x hx z => hm x hx ⟨by have := hv.1; omega, z⟩⟩
theorem bi_rt {adj : Nat → Nat → Bool} {s : Nat} {t : BS} (hB : BI adj s t) (sym : ∀ u v, u < 8 → v < 8 → adj u v = adj v u) : ∀ (T e : Nat), e < 8 → t.1 e = T + 1 → ∃ p, IsRt adj t.1 e p T ∧ ∀ k, k ≤ T → p k < 8 := by
  intro T
  induction T with
  | zero => intro e he hf; exact ⟨fun _ => e, ⟨rfl, fun k hk => absurd hk (by omega)⟩, fun _ _ => he⟩
  | succ T ih =>
    intro e he hf
    obtain ⟨v, ⟨v1, v2, v3⟩, v4⟩ := bi_nx hB sym (u := e) (by omega)
    obtain ⟨p, hp, hp8⟩ := ih v v1 (by omega)
    refine ⟨fun k => match k with | 0 => e | k + 1 => p k, ⟨rfl, fun k hk => ?_⟩, fun k hk => ?_⟩
    · cases k with
      | zero =>
        show p 0 < 8 ∧ adj e (p 0) = true ∧ t.1 (p 0) + 1 = t.1 e ∧ ∀ v, v < p 0 → ¬ (adj e v = true ∧ t.1 v + 1 = t.1 e)
        rw [hp.1]
        exact ⟨v1, v2, v3, v4⟩
      | succ k => exact hp.2 k (by omega)
    · cases k with
      | zero => exact he
      | succ k => exact hp8 k (by omega)
theorem bfs_le {adj : Nat → Nat → Bool} {s : Nat} (hs : s < 8) (v : Nat) : (bfs adj s).1 v ≤ 8 := by
  have h := (bfs_ok adj hs).1
  by_cases z : (bfs adj s).1 v = 0
  · omega
  · have := (h.2.1 v z).2
    have := h.m8
    omega
theorem eF_inj {a b : Nat} (ha : a < 2 ^ 30) (hb : b < 2 ^ 30) : eF a = eF b ↔ a = b := by
  constructor
  · intro h
    have h2 := congrArg (· + 1) h
    have h2 : eF a + 1 = eF b + 1 := h2
    rw [eF_add, eF_add, eF_s, eF_s] at h2
    exact (nI_eq (by omega) (by omega)).mp h2
  · intro h; rw [h]
theorem eF_pr {a b : Nat} (ha : a < 2 ^ 30) (hb : b < 2 ^ 30) (h1 : 1 ≤ b) : eF a = eF b - 1 ↔ a + 1 = b := by
  obtain ⟨c, rfl⟩ : ∃ c, b = c + 1 := ⟨b - 1, by omega⟩
  rw [eF_s, show nI c - 1 = eF c from rfl, eF_inj ha (by omega)]
  omega
theorem sp_leaveRoom {G : GC} {d : Nat} {sw : Bool} {f : FF} {Q : QQ} {a : Nat} {m : Int32} (ha : SH[a]? = some (0, 64)) (h7 : a ≠ 7) (hQ : ∀ g : FF, (∀ c, c ≠ 7 → g c = f c) → (∀ i, i < 64 → g 7 i = bnd (f 4 i - f a i) m) → Q none sw g) : XP G mX3_leaveRoom (d + 1) 0 [.ref 3, .ref a, .int m, .null] [] sw f Q := by
  have loop : ∀ (l i : Nat) (g : FF), i + l = 64 → (∀ c, c ≠ 7 → g c = f c) → (∀ j, j < i → g 7 j = bnd (f 4 j - f a j) m) → XP G mX3_leaveRoom (d + 1) 2 [.ref 3, .ref a, .int m, .int (nI i)] [] sw g Q := by
    intro l
    induction l with
    | zero =>
      intro i g hi go gv
      have e1 : i = 64 := by omega
      subst e1
      exact bX3_leaveRoom_2 ha (fun _ => hQ g go gv) (fun h => absurd (by decide) h) (fun h => absurd (by decide) h) (fun h => absurd (by decide) h) (fun h => absurd (by decide) h)
    | succ l ih =>
      intro i g hi go gv
      have vi : vp_in (nI i) 64 := vp_in_nI (by omega) (by omega)
      refine bX3_leaveRoom_2 ha (fun h => absurd h (nI_ge (a := i) (b := 64) (by omega) (by omega))) (fun _ => vi) (fun _ => vi) (fun _ => vi) (fun _ => ?_)
      rw [nI_1, nI_clamp (by omega), go 4 (by omega), go a h7]
      refine ih (i + 1) _ (by omega) (fun c hc => by rw [upd2_ne _ _ _ hc]; exact go c hc) (fun j hj => ?_)
      rw [upd2_self]
      by_cases y : j = i
      · subst y; exact pk_us
      · rw [pk_un y]; exact gv j (by omega)
  exact bX3_leaveRoom_0 ha (loop 64 0 f (by omega) (fun _ _ => rfl) (fun j hj => absurd hj (by omega)))
theorem sp_nearer {G : GC} {d : Nat} {sw : Bool} {f : FF} {Q : QQ} {u v : Nat} {far : Nat → Nat} {adj : Nat → Nat → Bool} (hu : u < 8) (hv : v < 8) (h8 : ∀ x, x < 8 → f 8 x = eF (far x)) (hb : ∀ x, far x ≤ 8) (h7 : ∀ x, x < 8 → (¬ f 7 (8 * u + x) ≤ 0 ↔ adj u x = true)) (h1 : adj u v = true ∧ far v + 1 = far u) (h2 : ∀ x, x < v → ¬ (adj u x = true ∧ far x + 1 = far u)) (hQ : Q (some (.int (nI v))) sw f) : XP G mX3_nearer d 0 [.ref 3, .int (nI u), .null] [] sw f Q := by
  have cmp : ∀ x, x < 8 → (f 8 (nI x).toNatClampNeg = f 8 (nI u).toNatClampNeg - 1 ↔ far x + 1 = far u) := by
    intro x hx
    rw [nI_clamp (by omega), nI_clamp (by omega), h8 x hx, h8 u hu]
    exact eF_pr (by have := hb x; omega) (by have := hb u; omega) (by omega)
  have adx : ∀ x, x < 8 → (¬ f 7 (nI u * 8 + nI x).toNatClampNeg ≤ 0 ↔ adj u x = true) := by
    intro x hx
    rw [e8, nI_clamp (by omega)]
    exact h7 x hx
  have loop : ∀ (l i : Nat), i + l = v → XP G mX3_nearer d 2 [.ref 3, .int (nI u), .int (nI i)] [] sw f Q := by
    intro l
    induction l with
    | zero =>
      intro i hi
      have e1 : i = v := by omega
      subst e1
      have n8 : ¬ (8 : Int32) ≤ nI i := nI_ge (a := i) (b := 8) (by omega) (by omega)
      exact bX3_nearer_2 (fun h => absurd h n8) (fun _ => by rw [e8]; exact vp_in_nI (by omega) (by omega)) (fun _ h => absurd h ((adx i hv).mpr h1.1)) (fun _ _ => vp_in_nI (by omega) (by omega)) (fun _ _ => vp_in_nI (by omega) (by omega)) (fun _ _ h => absurd ((cmp i hv).mpr h1.2) h) (fun _ _ _ => hQ)
    | succ l ih =>
      intro i hi
      have n8 : ¬ (8 : Int32) ≤ nI i := nI_ge (a := i) (b := 8) (by omega) (by omega)
      have nx : XP G mX3_nearer d 2 [.ref 3, .int (nI u), .int (nI i + 1)] [] sw f Q := by rw [nI_1]; exact ih (i + 1) (by omega)
      exact bX3_nearer_2 (fun h => absurd h n8) (fun _ => by rw [e8]; exact vp_in_nI (by omega) (by omega)) (fun _ _ => nx) (fun _ _ => vp_in_nI (by omega) (by omega)) (fun _ _ => vp_in_nI (by omega) (by omega)) (fun _ _ _ => nx) (fun _ h3 h4 => absurd ⟨(adx i (by omega)).mp h3, (cmp i (by omega)).mp h4⟩ (h2 i (by omega)))
  exact bX3_nearer_0 (loop v 0 (by omega))
theorem sp_findRoute {G : GC} {d : Nat} {sw : Bool} {f : FF} {Q : QQ} {w e q : Nat} (hw : isW w) (he : e < 8) (hq : q < 8) (hN : RN f) (hW : RW f w 83)
    (h0 : (bfs (adjT f) q).1 e = 0 → ∀ g : FF, (∀ c, (c < 5 ∨ 10 < c ∨ c = 6) → g c = f c) → Q (some (.int (-1))) sw g)
    (h1 : ∀ (T : Nat) (p : Nat → Nat), (bfs (adjT f) q).1 e = T + 1 → T ≤ 7 → IsRt (adjT f) (bfs (adjT f) q).1 e p T → (∀ k, k ≤ T → p k < 8) → ∀ g : FF, (∀ c, (c < 5 ∨ 10 < c ∨ c = 6) → g c = f c) → (∀ k, k ≤ T → g 5 k = nI (p k)) → Q (some (.int (nI T))) sw g) :
    XP G mX3_findRoute (d + 2) 0 [.ref 3, .int (nI e), .int (nI q), .ref (w + 12), .null] [] sw f Q := by
  have ha := shW_12 hw
  have ve : vp_in (nI e) 8 := vp_in_nI he (by omega)
  refine bX3_findRoute_0 ha (sp_leaveRoom ha (by omega) (fun g go g7 => ?_))
  have ea : ∀ u v, u < 8 → v < 8 → adjC g u v = adjT f u v := by
    intro u v hu hv
    rw [Bool.eq_iff_iff]
    unfold adjC
    rw [decide_eq_true_iff, g7 (8 * u + v) (by omega)]
    exact room_adj hN hW hu hv (by decide)
  have eb : bfs (adjC g) q = bfs (adjT f) q := bfs_cg hq ea
  refine bX3_findRoute_7 ha (sp_spread hq (fun g2 hc => ?_))
  rw [eb] at hc
  have hB := (bfs_ok (adjT f) hq).1
  have bl := bfs_le (adj := adjT f) hq
  generalize bfs (adjT f) q = t at hc hB bl h0 h1
  obtain ⟨c1, c2, c3, c4⟩ := hc
  have off : ∀ c, (c < 5 ∨ 10 < c ∨ c = 6) → g2 c = f c := fun c hc => by rw [c1 c (by omega) (by omega) (by omega)]; exact go c (by omega)
  have ce : (nI e).toNatClampNeg = e := nI_clamp (by omega)
  have fe : g2 8 (nI e).toNatClampNeg = eF (t.1 e) := by rw [ce]; exact c2 e he
  by_cases z : t.1 e = 0
  · have fz : g2 8 (nI e).toNatClampNeg = -1 := by rw [fe, z]; exact eF_0
    exact bX3_findRoute_12 ha ve (fun h => absurd fz h) (fun _ => h0 z g2 off)
  · obtain ⟨T, hT⟩ : ∃ T, t.1 e = T + 1 := ⟨t.1 e - 1, by omega⟩
    have fn : ¬ g2 8 (nI e).toNatClampNeg = -1 := by rw [fe, eF_m1 (by have := bl e; omega)]; exact z
    obtain ⟨p, hp, hp8⟩ := bi_rt hB (fun u v hu hv => adjT_sym hN hu hv) T e he hT
    have hT7 : T ≤ 7 := by have := bl e; omega
    refine bX3_findRoute_12 ha ve (fun _ => ?_) (fun h => absurd h fn)
    have loop : ∀ (l j : Nat) (g3 : FF), j + l = T → (∀ c, c ≠ 5 → g3 c = g2 c) → (∀ k, k ≤ j → g3 5 k = nI (p k)) → XP G mX3_findRoute (d + 2) 35 [.ref 3, .int (nI e), .int (nI q), .ref (w + 12), .int (nI (j + 1))] [] sw g3 Q := by
      intro l
      induction l with
      | zero =>
        intro j g3 hj go3 gp
        have e1 : j = T := by omega
        subst e1
        have f3 : g3 8 (nI e).toNatClampNeg = nI j := by rw [go3 8 (by omega), fe, hT, eF_s]
        have lt : g3 8 (nI e).toNatClampNeg < nI (j + 1) := by rw [f3]; exact nI_lt (by omega) (by omega)
        refine bX3_findRoute_35 ha ve (fun _ => ve) (fun _ => ?_) (fun h => absurd lt h) (fun h => absurd lt h)
        rw [f3]
        exact h1 j p hT hT7 hp hp8 g3 (fun c hc => by rw [go3 c (by omega)]; exact off c hc) gp
      | succ l ih =>
        intro j g3 hj go3 gp
        have f3 : g3 8 (nI e).toNatClampNeg = nI T := by rw [go3 8 (by omega), fe, hT, eF_s]
        have nlt : ¬ g3 8 (nI e).toNatClampNeg < nI (j + 1) := by rw [f3]; exact nI_nlt (by omega) (by omega)
        have pr : nI (j + 1) - 1 = nI j := nI_pred j
        obtain ⟨r1, r2, r3, r4⟩ := hp.2 j (by omega)
        refine bX3_findRoute_35 ha ve (fun h => absurd h nlt) (fun h => absurd h nlt) (fun _ => by rw [pr]; exact vp_in_nI (by omega) (by omega)) (fun _ => ?_)
        rw [pr, nI_clamp (by omega), gp j (Nat.le_refl _)]
        refine sp_nearer (far := t.1) (adj := adjT f) (v := p (j + 1)) (hp8 j (by omega)) r1 (fun x hx => by rw [go3 8 (by omega)]; exact c2 x hx) bl (fun x hx => ?_) ⟨r2, r3⟩ r4 ?_
        · have h8j := hp8 j (by omega)
          rw [go3 7 (by omega), c1 7 (by omega) (by omega) (by omega), g7 _ (by omega)]
          exact room_adj hN hW h8j hx (by decide)
        · refine bX3_findRoute_65 ha (vp_in_nI (by omega) (by omega)) ?_
          rw [nI_1, nI_clamp (by omega)]
          refine ih (j + 1) _ (by omega) (fun c hc => by rw [upd2_ne _ _ _ hc]; exact go3 c hc) (fun k hk => ?_)
          rw [upd2_self]
          by_cases y : k = j + 1
          · subst y; exact pk_us
          · rw [pk_un y]; exact gp k (by omega)
    refine loop T 0 _ (by omega) (fun c hc => upd2_ne _ _ _ hc) (fun k hk => ?_)
    have : k = 0 := by omega
    subst this
    rw [upd2_self, pk_us, hp.1]
theorem sp_laysRoute {G : GC} {d : Nat} {sw : Bool} {f : FF} {Q : QQ} {e q : Nat} (he : e < 8) (hq : q < 8) (hN : RN f) (hr : rOk (f 83))
    (h0 : (bfs (adjT f) q).1 e = 0 → ∀ g : FF, (∀ c, (c < 87 ∨ 89 < c) → g c = f c) → Q (some (.int (-1))) sw g)
    (h1 : ∀ (T : Nat) (p : Nat → Nat), (bfs (adjT f) q).1 e = T + 1 → T ≤ 7 → IsRt (adjT f) (bfs (adjT f) q).1 e p T → (∀ k, k ≤ T → p k < 8) → ∀ g : FF, (∀ c, (c < 87 ∨ 89 < c) → g c = f c) → (∀ k, k ≤ T → g 89 k = nI (p k)) → Q (some (.int (nI T))) sw g) :
    XP G mX11_laysRoute (d + 3) 0 [.ref 82, .int (nI e), .int (nI q), .null, .null, .null] [] sw f Q := by
  have ve : vp_in (nI e) 8 := vp_in_nI he (by omega)
  have ea : ∀ u v, u < 8 → v < 8 → adjM f true u v = adjT f u v := by
    intro u v hu hv
    rw [Bool.eq_iff_iff]
    unfold adjM
    rw [if_pos rfl, decide_eq_true_iff]
    exact frB_adj hN hr hu hv
  have eb : bfs (adjM f true) q = bfs (adjT f) q := bfs_cg hq ea
  refine bX11_laysRoute_0 (sp_laysTrunks (fr := true) hq (fun _ => hr) (fun g2 hc => ?_))
  rw [eb] at hc
  have hB := (bfs_ok (adjT f) hq).1
  have bl := bfs_le (adj := adjT f) hq
  generalize bfs (adjT f) q = t at hc hB bl h0 h1
  obtain ⟨c1, c2, c4⟩ := hc
  have off : ∀ c, (c < 87 ∨ 89 < c) → g2 c = f c := fun c hc => c1 c (by omega) (by omega)
  have ce : (nI e).toNatClampNeg = e := nI_clamp (by omega)
  have fe : g2 87 (nI e).toNatClampNeg = eF (t.1 e) := by rw [ce]; exact c2 e he
  by_cases z : t.1 e = 0
  · have fz : g2 87 (nI e).toNatClampNeg = -1 := by rw [fe, z]; exact eF_0
    exact bX11_laysRoute_6 ve (fun h => absurd fz h) (fun _ => h0 z g2 off)
  · obtain ⟨T, hT⟩ : ∃ T, t.1 e = T + 1 := ⟨t.1 e - 1, by omega⟩
    have fn : ¬ g2 87 (nI e).toNatClampNeg = -1 := by rw [fe, eF_m1 (by have := bl e; omega)]; exact z
    obtain ⟨p, hp, hp8⟩ := bi_rt hB (fun u v hu hv => adjT_sym hN hu hv) T e he hT
    have hT7 : T ≤ 7 := by have := bl e; omega
    refine bX11_laysRoute_6 ve (fun _ => ?_) (fun h => absurd h fn)
    rw [fe, hT, eF_s]
    have loop : ∀ (l j : Nat) (g3 : FF) (v5 : Value), j + l = T → (∀ c, c ≠ 89 → g3 c = g2 c) → (∀ k, k ≤ j → g3 89 k = nI (p k)) → XP G mX11_laysRoute (d + 3) 30 [.ref 82, .int (nI e), .int (nI q), .int (nI T), .int (nI (j + 1)), v5] [] sw g3 Q := by
      intro l
      induction l with
      | zero =>
        intro j g3 v5 hj go3 gp
        have e1 : j = T := by omega
        subst e1
        have lt : nI j < nI (j + 1) := nI_lt (by omega) (by omega)
        exact bX11_laysRoute_30 (fun _ => h1 j p hT hT7 hp hp8 g3 (fun c hc => by rw [go3 c (by omega)]; exact off c hc) gp) (fun h => absurd lt h)
      | succ l ih =>
        intro j g3 v5 hj go3 gp
        have nlt : ¬ nI T < nI (j + 1) := nI_nlt (by omega) (by omega)
        have pr : nI (j + 1) - 1 = nI j := nI_pred j
        obtain ⟨r1, r2, r3, r4⟩ := hp.2 j (by omega)
        have fj := hp.far j (by omega)
        have hj8 := hp8 j (by omega)
        have cmp : ∀ x, x < 8 → (g3 87 (nI x).toNatClampNeg = nI T - nI (j + 1) ↔ t.1 x + 1 = t.1 (p j)) := by
          intro x hx
          have hx2 := bl x
          rw [nI_clamp (by omega), go3 87 (by omega), c2 x hx, pk_sub (by omega), ← eF_s, eF_inj (by omega) (by omega)]
          omega
        have fr : ∀ x, x < 8 → (¬ frB (g3 86 (8 * p j + x)) (cntR (g3 83) (p j) x) = 0 ↔ adjT f (p j) x = true) := by
          intro x hx
          rw [go3 86 (by omega), go3 83 (by omega), off 86 (by omega), off 83 (by omega)]
          exact frB_adj hN hr hj8 hx
        have g83 : g3 83 = f 83 := by rw [go3 83 (by omega), off 83 (by omega)]
        refine bX11_laysRoute_30 (fun h => absurd h nlt) (fun _ => ?_)
        have vj : vp_in (nI (j + 1) - 1) 8 := by rw [pr]; exact vp_in_nI (by omega) (by omega)
        have inner : ∀ (l2 i : Nat), i + l2 = p (j + 1) → XP G mX11_laysRoute (d + 3) 39 [.ref 82, .int (nI e), .int (nI q), .int (nI T), .int (nI (j + 1)), .int (nI i)] [] sw g3 Q := by
          intro l2
          induction l2 with
          | zero =>
            intro i hi
            have e1 : i = p (j + 1) := by omega
            subst e1
            refine bX11_laysRoute_39 (vp_in_nI r1 (by omega)) (fun h => absurd ((cmp _ r1).mpr r3) h) (fun _ => vj) (fun _ => ?_)
            rw [pr, nI_clamp (by omega), gp j (Nat.le_refl _)]
            refine sp_freeBetween hj8 r1 (by rw [g83]; exact hr) ?_
            refine bX11_laysRoute_68 (fun _ => vp_in_nI (by omega) (by omega)) (fun _ => ?_) (fun h => absurd h ((fr _ r1).mpr r2))
            rw [nI_1, nI_clamp (by omega)]
            refine ih (j + 1) _ _ (by omega) (fun c hc => by rw [upd2_ne _ _ _ hc]; exact go3 c hc) (fun k hk => ?_)
            rw [upd2_self]
            by_cases y : k = j + 1
            · subst y; exact pk_us
            · rw [pk_un y]; exact gp k (by omega)
          | succ l2 ih2 =>
            intro i hi
            have nx : XP G mX11_laysRoute (d + 3) 39 [.ref 82, .int (nI e), .int (nI q), .int (nI T), .int (nI (j + 1)), .int (nI i + 1)] [] sw g3 Q := by rw [nI_1]; exact ih2 (i + 1) (by omega)
            refine bX11_laysRoute_39 (vp_in_nI (by omega) (by omega)) (fun _ => nx) (fun _ => vj) (fun h3 => ?_)
            rw [pr, nI_clamp (by omega), gp j (Nat.le_refl _)]
            refine sp_freeBetween hj8 (by omega) (by rw [g83]; exact hr) ?_
            have no : ¬ ¬ frB (g3 86 (8 * p j + i)) (cntR (g3 83) (p j) i) = 0 := fun h4 => r4 i (by omega) ⟨(fr i (by omega)).mp h4, (cmp i (by omega)).mp h3⟩
            exact bX11_laysRoute_68 (fun h => absurd h no) (fun h => absurd h no) (fun _ => nx)
        exact inner (p (j + 1)) 0 (by omega)
    refine loop T 0 _ _ (by omega) (fun c hc => upd2_ne _ _ _ hc) (fun k hk => ?_)
    have : k = 0 := by omega
    subst this
    rw [upd2_self, pk_us, hp.1]
theorem SX_off {sw : Bool} {f g : FF} (h : ∀ c, (c < 5 ∨ 10 < c ∨ c = 6) → (c < 87 ∨ 89 < c) → g c = f c) : SX sw f g := by
  intro c j hr
  have := lwB_or sw
  unfold relv at hr
  rw [h c (by omega) (by omega)]
theorem RR.off {sw : Bool} {f g : FF} (hR : RR sw f) (h : ∀ c, (c < 5 ∨ 10 < c ∨ c = 6) → (c < 87 ∨ 89 < c) → g c = f c) : RR sw g := hR.ofSX (SX_off h) (hR.1.cg (by rw [h 1 (by omega) (by omega)]) (h 2 (by omega) (by omega)) (by rw [h 82 (by omega) (by omega)]) (h 90 (by omega) (by omega)))
theorem op_route (G : GC) : OP13 G RR := by
  intro a1 a2 a3 sw f hR
  obtain ⟨h1, h2, h3, h4, h5, h6, h7⟩ := id hR
  by_cases c1 : 0 ≤ a1 ∧ a1 ≤ 7
  · by_cases c2 : 0 ≤ a2 ∧ a2 ≤ 7
    · by_cases c3 : (0 ≤ a3 ∧ a3 ≤ 7) ∨ a3 = 100
      · obtain ⟨e, he, rfl⟩ := rng (K := 7) (by decide) c1
        obtain ⟨q, hq, rfl⟩ := rng (K := 7) (by decide) c2
        have ref : ∀ (g : FF) (r : Int32), (∀ c, (c < 5 ∨ 10 < c ∨ c = 6) → g c = f c) → ((bfs (adjT f) q).1 e = 0 → r = -2) → (∀ (T : Nat) (p : Nat → Nat), (bfs (adjT f) q).1 e = T + 1 → T ≤ 7 → IsRt (adjT f) (bfs (adjT f) q).1 e p T → (a3 = 100 → r = nI T) ∧ (¬ a3 = 100 → nI T < a3 → r = -4) ∧ (¬ a3 = 100 → ¬ nI T < a3 → r = nI (p a3.toNatClampNeg))) → XP G mX11_route 999 0 [.ref 82, .int (nI e), .int (nI q), .int a3, .null] [] sw g (fun v2 sw2 f2 => v2 = some (.int r) ∧ RR sw2 f2) := by
          intro g r go q0 q1
          have eT : adjT g = adjT f := adjT_cg (go 83 (by omega)) (go 86 (by omega))
          have hNg : RN g := h2.cg (go 4 (by omega)) (go 6 (by omega)) (go 86 (by omega))
          have hrg : rOk (g 83) := by rw [go 83 (by omega)]; exact h6.rOk
          have main : XP G mX11_laysRoute (995 + 3) 0 [.ref 82, .int (nI e), .int (nI q), .null, .null, .null] [] sw g (fun v sw' f' => XP G mX11_route (995 + 4) 44 [.ref 82, .int (nI e), .int (nI q), .int a3, .null] (retst v []) sw' f' (fun v2 sw2 f2 => v2 = some (.int r) ∧ RR sw2 f2)) := by
            refine sp_laysRoute (by omega) (by omega) hNg hrg (fun z g2 go2 => ?_) (fun T p hT hT7 hp hp8 g2 go2 gp => ?_)
            · have hR2 : RR sw g2 := hR.off (fun c d1 d2 => by rw [go2 c d2]; exact go c d1)
              rw [eT] at z
              exact bX11_route_44 (d := 995) (fun h => absurd rfl h) (fun h => absurd rfl h) (fun h => absurd rfl h) (fun h => absurd rfl h) (fun _ => ⟨by rw [q0 z], hR2⟩)
            · have hR2 : RR sw g2 := hR.off (fun c d1 d2 => by rw [go2 c d2]; exact go c d1)
              rw [eT] at hT hp
              obtain ⟨k1, k2, k3⟩ := q1 T p hT hT7 hp
              have vin3 : ¬ a3 = 100 → ∃ i, i ≤ 7 ∧ a3 = nI i := fun hn => rng (K := 7) (by decide) (c3.resolve_right hn)
              refine bX11_route_44 (d := 995) (fun _ n1 n2 => ⟨by rw [k2 n1 n2], hR2⟩) (fun _ n1 _ => ?_) (fun _ n1 n2 => ⟨?_, hR2⟩) (fun _ n1 => ⟨by rw [k1 n1], hR2⟩) (fun h => absurd h (nI_ne_m1 (by omega)))
              · obtain ⟨i, hi, rfl⟩ := vin3 n1
                exact vp_in_nI (by omega) (by omega)
              · rw [k3 n1 n2]
                obtain ⟨i, hi, rfl⟩ := vin3 n1
                rw [nI_ltI (by omega) (by omega)] at n2
                rw [nI_clamp (by omega), gp i (by omega)]
          refine bX11_route_0 (d := 995) (fun h => absurd c1 h) (fun _ h => absurd c2 h) (fun _ _ _ => main) (fun _ _ _ _ => main) (fun _ _ n1 n2 => absurd c3 (fun z => z.elim n1 n2))
        have main : XP G mX3_findRoute (996 + 2) 0 [.ref 3, .int (nI e), .int (nI q), .ref 55, .null] [] sw f (fun v sw' f' => XP G mX10_route (996 + 3) 45 [.ref 0, .int (nI e), .int (nI q), .int a3, .null] (retst v []) sw' f' (fun v sw1 f1 => ∃ r : Int32, v = some (.int r) ∧ XP G mX11_route 999 0 [.ref 82, .int (nI e), .int (nI q), .int a3, .null] [] sw1 f1 (fun v2 sw2 f2 => v2 = some (.int r) ∧ RR sw2 f2))) := by
          refine sp_findRoute (w := 43) isW_43 (by omega) (by omega) h2 h6 (fun z g go => ?_) (fun T p hT hT7 hp hp8 g go gp => ?_)
          · exact bX10_route_45 (d := 996) (fun h => absurd rfl h) (fun h => absurd rfl h) (fun h => absurd rfl h) (fun h => absurd rfl h) (fun _ => ⟨_, rfl, ref g _ go (fun _ => rfl) (fun T p hT => absurd (hT.symm.trans z) (by omega))⟩)
          · have un : ∀ (T' : Nat) (p' : Nat → Nat), (bfs (adjT f) q).1 e = T' + 1 → IsRt (adjT f) (bfs (adjT f) q).1 e p' T' → T' = T ∧ ∀ k, k ≤ T → p k = p' k := by
              intro T' p' hT' hp'
              have e1 : T' = T := by omega
              subst e1
              exact ⟨rfl, hp.uq hp'⟩
            have vin3 : ¬ a3 = 100 → ∃ i, i ≤ 7 ∧ a3 = nI i := fun hn => rng (K := 7) (by decide) (c3.resolve_right hn)
            refine bX10_route_45 (d := 996) (fun _ n1 n2 => ⟨_, rfl, ref g _ go (fun z => absurd (hT.symm.trans z) (by omega)) (fun T' p' hT' _ hp' => ?_)⟩) (fun _ n1 _ => ?_) (fun _ n1 n2 => ⟨_, rfl, ref g _ go (fun z => absurd (hT.symm.trans z) (by omega)) (fun T' p' hT' _ hp' => ?_)⟩) (fun _ n1 => ⟨_, rfl, ref g _ go (fun z => absurd (hT.symm.trans z) (by omega)) (fun T' p' hT' _ hp' => ?_)⟩) (fun h => absurd h (nI_ne_m1 (by omega)))
            · obtain ⟨u1, u2⟩ := un T' p' hT' hp'
              subst u1
              exact ⟨fun h => absurd h n1, fun _ _ => rfl, fun _ h => absurd n2 h⟩
            · obtain ⟨i, hi, rfl⟩ := vin3 n1
              exact vp_in_nI (by omega) (by omega)
            · obtain ⟨u1, u2⟩ := un T' p' hT' hp'
              subst u1
              refine ⟨fun h => absurd h n1, fun _ h => absurd h n2, fun _ _ => ?_⟩
              obtain ⟨i, hi, rfl⟩ := vin3 n1
              rw [nI_ltI (by omega) (by omega)] at n2
              rw [nI_clamp (by omega), gp i (by omega), u2 i (by omega)]
            · obtain ⟨u1, u2⟩ := un T' p' hT' hp'
              subst u1
              exact ⟨fun _ => rfl, fun h => absurd n1 h, fun h => absurd n1 h⟩
        exact bX10_route_0 (d := 996) (fun h => absurd c1 h) (fun _ h => absurd c2 h) (fun _ _ _ => main) (fun _ _ _ _ => main) (fun _ _ n1 n2 => absurd c3 (fun z => z.elim n1 n2))
      · have n1 : ¬ (0 ≤ a3 ∧ a3 ≤ 7) := fun h => c3 (Or.inl h)
        have n2 : ¬ a3 = 100 := fun h => c3 (Or.inr h)
        exact bX10_route_0 (d := 996) (fun h => absurd c1 h) (fun _ h => absurd c2 h) (fun _ _ h => absurd h n1) (fun _ _ _ h => absurd h n2) (fun _ _ _ _ => ⟨_, rfl, bX11_route_0 (d := 995) (fun h => absurd c1 h) (fun _ h => absurd c2 h) (fun _ _ h => absurd h n1) (fun _ _ _ h => absurd h n2) (fun _ _ _ _ => ⟨rfl, hR⟩)⟩)
    · exact bX10_route_0 (d := 996) (fun h => absurd c1 h) (fun _ _ => ⟨_, rfl, bX11_route_0 (d := 995) (fun h => absurd c1 h) (fun _ _ => ⟨rfl, hR⟩) (fun _ h => absurd h c2) (fun _ h => absurd h c2) (fun _ h => absurd h c2)⟩) (fun _ h => absurd h c2) (fun _ h => absurd h c2) (fun _ h => absurd h c2)
  · exact bX10_route_0 (d := 996) (fun _ => ⟨_, rfl, bX11_route_0 (d := 995) (fun _ => ⟨rfl, hR⟩) (fun h => absurd h c1) (fun h => absurd h c1) (fun h => absurd h c1) (fun h => absurd h c1)⟩) (fun h => absurd h c1) (fun h => absurd h c1) (fun h => absurd h c1) (fun h => absurd h c1)
