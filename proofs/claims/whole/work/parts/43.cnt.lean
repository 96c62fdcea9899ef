/-! ===== who talks ===== -/
def inC (a : Nat → Int32) (s i : Nat) : Prop := a (188 + i) ≠ 0 ∧ (a (128 + i) = nI s ∨ a (148 + i) = nI s)
theorem isN_le0 {x : Int32} {K : Nat} (h : isN x K) : x ≤ 0 ↔ x = 0 := by
  constructor
  · intro z
    apply Int32.toInt_inj.mp
    have a := Int32.le_iff_toInt_le.mp z
    have b := h.1
    have c : (0 : Int32).toInt = 0 := rfl
    omega
  · intro z; rw [z]; decide
theorem sp_callOf {G : GC} {d : Nat} {sw : Bool} {f : FF} {Q : QQ} {s : Nat} (hr : rOk (f 83)) (ht : ∀ i, i < 20 → inC (f 83) s i → (∀ j, j < i → ¬ inC (f 83) s j) → Q (some (.int (nI i))) sw f) (hf : (∀ i, i < 20 → ¬ inC (f 83) s i) → Q (some (.int (-1))) sw f) : XP G mX11_callOf d 0 [.ref 82, .int (nI s), .null] [] sw f Q := by
  have loop : ∀ (l i : Nat), i + l = 20 → (∀ j, j < i → ¬ inC (f 83) s j) → XP G mX11_callOf d 2 [.ref 82, .int (nI s), .int (nI i)] [] sw f Q := by
    intro l
    induction l with
    | zero =>
      intro i hi hn
      have e1 : i = 20 := by omega
      subst e1
      exact bX11_callOf_2 (fun _ => hf hn) (fun h => absurd (by decide) h) (fun h => absurd (by decide) h) (fun h => absurd (by decide) h) (fun h => absurd (by decide) h) (fun h => absurd (by decide) h) (fun h => absurd (by decide) h) (fun h => absurd (by decide) h)
    | succ l ih =>
      intro i hi hn
      have e188 : (188 : Int32) + nI i = nI (188 + i) := by rw [n_188, nI_add]
      have e128 : (128 : Int32) + nI i = nI (128 + i) := by rw [n_128, nI_add]
      have e148 : (148 : Int32) + nI i = nI (148 + i) := by rw [n_148, nI_add]
      have p0 := isN_le0 (hr i (by omega)).1
      have nx : ¬ inC (f 83) s i → XP G mX11_callOf d 2 [.ref 82, .int (nI s), .int (nI i + 1)] [] sw f Q := by
        intro hni
        rw [nI_1]
        refine ih (i + 1) (by omega) (fun j hj => ?_)
        by_cases y : j = i
        · subst y; exact hni
        · exact hn j (by omega)
      refine bX11_callOf_2 (fun h => absurd h (nI_ge (a := i) (b := 20) (by omega) (by omega))) (fun _ => by rw [e188]; exact vp_in_nI (by omega) (by omega)) (fun _ h => ?_) (fun _ _ => by rw [e128]; exact vp_in_nI (by omega) (by omega)) (fun _ h1 h2 => ?_) (fun _ _ _ => by rw [e148]; exact vp_in_nI (by omega) (by omega)) (fun _ h1 h2 h3 => ?_) (fun _ h1 h2 h3 => ?_)
      · rw [e188, nI_clamp (by omega)] at h
        exact nx (fun z => z.1 (p0.mp h))
      · rw [e188, nI_clamp (by omega)] at h1
        rw [e128, nI_clamp (by omega)] at h2
        exact ht i (by omega) ⟨fun z => h1 (p0.mpr z), Or.inl h2⟩ hn
      · rw [e128, nI_clamp (by omega)] at h2
        rw [e148, nI_clamp (by omega)] at h3
        exact nx (fun z => z.2.elim h2 h3)
      · rw [e188, nI_clamp (by omega)] at h1
        rw [e148, nI_clamp (by omega)] at h3
        exact ht i (by omega) ⟨fun z => h1 (p0.mpr z), Or.inr h3⟩ hn
  exact bX11_callOf_0 (loop 20 0 (by omega) (fun j hj => absurd hj (by omega)))
theorem RW.inCW {f : FF} {w a : Nat} (h : RW f w a) {s i : Nat} (hi : i < 20) : inC (f a) s i ↔ (f (w + 9) i ≠ 0 ∧ (f (w + 6) i = nI s ∨ f (w + 7) i = nI s)) := by
  obtain ⟨h1, h2, h3⟩ := h.2.2.1 i hi
  have h1 : f (w + 9) i = f a (188 + i) := h1
  show (f a (188 + i) ≠ 0 ∧ (f a (128 + i) = nI s ∨ f a (148 + i) = nI s)) ↔ _
  rw [← h1]
  constructor
  · rintro ⟨z, y⟩
    have c := h3 z
    have c1 : f (w + 6) i = f a (128 + i) := c.1
    have c3 : f (w + 7) i = f a (148 + i) := c.2.2.1
    rw [c1, c3]
    exact ⟨z, y⟩
  · rintro ⟨z, y⟩
    have c := h3 z
    have c1 : f (w + 6) i = f a (128 + i) := c.1
    have c3 : f (w + 7) i = f a (148 + i) := c.2.2.1
    rw [c1, c3] at y
    exact ⟨z, y⟩
theorem RW.talk {f : FF} {w a : Nat} (h : RW f w a) {s : Nat} (hs : s < 16) : bt (f w 4) s = true ↔ ∃ i, i < 20 ∧ inC (f a) s i := by
  rw [h.2.2.2.1 s hs]
  constructor
  · rintro ⟨i, hi, z⟩; exact ⟨i, hi, (h.inCW hi).mpr z⟩
  · rintro ⟨i, hi, z⟩; exact ⟨i, hi, (h.inCW hi).mp z⟩
theorem RW.co {f : FF} {w a : Nat} (h : RW f w a) {s i : Nat} (hs : s < 16) (hi : i < 20) (z : inC (f a) s i) : f (w + 5) s = nI i := by
  obtain ⟨z1, z2⟩ := (h.inCW hi).mp z
  have c := (h.2.2.1 i hi).2.2 z1
  have c15 : f (w + 5) (f (w + 6) i).toNatClampNeg = nI i := c.2.2.2.2.2.2.2.2.2.2.2.2.2.2.1
  have c16 : f (w + 5) (f (w + 7) i).toNatClampNeg = nI i := c.2.2.2.2.2.2.2.2.2.2.2.2.2.2.2
  rcases z2 with z2 | z2
  · rw [z2, nI_clamp (by omega)] at c15; exact c15
  · rw [z2, nI_clamp (by omega)] at c16; exact c16
theorem RW.uniq {f : FF} {w a : Nat} (h : RW f w a) {s i j : Nat} (hs : s < 16) (hi : i < 20) (hj : j < 20) (z : inC (f a) s i) (y : inC (f a) s j) : i = j := by
  have := (h.co hs hi z).symm.trans (h.co hs hj y)
  exact (nI_eq (by omega) (by omega)).mp this
/-! ===== subscriberIs ===== -/
theorem op_subscriberIs (G : GC) : OP10 G RR := by
  intro a1 a2 sw f hR
  obtain ⟨h1, h2, h3, h4, h5, h6, h7⟩ := id hR
  by_cases c1 : toldM f a1
  · obtain ⟨s, hs, rfl⟩ := rng (K := 15) (by decide) c1.1
    have ts : f 83 s = 1 := (toldM_iff (by omega)).mp c1
    have tc := (toldC_iff h6 (s := s) (by omega)).mpr ts
    obtain ⟨r0, r1, r2, r3, r4, r5⟩ := h6.2.1 s (by omega)
    obtain ⟨m1, m2, m3, m4, m5, m6, m7, m8, m9, m10, m11⟩ := r5 ts
    have m4 : f 44 s = f 83 (16 + s) := m4
    have m6 : f 45 s = f 83 (80 + s) := m6
    have m8 : f 46 s = f 83 (96 + s) := m8
    have m10 : f 47 s = f 83 (112 + s) := m10
    have cs : (nI s).toNatClampNeg = s := nI_clamp (by omega)
    have vs : vp_in (nI s) 16 := vp_in_nI (by omega) (by omega)
    have e16 : ((16 : Int32) + nI s) = nI (16 + s) := by rw [n_16, nI_add]
    have e32 : ((32 : Int32) + nI s) = nI (32 + s) := by rw [n_32, nI_add]
    have e48 : ((48 : Int32) + nI s) = nI (48 + s) := by rw [n_48, nI_add]
    have e64 : ((64 : Int32) + nI s) = nI (64 + s) := by rw [n_64, nI_add]
    have e80 : ((80 : Int32) + nI s) = nI (80 + s) := by rw [n_80, nI_add]
    have e96 : ((96 : Int32) + nI s) = nI (96 + s) := by rw [n_96, nI_add]
    have e112 : ((112 : Int32) + nI s) = nI (112 + s) := by rw [n_112, nI_add]
    have ref : ∀ r : Int32, (a2 = 0 → r = f 83 (16 + s)) → (a2 = 1 → r = f 83 (32 + s)) → (a2 = 2 → r = f 83 (48 + s)) → (a2 = 3 → r = f 83 (64 + s)) → (a2 = 4 → r = f 83 (80 + s)) → (a2 = 5 → (∀ i, i < 20 → inC (f 83) s i → r = if f 83 (128 + i) = nI s then f 83 (148 + i) else f 83 (128 + i)) ∧ ((∀ i, i < 20 → ¬ inC (f 83) s i) → r = -2)) → (a2 = 6 → r = f 83 (96 + s)) → (a2 = 7 → r = f 83 (112 + s)) → (¬ a2 = 0 → ¬ a2 = 1 → ¬ a2 = 2 → ¬ a2 = 3 → ¬ a2 = 4 → ¬ a2 = 5 → ¬ a2 = 6 → ¬ a2 = 7 → r = -1) →
        XP G mX11_subscriberIs 999 0 [.ref 82, .int (nI s), .int a2] [] sw f (fun v2 sw2 f2 => v2 = some (.int r) ∧ RR sw2 f2) := by
      intro r q0 q1 q2 q3 q4 q5 q6 q7 q8
      refine bX11_subscriberIs_0 (d := 997) (fun _ _ => by rw [e16]; exact vp_in_nI (by omega) (by omega)) (fun _ z => ⟨by rw [e16, nI_clamp (by omega), q0 z], hR⟩) (fun _ _ => by rw [e32]; exact vp_in_nI (by omega) (by omega)) (fun _ z => ⟨by rw [e32, nI_clamp (by omega), q1 z], hR⟩) (fun _ _ => by rw [e48]; exact vp_in_nI (by omega) (by omega)) (fun _ z => ⟨by rw [e48, nI_clamp (by omega), q2 z], hR⟩) (fun _ _ => by rw [e64]; exact vp_in_nI (by omega) (by omega)) (fun _ z => ⟨by rw [e64, nI_clamp (by omega), q3 z], hR⟩) (fun _ _ => by rw [e80]; exact vp_in_nI (by omega) (by omega)) (fun _ z => ⟨by rw [e80, nI_clamp (by omega), q4 z], hR⟩) (fun _ z => ?_) (fun _ _ => by rw [e96]; exact vp_in_nI (by omega) (by omega)) (fun _ z => ⟨by rw [e96, nI_clamp (by omega), q6 z], hR⟩) (fun _ _ => by rw [e112]; exact vp_in_nI (by omega) (by omega)) (fun _ z => ⟨by rw [e112, nI_clamp (by omega), q7 z], hR⟩) (fun _ z0 z1 z2 z3 z4 z5 z6 z7 => ⟨by rw [q8 z0 z1 z2 z3 z4 z5 z6 z7], hR⟩) (fun h => absurd c1 h)
      refine bX11_talksWith_0 (d := 997) (sp_callOf h6.rOk (fun i hi hin hmin => ?_) (fun hno => ?_))
      · have e128 : ((128 : Int32) + nI i) = nI (128 + i) := by rw [n_128, nI_add]
        have e148 : ((148 : Int32) + nI i) = nI (148 + i) := by rw [n_148, nI_add]
        have ne : ¬ nI i = -1 := by
          intro y
          have := congrArg Int32.toInt y
          rw [nI_toInt (by omega)] at this
          have e9 : (-1 : Int32).toInt = -1 := rfl
          omega
        have b128 : vp_in ((128 : Int32) + nI i) 391 := by rw [e128]; exact vp_in_nI (by omega) (by omega)
        have b148 : vp_in ((148 : Int32) + nI i) 391 := by rw [e148]; exact vp_in_nI (by omega) (by omega)
        have q := (q5 z).1 i hi hin
        refine bX11_talksWith_5 (d := 997) (fun _ => b128) (fun _ _ => b128) (fun _ y => bX11_subscriberIs_111 (d := 997) ⟨?_, hR⟩) (fun _ _ => b148) (fun _ y => bX11_subscriberIs_111 (d := 997) ⟨?_, hR⟩) (fun y => absurd y ne)
        · rw [e128, nI_clamp (by omega)] at y ⊢
          rw [q, if_neg y]
        · rw [e128, nI_clamp (by omega)] at y
          rw [e148, nI_clamp (by omega), q, if_pos y]
      · exact bX11_talksWith_5 (d := 997) (fun h => absurd rfl h) (fun h => absurd rfl h) (fun h => absurd rfl h) (fun h => absurd rfl h) (fun h => absurd rfl h) (fun _ => bX11_subscriberIs_111 (d := 997) ⟨by rw [(q5 z).2 hno], hR⟩)
    refine bX10_subscriberIs_0 (d := 997) (fun _ _ => vs) (fun _ z => ⟨_, rfl, ?_⟩) (fun _ z y => ⟨_, rfl, ?_⟩) (fun _ z y => ⟨_, rfl, ?_⟩) (fun _ z y => ⟨_, rfl, ?_⟩) (fun _ z y => ⟨_, rfl, ?_⟩) (fun _ z y => ⟨_, rfl, ?_⟩) (fun _ z y => ⟨_, rfl, ?_⟩) (fun _ _ => vs) (fun _ z => ⟨_, rfl, ?_⟩) (fun _ z => ?_) (fun _ _ => vs) (fun _ z => ⟨_, rfl, ?_⟩) (fun _ _ => vs) (fun _ z => ⟨_, rfl, ?_⟩) (fun _ z0 z1 z2 z3 z4 z5 z6 z7 => ⟨_, rfl, ?_⟩) (fun h => absurd tc h)
    · subst z
      exact ref _ (fun _ => by rw [cs]; exact m4) (fun h => absurd h (by decide)) (fun h => absurd h (by decide)) (fun h => absurd h (by decide)) (fun h => absurd h (by decide)) (fun h => absurd h (by decide)) (fun h => absurd h (by decide)) (fun h => absurd h (by decide)) (fun h => absurd rfl h)
    · subst z
      have y2 : bt (f 43 1) s = true := by
        have := mt (and1_bt (m := f 43 1) (s := s) (by omega)).mpr y
        simpa using this
      exact ref _ (fun h => absurd h (by decide)) (fun _ => ((r2.mp y2).2).symm) (fun h => absurd h (by decide)) (fun h => absurd h (by decide)) (fun h => absurd h (by decide)) (fun h => absurd h (by decide)) (fun h => absurd h (by decide)) (fun h => absurd h (by decide)) (fun _ h => absurd rfl h)
    · subst z
      have y2 : bt (f 43 1) s = false := (and1_bt (m := f 43 1) (s := s) (by omega)).mp y
      exact ref _ (fun h => absurd h (by decide)) (fun _ => by
        rcases m1 with m1 | m1
        · have := r2.mpr ⟨ts, m1⟩
          rw [this] at y2
          exact absurd y2 (by decide)
        · exact m1.symm) (fun h => absurd h (by decide)) (fun h => absurd h (by decide)) (fun h => absurd h (by decide)) (fun h => absurd h (by decide)) (fun h => absurd h (by decide)) (fun h => absurd h (by decide)) (fun _ h => absurd rfl h)
    · subst z
      have y2 : bt (f 43 2) s = true := by
        have := mt (and1_bt (m := f 43 2) (s := s) (by omega)).mpr y
        simpa using this
      exact ref _ (fun h => absurd h (by decide)) (fun h => absurd h (by decide)) (fun _ => ((r3.mp y2).2).symm) (fun h => absurd h (by decide)) (fun h => absurd h (by decide)) (fun h => absurd h (by decide)) (fun h => absurd h (by decide)) (fun h => absurd h (by decide)) (fun _ _ h => absurd rfl h)
    · subst z
      have y2 : bt (f 43 2) s = false := (and1_bt (m := f 43 2) (s := s) (by omega)).mp y
      exact ref _ (fun h => absurd h (by decide)) (fun h => absurd h (by decide)) (fun _ => by
        rcases m2 with m2 | m2
        · have := r3.mpr ⟨ts, m2⟩
          rw [this] at y2
          exact absurd y2 (by decide)
        · exact m2.symm) (fun h => absurd h (by decide)) (fun h => absurd h (by decide)) (fun h => absurd h (by decide)) (fun h => absurd h (by decide)) (fun h => absurd h (by decide)) (fun _ _ h => absurd rfl h)
    · subst z
      have y2 : bt (f 43 3) s = true := by
        have := mt (and1_bt (m := f 43 3) (s := s) (by omega)).mpr y
        simpa using this
      exact ref _ (fun h => absurd h (by decide)) (fun h => absurd h (by decide)) (fun h => absurd h (by decide)) (fun _ => ((r4.mp y2).2).symm) (fun h => absurd h (by decide)) (fun h => absurd h (by decide)) (fun h => absurd h (by decide)) (fun h => absurd h (by decide)) (fun _ _ _ h => absurd rfl h)
    · subst z
      have y2 : bt (f 43 3) s = false := (and1_bt (m := f 43 3) (s := s) (by omega)).mp y
      exact ref _ (fun h => absurd h (by decide)) (fun h => absurd h (by decide)) (fun h => absurd h (by decide)) (fun _ => by
        rcases m3 with m3 | m3
        · exact m3.symm
        · have := r4.mpr ⟨ts, m3⟩
          rw [this] at y2
          exact absurd y2 (by decide)) (fun h => absurd h (by decide)) (fun h => absurd h (by decide)) (fun h => absurd h (by decide)) (fun h => absurd h (by decide)) (fun _ _ _ h => absurd rfl h)
    · subst z
      exact ref _ (fun h => absurd h (by decide)) (fun h => absurd h (by decide)) (fun h => absurd h (by decide)) (fun h => absurd h (by decide)) (fun _ => by rw [cs]; exact m6) (fun h => absurd h (by decide)) (fun h => absurd h (by decide)) (fun h => absurd h (by decide)) (fun _ _ _ _ h => absurd rfl h)
    · subst z
      have fin : ∀ r : Int32, (∀ i, i < 20 → inC (f 83) s i → r = if f 83 (128 + i) = nI s then f 83 (148 + i) else f 83 (128 + i)) ∧ ((∀ i, i < 20 → ¬ inC (f 83) s i) → r = -2) → XP G mX10_subscriberIs 999 146 [.ref 0, .int (nI s), .int 5, .int ((1 : Int32) <<< (nI s &&& 31))] [.int r] sw f (fun v sw1 f1 => ∃ r : Int32, v = some (.int r) ∧ XP G mX11_subscriberIs 999 0 [.ref 82, .int (nI s), .int 5] [] sw1 f1 (fun v2 sw2 f2 => v2 = some (.int r) ∧ RR sw2 f2)) := by
        intro r hr
        exact bX10_subscriberIs_146 (d := 997) ⟨_, rfl, ref _ (fun h => absurd h (by decide)) (fun h => absurd h (by decide)) (fun h => absurd h (by decide)) (fun h => absurd h (by decide)) (fun h => absurd h (by decide)) (fun _ => hr) (fun h => absurd h (by decide)) (fun h => absurd h (by decide)) (fun _ _ _ _ _ h => absurd rfl h)⟩
      by_cases tk : ∃ i, i < 20 ∧ inC (f 83) s i
      · have bt4 : bt (f 43 4) s = true := (h6.talk (by omega)).mpr tk
        obtain ⟨i, hi, hin⟩ := tk
        have hco : f 48 s = nI i := h6.co (by omega) hi hin
        have nz : ¬ ((f 43 4) >>> (nI s &&& 31)) &&& 1 = 0 := by rw [bit0_bt (by omega), bt4]; decide
        have vi : vp_in (f (43 + 5) (nI s).toNatClampNeg) 20 := by rw [cs, show f (43 + 5) s = nI i from hco]; exact vp_in_nI (by omega) (by omega)
        have ei : (f (43 + 5) (nI s).toNatClampNeg).toNatClampNeg = i := by rw [cs, show f (43 + 5) s = nI i from hco, nI_clamp (by omega)]
        obtain ⟨z1, -⟩ := (h6.inCW hi).mp hin
        have c := (h6.2.2.1 i hi).2.2 z1
        have k1 : f (43 + 6) i = f 83 (128 + i) := c.1
        have k3 : f (43 + 7) i = f 83 (148 + i) := c.2.2.1
        have un : ∀ j, j < 20 → inC (f 83) s j → j = i := fun j hj hjn => h6.uniq (by omega) hj hi hjn hin
        refine bX9_partnerOf_0 (w := 43) isW_43 (fun _ => vs) (fun _ => vi) (fun _ _ => vi) (fun _ y => ?_) (fun _ _ => vi) (fun _ y => ?_) (fun h => absurd h nz)
        · rw [ei] at y ⊢
          rw [k1] at y ⊢
          refine fin _ ⟨fun j hj hjn => ?_, fun hno => absurd hin (hno i hi)⟩
          rw [un j hj hjn, if_neg y]
        · rw [ei] at y ⊢
          rw [k1] at y
          rw [k3]
          refine fin _ ⟨fun j hj hjn => ?_, fun hno => absurd hin (hno i hi)⟩
          rw [un j hj hjn, if_pos y]
      · have bt4 : bt (f 43 4) s = false := by
          have := mt (h6.talk (s := s) (by omega)).mp tk
          simpa using this
        have nz : ((f 43 4) >>> (nI s &&& 31)) &&& 1 = 0 := by rw [bit0_bt (by omega), bt4]
        exact bX9_partnerOf_0 (w := 43) isW_43 (fun h => absurd nz h) (fun h => absurd nz h) (fun h => absurd nz h) (fun h => absurd nz h) (fun h => absurd nz h) (fun h => absurd nz h) (fun _ => fin _ ⟨fun i hi hin => absurd ⟨i, hi, hin⟩ tk, fun _ => rfl⟩)
    · subst z
      exact ref _ (fun h => absurd h (by decide)) (fun h => absurd h (by decide)) (fun h => absurd h (by decide)) (fun h => absurd h (by decide)) (fun h => absurd h (by decide)) (fun h => absurd h (by decide)) (fun _ => by rw [cs]; exact m8) (fun h => absurd h (by decide)) (fun _ _ _ _ _ _ h => absurd rfl h)
    · subst z
      exact ref _ (fun h => absurd h (by decide)) (fun h => absurd h (by decide)) (fun h => absurd h (by decide)) (fun h => absurd h (by decide)) (fun h => absurd h (by decide)) (fun h => absurd h (by decide)) (fun h => absurd h (by decide)) (fun _ => by rw [cs]; exact m10) (fun _ _ _ _ _ _ _ h => absurd rfl h)
    · exact ref _ (fun h => absurd h z0) (fun h => absurd h z1) (fun h => absurd h z2) (fun h => absurd h z3) (fun h => absurd h z4) (fun h => absurd h z5) (fun h => absurd h z6) (fun h => absurd h z7) (fun _ _ _ _ _ _ _ _ => rfl)
  · have c2 : ¬ ((0 ≤ a1 ∧ a1 ≤ 15) ∧ bitI (f 43 0) a1) := by
      intro h
      obtain ⟨s, hs, rfl⟩ := rng (K := 15) (by decide) h.1
      exact c1 ((toldM_iff (by omega)).mpr ((toldC_iff h6 (by omega)).mp h))
    exact bX10_subscriberIs_0 (d := 997) (fun h => absurd h c2) (fun h => absurd h c2) (fun h => absurd h c2) (fun h => absurd h c2) (fun h => absurd h c2) (fun h => absurd h c2) (fun h => absurd h c2) (fun h => absurd h c2) (fun h => absurd h c2) (fun h => absurd h c2) (fun h => absurd h c2) (fun h => absurd h c2) (fun h => absurd h c2) (fun h => absurd h c2) (fun h => absurd h c2) (fun h => absurd h c2) (fun _ => ⟨_, rfl, bX11_subscriberIs_0 (d := 997) (fun h => absurd h c1) (fun h => absurd h c1) (fun h => absurd h c1) (fun h => absurd h c1) (fun h => absurd h c1) (fun h => absurd h c1) (fun h => absurd h c1) (fun h => absurd h c1) (fun h => absurd h c1) (fun h => absurd h c1) (fun h => absurd h c1) (fun h => absurd h c1) (fun h => absurd h c1) (fun h => absurd h c1) (fun h => absurd h c1) (fun h => absurd h c1) (fun _ => ⟨rfl, hR⟩)⟩)
/-! ===== count ===== -/
theorem sp_setOf {G : GC} {d : Nat} {sw : Bool} {f : FF} {Q : QQ} {b : Nat} {is : Int32} (hb : b ≤ 64) (hQ : ∀ x : Int32, (∀ j, j < 32 → (bt x j = true ↔ j < 16 ∧ f 83 j = 1 ∧ f 83 (b + j) = is)) → Q (some (.int x)) sw f) : XP G mX11_setOf (d + 2) 0 [.ref 82, .int (nI b), .int is, .null, .null] [] sw f Q := by
  have loop : ∀ (l i : Nat) (x : Int32), i + l = 16 → (∀ j, j < 32 → (bt x j = true ↔ j < i ∧ f 83 j = 1 ∧ f 83 (b + j) = is)) → XP G mX11_setOf (d + 2) 5 [.ref 82, .int (nI b), .int is, .int x, .int (nI i)] [] sw f Q := by
    intro l
    induction l with
    | zero =>
      intro i x hi hx
      have e1 : i = 16 := by omega
      subst e1
      exact bX11_setOf_5 (fun _ => hQ x hx) (fun h => absurd (by decide) h) (fun h => absurd (by decide) h) (fun h => absurd (by decide) h) (fun h => absurd (by decide) h)
    | succ l ih =>
      intro i x hi hx
      have eb : nI b + nI i = nI (b + i) := nI_add b i
      have tm : toldM f (nI i) ↔ f 83 i = 1 := toldM_iff (by omega)
      have no : ¬ (f 83 i = 1 ∧ f 83 (b + i) = is) → XP G mX11_setOf (d + 2) 5 [.ref 82, .int (nI b), .int is, .int x, .int (nI i + 1)] [] sw f Q := by
        intro hn
        rw [nI_1]
        refine ih (i + 1) x (by omega) (fun j hj => ?_)
        rw [hx j hj]
        constructor
        · rintro ⟨q1, q2⟩; exact ⟨by omega, q2⟩
        · rintro ⟨q1, q2⟩
          refine ⟨?_, q2⟩
          by_cases y : j = i
          · subst y; exact absurd q2 hn
          · omega
      refine bX11_setOf_5 (fun h => absurd h (nI_ge (a := i) (b := 16) (by omega) (by omega))) (fun _ h => no (fun z => h (tm.mpr z.1))) (fun _ _ => by rw [eb]; exact vp_in_nI (by omega) (by omega)) (fun _ _ h => ?_) (fun _ h1 h2 => ?_)
      · rw [eb, nI_clamp (by omega)] at h
        exact no (fun z => h z.2)
      · rw [eb, nI_clamp (by omega)] at h2
        rw [nI_1]
        refine ih (i + 1) _ (by omega) (fun j hj => ?_)
        rw [bt_or, bt_one (by omega) hj, Bool.or_eq_true, hx j hj, decide_eq_true_iff]
        constructor
        · rintro (⟨q1, q2⟩ | q)
          · exact ⟨by omega, q2⟩
          · subst q; exact ⟨by omega, tm.mp h1, h2⟩
        · rintro ⟨q1, q2⟩
          by_cases y : j = i
          · exact Or.inr y
          · exact Or.inl ⟨by omega, q2⟩
  refine bX11_setOf_0 (loop 16 0 0 (by omega) (fun j hj => ?_))
  rw [bt_0]
  constructor
  · intro h; exact absurd h (by decide)
  · rintro ⟨h, -⟩; omega
/-- free: a row of the reference -/
def frM (a : Nat → Int32) (s : Nat) : Prop := a s = 1 ∧ a (48 + s) = 1 ∧ a (64 + s) = 0 ∧ ∀ i, i < 20 → ¬ inC a s i
theorem nI_ne_m1 {i : Nat} (hi : i < 2 ^ 31) : ¬ nI i = -1 := by
  intro y
  have := congrArg Int32.toInt y
  rw [nI_toInt hi] at this
  have e9 : (-1 : Int32).toInt = -1 := rfl
  omega
theorem sp_isFree {G : GC} {d : Nat} {sw : Bool} {f : FF} {Q : QQ} {s : Nat} (hs : s < 16) (hr : rOk (f 83)) (ht : frM (f 83) s → Q (some (.int 1)) sw f) (hf : ¬ frM (f 83) s → Q (some (.int 0)) sw f) : XP G mX11_isFree (d + 2) 0 [.ref 82, .int (nI s)] [] sw f Q := by
  have tm : toldM f (nI s) ↔ f 83 s = 1 := toldM_iff hs
  have e48 : ((48 : Int32) + nI s) = nI (48 + s) := by rw [n_48, nI_add]
  have e64 : ((64 : Int32) + nI s) = nI (64 + s) := by rw [n_64, nI_add]
  refine bX11_isFree_0 (fun h => hf (fun z => h (tm.mpr z.1))) (fun _ => by rw [e48]; exact vp_in_nI (by omega) (by omega)) (fun _ h => ?_) (fun _ _ => by rw [e64]; exact vp_in_nI (by omega) (by omega)) (fun _ _ h => ?_) (fun h1 h2 h3 => ?_)
  · rw [e48, nI_clamp (by omega)] at h
    exact hf (fun z => h z.2.1)
  · rw [e64, nI_clamp (by omega)] at h
    exact hf (fun z => h z.2.2.1)
  · rw [e48, nI_clamp (by omega)] at h2
    rw [e64, nI_clamp (by omega)] at h3
    refine sp_callOf hr (fun i hi hin _ => ?_) (fun hno => ?_)
    · exact bX11_isFree_38 (fun _ => hf (fun z => z.2.2.2 i hi hin)) (fun h => absurd h (nI_ne_m1 (by omega)))
    · exact bX11_isFree_38 (fun h => absurd rfl h) (fun _ => ht ⟨tm.mp h1, h2, h3, hno⟩)
theorem bt_wFree (f : FF) (w : Nat) {s : Nat} (hs : s < 32) : bt (wFree f w) s = (((bt (f w 0) s && !bt (f w 2) s) && !bt (f w 3) s) && !bt (f w 4) s) := by
  unfold wFree
  rw [bt_and, bt_and, bt_and, bt_not _ hs, bt_not _ hs, bt_not _ hs]
theorem RW.free {f : FF} {w a : Nat} (h : RW f w a) {s : Nat} (hs : s < 16) : bt (wFree f w) s = true ↔ frM (f a) s := by
  obtain ⟨r0, r1, r2, r3, r4, r5⟩ := h.2.1 s hs
  have t := h.talk hs
  rw [bt_wFree f w (by omega)]
  simp only [Bool.and_eq_true, Bool.not_eq_true', ← Bool.not_eq_true]
  rw [r1, r3, r4, t]
  constructor
  · rintro ⟨⟨⟨q1, q2⟩, q3⟩, q4⟩
    obtain ⟨m1, m2, m3, -⟩ := r5 q1
    refine ⟨q1, ?_, ?_, fun i hi hin => q4 ⟨i, hi, hin⟩⟩
    · rcases m2 with m2 | m2
      · exact absurd ⟨q1, m2⟩ q2
      · exact m2
    · rcases m3 with m3 | m3
      · exact m3
      · exact absurd ⟨q1, m3⟩ q3
  · rintro ⟨q1, q2, q3, q4⟩
    refine ⟨⟨⟨q1, fun z => ?_⟩, fun z => ?_⟩, fun ⟨i, hi, hin⟩ => q4 i hi hin⟩
    · rw [q2] at z; exact absurd z.2 (by decide)
    · rw [q3] at z; exact absurd z.2 (by decide)
theorem RW.free_hi {f : FF} {w a : Nat} (h : RW f w a) {s : Nat} (hs : 16 ≤ s) (hs2 : s < 32) : bt (wFree f w) s = false := by
  rw [bt_wFree f w hs2, (h.1 s hs).1]
  simp
/-- calls that stand -/
def nCalls (a : Nat → Int32) : Nat := cntP (fun i => decide (a (188 + i) ≠ 0)) 20
theorem sp_callsNow {G : GC} {d : Nat} {sw : Bool} {f : FF} {Q : QQ} (hr : rOk (f 83)) (hQ : Q (some (.int (nI (nCalls (f 83))))) sw f) : XP G mX11_callsNow d 0 [.ref 82, .null, .null] [] sw f Q := by
  have loop : ∀ (l i : Nat), i + l = 20 → XP G mX11_callsNow d 4 [.ref 82, .int (nI (cntP (fun i => decide (f 83 (188 + i) ≠ 0)) i)), .int (nI i)] [] sw f Q := by
    intro l
    induction l with
    | zero =>
      intro i hi
      have e1 : i = 20 := by omega
      subst e1
      exact bX11_callsNow_4 (fun _ => hQ) (fun h => absurd (by decide) h) (fun h => absurd (by decide) h) (fun h => absurd (by decide) h)
    | succ l ih =>
      intro i hi
      have e188 : (188 : Int32) + nI i = nI (188 + i) := by rw [n_188, nI_add]
      have p0 := isN_le0 (hr i (by omega)).1
      have st : cntP (fun i => decide (f 83 (188 + i) ≠ 0)) (i + 1) = cntP (fun i => decide (f 83 (188 + i) ≠ 0)) i + (if decide (f 83 (188 + i) ≠ 0) = true then 1 else 0) := rfl
      refine bX11_callsNow_4 (fun h => absurd h (nI_ge (a := i) (b := 20) (by omega) (by omega))) (fun _ => by rw [e188]; exact vp_in_nI (by omega) (by omega)) (fun _ h => ?_) (fun _ h => ?_)
      · rw [e188, nI_clamp (by omega)] at h
        rw [nI_1]
        have := ih (i + 1) (by omega)
        rw [st, if_neg (by rw [decide_eq_true_iff]; exact fun z => z (p0.mp h))] at this
        exact this
      · rw [e188, nI_clamp (by omega)] at h
        rw [nI_1, nI_1]
        have := ih (i + 1) (by omega)
        rw [st, if_pos (show decide (f 83 (188 + i) ≠ 0) = true from decide_eq_true (fun z => h (p0.mpr z)))] at this
        exact this
  exact bX11_callsNow_0 (loop 20 0 (by omega))
theorem set16 {x : Int32} (h : ∀ s, 16 ≤ s → bt x s = false) : ∃ m, m < 2 ^ 16 ∧ x = nI m := by
  refine ⟨x.toBitVec.toNat, Nat.lt_pow_two_of_testBit _ (fun i hi => h i hi), ?_⟩
  apply Int32.toBitVec_inj.1
  apply BitVec.eq_of_toNat_eq
  exact (pk_tn x.toBitVec.isLt).symm
theorem cN_cnt (m : Nat) : ∀ k, cN k m = cntP (fun s => m.testBit s) k := by
  intro k
  induction k with
  | zero => rfl
  | succ k ih =>
    show cN k m + m / 2 ^ k % 2 = cntP _ k + _
    rw [ih]
    simp only [Nat.testBit_eq_decide_div_mod_eq, decide_eq_true_eq]
    split <;> omega
theorem sum_two {p q : Nat} (hpq : p ≠ q) : ∀ n, p < n → q < n → sumN (fun s => if s = p ∨ s = q then 1 else 0) n = 2 := by
  intro n hp hq
  have : sumN (fun s => if s = p ∨ s = q then 1 else 0) n = sumN (fun s => (if s = p then 1 else 0) + (if s = q then 1 else 0)) n := by
    apply sumN_cg
    intro i _
    by_cases y1 : i = p
    · subst y1; simp [hpq]
    · by_cases y2 : i = q
      · subst y2; simp [y1]
      · simp [y1, y2]
  rw [this, sumN_add, sumN_one (k := p) n hp (fun i _ h => if_neg h), sumN_one (k := q) n hq (fun i _ h => if_neg h), if_pos rfl, if_pos rfl]
theorem RW.pairs {f : FF} {w a : Nat} (h : RW f w a) : cntP (fun s => bt (f w 4) s) 16 = 2 * nCalls (f a) := by
  classical
  have hr := h.rOk
  have L : cntP (fun s => bt (f w 4) s) 16 = sumN (fun s => sumN (fun i => if inC (f a) s i then 1 else 0) 20) 16 := by
    rw [cntP_sum]
    apply sumN_cg
    intro s hs
    by_cases z : bt (f w 4) s = true
    · rw [if_pos z]
      obtain ⟨i, hi, hin⟩ := (h.talk hs).mp z
      rw [sumN_one (k := i) 20 hi (fun j hj hne => if_neg (fun y => hne (h.uniq hs hj hi y hin))), if_pos hin]
    · rw [if_neg z]
      rw [sumN_cg 20 (h := fun _ => 0) (fun i hi => if_neg (fun y => z ((h.talk hs).mpr ⟨i, hi, y⟩))), sumN_zero]
  rw [L, sumN_swap]
  have R : ∀ i, i < 20 → sumN (fun s => if inC (f a) s i then 1 else 0) 16 = 2 * (if decide (f a (188 + i) ≠ 0) = true then 1 else 0) := by
    intro i hi
    by_cases z : f a (188 + i) = 0
    · rw [if_neg (by rw [decide_eq_true_iff]; exact fun y => y z), sumN_cg 16 (h := fun _ => 0) (fun s _ => if_neg (fun y => y.1 z)), sumN_zero]
    · rw [if_pos (decide_eq_true z)]
      obtain ⟨-, b1, b2, b3⟩ := (hr i hi).2 z
      obtain ⟨p, hp, ep⟩ := isN_nI b1 (by omega)
      obtain ⟨q, hq, eq⟩ := isN_nI b2 (by omega)
      have hpq : p ≠ q := fun y => b3 (by rw [ep, eq, y])
      rw [Nat.mul_one, ← sum_two hpq 16 (by omega) (by omega)]
      apply sumN_cg
      intro s hs
      have : inC (f a) s i ↔ (s = p ∨ s = q) := by
        show (f a (188 + i) ≠ 0 ∧ (f a (128 + i) = nI s ∨ f a (148 + i) = nI s)) ↔ _
        rw [ep, eq, nI_eq (by omega) (by omega), nI_eq (by omega) (by omega)]
        constructor
        · rintro ⟨-, y⟩; rcases y with y | y <;> simp [y]
        · rintro y; exact ⟨z, by rcases y with y | y <;> simp [y]⟩
      by_cases y : s = p ∨ s = q
      · rw [if_pos y, if_pos (this.mpr y)]
      · rw [if_neg y, if_neg (fun t => y (this.mp t))]
  rw [sumN_cg 20 R]
  unfold nCalls
  rw [cntP_sum]
  have : ∀ (g : Nat → Nat) n, sumN (fun i => 2 * g i) n = 2 * sumN g n := by
    intro g n
    induction n with
    | zero => rfl
    | succ n ih => show sumN _ n + 2 * g n = 2 * (sumN g n + g n); rw [ih]; omega
  exact this _ 20
theorem nCalls_le (a : Nat → Int32) : nCalls a ≤ 20 := cntP_le _ _
theorem sp_calls {G : GC} {d : Nat} {sw : Bool} {f : FF} {Q : QQ} {w a : Nat} (hw : isW w) (h : RW f w a) (hQ : Q (some (.int (nI (nCalls (f a))))) sw f) : XP G mX9_calls (d + 1) 0 [.ref w] [] sw f Q := by
  obtain ⟨m, hm, em⟩ := set16 (fun s hs => (h.1 s hs).2.2.2.2)
  have hp := h.pairs
  have hc : cN 16 m = 2 * nCalls (f a) := by
    rw [cN_cnt, ← hp]
    apply cntP_cg
    intro s hs
    rw [em, bt_nI (by omega) (by omega)]
  have := nCalls_le (f a)
  refine bX9_calls_0 hw ?_
  rw [em]
  refine sp_bitCount hm (bX9_calls_7 hw ?_)
  rw [n_2, hc, pk_div (by omega) (by omega) (by omega), show 2 * nCalls (f a) / 2 = nCalls (f a) by omega]
  exact hQ
theorem op_count (G : GC) : OP31 G RR := by
  intro a1 sw f hR
  obtain ⟨h1, h2, h3, h4, h5, h6, h7⟩ := id hR
  obtain ⟨w1, w2, w3, w4, w5, w6, w7, w8, w9, w10, w11⟩ := id h6
  have w6 : f 43 5 = f 83 388 := w6
  have w8 : f 43 6 = f 83 389 := w8
  have w10 : f 43 7 = f 83 390 := w10
  have free : ∀ (l i : Nat) (x : Int32), i + l = 16 → (∀ j, j < 32 → (bt x j = true ↔ j < i ∧ frM (f 83) j)) → XP G mX11_count 999 99 [.ref 82, .int 5, .int x, .int (nI i)] [] sw f (fun v2 sw2 f2 => v2 = some (.int (wFree f 43)) ∧ RR sw2 f2) := by
    intro l
    induction l with
    | zero =>
      intro i x hi hx
      have e1 : i = 16 := by omega
      subst e1
      refine bX11_count_99 (d := 996) (fun _ => ⟨?_, hR⟩) (fun h => absurd (by decide) h)
      have : x = wFree f 43 := by
        apply bt_ext
        intro j hj
        rcases Nat.lt_or_ge j 16 with y | y
        · have q := (hx j hj).trans ⟨fun z => z.2, fun z => ⟨y, z⟩⟩
          have q2 := h6.free y
          rw [Bool.eq_iff_iff, q, q2]
        · rw [h6.free_hi y hj]
          have := mt (hx j hj).mp (fun z => by omega)
          simpa using this
      rw [this]
    | succ l ih =>
      intro i x hi hx
      refine bX11_count_99 (d := 996) (fun h => absurd h (nI_ge (a := i) (b := 16) (by omega) (by omega))) (fun _ => ?_)
      refine sp_isFree (by omega) h6.rOk (fun hfr => ?_) (fun hfr => ?_)
      · refine bX11_count_111 (d := 996) (fun h => absurd h (by decide)) (fun _ => ?_)
        rw [nI_1]
        refine ih (i + 1) _ (by omega) (fun j hj => ?_)
        rw [bt_or, bt_one (by omega) hj, Bool.or_eq_true, hx j hj, decide_eq_true_iff]
        constructor
        · rintro (⟨q1, q2⟩ | q)
          · exact ⟨by omega, q2⟩
          · subst q; exact ⟨by omega, hfr⟩
        · rintro ⟨q1, q2⟩
          by_cases y : j = i
          · exact Or.inr y
          · exact Or.inl ⟨by omega, q2⟩
      · refine bX11_count_111 (d := 996) (fun _ => ?_) (fun h => absurd rfl h)
        rw [nI_1]
        refine ih (i + 1) _ (by omega) (fun j hj => ?_)
        rw [bt_or, bt_0, Bool.or_false, hx j hj]
        constructor
        · rintro ⟨q1, q2⟩; exact ⟨by omega, q2⟩
        · rintro ⟨q1, q2⟩
          refine ⟨?_, q2⟩
          by_cases y : j = i
          · subst y; exact absurd q2 hfr
          · omega
  have sets : ∀ (x : Int32) (k b : Nat) (is : Int32), (k = 0 ∨ k = 1 ∨ k = 2) → (∀ s, s < 16 → (bt (f 43 k) s = true ↔ (f 83 s = 1 ∧ f 83 (b + s) = is))) → (∀ j, j < 32 → (bt x j = true ↔ j < 16 ∧ f 83 j = 1 ∧ f 83 (b + j) = is)) → x = f 43 k := by
    intro x k b is hk hs hx
    apply bt_ext
    intro j hj
    rcases Nat.lt_or_ge j 16 with y | y
    · have q := (hx j hj).trans ⟨fun z => z.2, fun z => ⟨y, z⟩⟩
      rw [Bool.eq_iff_iff, q, hs j y]
    · have e1 : bt (f 43 k) j = false := by
        obtain ⟨z0, z1, z2, -⟩ := w1 j y
        rcases hk with hk | hk | hk <;> subst hk <;> assumption
      rw [e1]
      have := mt (hx j hj).mp (fun z => by omega)
      simpa using this
  have e10 : ∀ e : Nat, e < 8 → nI (10 + e) - 10 = nI e := fun e _ => by rw [n_10, pk_sub (by omega)]; congr 1; omega
  have rng10 : ∀ x : Int32, (0 ≤ x - 10 ∧ x - 10 ≤ 7) → ∃ e : Nat, e < 8 ∧ x = nI (10 + e) := by
    intro x hx
    obtain ⟨e, he, ee⟩ := rng (K := 7) (by decide) hx
    refine ⟨e, by omega, ?_⟩
    have : x = (x - 10) + 10 := by simp
    rw [this, ee, n_10, nI_add, Nat.add_comm]
  have back10 : ∀ x : Int32, (10 ≤ x ∧ x ≤ 17) → (0 ≤ x - 10 ∧ x - 10 ≤ 7) := by
    intro x hx
    have q1 := Int32.le_iff_toInt_le.mp hx.1
    obtain ⟨e, he, ee⟩ := rng (x := x) (y := 17) (K := 17) (by decide) ⟨Int32.le_trans (by decide) hx.1, hx.2⟩
    subst ee
    rw [nI_toInt (by omega)] at q1
    have q2 : (10 : Int32).toInt = 10 := rfl
    rw [show e = 10 + (e - 10) by omega, e10 (e - 10) (by omega)]
    exact ⟨nI_pos' (by omega), nI_le (b := 7) (by omega) (by omega)⟩
  have fwd10 : ∀ x : Int32, (0 ≤ x - 10 ∧ x - 10 ≤ 7) → (10 ≤ x ∧ x ≤ 17) := by
    intro x hx
    obtain ⟨e, he, rfl⟩ := rng10 x hx
    exact ⟨nI_le (a := 10) (by omega) (by omega), nI_le (b := 17) (by omega) (by omega)⟩
  refine bX10_count_0 (d := 997) (fun z => ⟨_, rfl, ?_⟩) (fun z => ⟨_, rfl, ?_⟩) (fun z => ⟨_, rfl, ?_⟩) (fun z => ⟨_, rfl, ?_⟩) (fun z => ⟨_, rfl, ?_⟩) (fun z => ⟨_, rfl, ?_⟩) (fun z => ?_) (fun z => ⟨_, rfl, ?_⟩) (fun z => ⟨_, rfl, ?_⟩) (fun z => ⟨_, rfl, ?_⟩)
    (fun z0 z1 z2 z3 z4 z5 z6 z7 z8 z9 y => ⟨_, rfl, ?_⟩) (fun z0 z1 z2 z3 z4 z5 z6 z7 z8 z9 y => ?_) (fun z0 z1 z2 z3 z4 z5 z6 z7 z8 z9 y t => ⟨_, rfl, ?_⟩) (fun z0 z1 z2 z3 z4 z5 z6 z7 z8 z9 y t => ?_) (fun z0 z1 z2 z3 z4 z5 z6 z7 z8 z9 y t => ⟨_, rfl, ?_⟩)
  · subst z
    refine bX11_count_0 (d := 996) (fun _ => ⟨by rw [w8], hR⟩) (fun h => absurd h (by decide)) (fun h => absurd h (by decide)) (fun h => absurd h (by decide)) (fun h => absurd h (by decide)) (fun h => absurd h (by decide)) (fun h => absurd h (by decide)) (fun h => absurd h (by decide)) (fun h => absurd h (by decide)) (fun h => absurd h (by decide)) (fun h => absurd rfl h) (fun h => absurd rfl h) (fun h => absurd rfl h) (fun h => absurd rfl h) (fun h => absurd rfl h)
  · subst z
    refine bX11_count_0 (d := 996) (fun h => absurd h (by decide)) (fun _ => ⟨by rw [w6], hR⟩) (fun h => absurd h (by decide)) (fun h => absurd h (by decide)) (fun h => absurd h (by decide)) (fun h => absurd h (by decide)) (fun h => absurd h (by decide)) (fun h => absurd h (by decide)) (fun h => absurd h (by decide)) (fun h => absurd h (by decide)) (fun _ h => absurd rfl h) (fun _ h => absurd rfl h) (fun _ h => absurd rfl h) (fun _ h => absurd rfl h) (fun _ h => absurd rfl h)
  · subst z
    refine bX11_count_0 (d := 996) (fun h => absurd h (by decide)) (fun h => absurd h (by decide)) (fun _ => ?_) (fun h => absurd h (by decide)) (fun h => absurd h (by decide)) (fun h => absurd h (by decide)) (fun h => absurd h (by decide)) (fun h => absurd h (by decide)) (fun h => absurd h (by decide)) (fun h => absurd h (by decide)) (fun _ _ h => absurd rfl h) (fun _ _ h => absurd rfl h) (fun _ _ h => absurd rfl h) (fun _ _ h => absurd rfl h) (fun _ _ h => absurd rfl h)
    refine sp_setOf (b := 0) (by omega) (fun x hx => bX11_count_80 (d := 996) ⟨?_, hR⟩)
    rw [sets x 0 0 1 (Or.inl rfl) (fun s hs => by rw [(w2 s hs).2.1, Nat.zero_add]; exact ⟨fun q => ⟨q, q⟩, fun q => q.1⟩) hx]
  · subst z
    refine bX11_count_0 (d := 996) (fun h => absurd h (by decide)) (fun h => absurd h (by decide)) (fun h => absurd h (by decide)) (fun _ => ?_) (fun h => absurd h (by decide)) (fun h => absurd h (by decide)) (fun h => absurd h (by decide)) (fun h => absurd h (by decide)) (fun h => absurd h (by decide)) (fun h => absurd h (by decide)) (fun _ _ _ h => absurd rfl h) (fun _ _ _ h => absurd rfl h) (fun _ _ _ h => absurd rfl h) (fun _ _ _ h => absurd rfl h) (fun _ _ _ h => absurd rfl h)
    refine sp_setOf (b := 32) (by omega) (fun x hx => bX11_count_88 (d := 996) ⟨?_, hR⟩)
    rw [sets x 1 32 0 (Or.inr (Or.inl rfl)) (fun s hs => (w2 s hs).2.2.1) hx]
  · subst z
    refine bX11_count_0 (d := 996) (fun h => absurd h (by decide)) (fun h => absurd h (by decide)) (fun h => absurd h (by decide)) (fun h => absurd h (by decide)) (fun _ => ?_) (fun h => absurd h (by decide)) (fun h => absurd h (by decide)) (fun h => absurd h (by decide)) (fun h => absurd h (by decide)) (fun h => absurd h (by decide)) (fun _ _ _ _ h => absurd rfl h) (fun _ _ _ _ h => absurd rfl h) (fun _ _ _ _ h => absurd rfl h) (fun _ _ _ _ h => absurd rfl h) (fun _ _ _ _ h => absurd rfl h)
    refine sp_setOf (b := 48) (by omega) (fun x hx => bX11_count_96 (d := 996) ⟨?_, hR⟩)
    rw [sets x 2 48 0 (Or.inr (Or.inr rfl)) (fun s hs => (w2 s hs).2.2.2.1) hx]
  · subst z
    refine bX11_count_0 (d := 996) (fun h => absurd h (by decide)) (fun h => absurd h (by decide)) (fun h => absurd h (by decide)) (fun h => absurd h (by decide)) (fun h => absurd h (by decide)) (fun _ => ?_) (fun h => absurd h (by decide)) (fun h => absurd h (by decide)) (fun h => absurd h (by decide)) (fun h => absurd h (by decide)) (fun _ _ _ _ _ h => absurd rfl h) (fun _ _ _ _ _ h => absurd rfl h) (fun _ _ _ _ _ h => absurd rfl h) (fun _ _ _ _ _ h => absurd rfl h) (fun _ _ _ _ _ h => absurd rfl h)
    refine free 16 0 0 (by omega) (fun j hj => ?_)
    rw [bt_0]
    constructor
    · intro h; exact absurd h (by decide)
    · rintro ⟨h, -⟩; omega
  · subst z
    refine sp_calls (d := 997) isW_43 h6 (bX10_count_111 (d := 997) ⟨_, rfl, ?_⟩)
    refine bX11_count_0 (d := 996) (fun h => absurd h (by decide)) (fun h => absurd h (by decide)) (fun h => absurd h (by decide)) (fun h => absurd h (by decide)) (fun h => absurd h (by decide)) (fun h => absurd h (by decide)) (fun _ => ?_) (fun h => absurd h (by decide)) (fun h => absurd h (by decide)) (fun h => absurd h (by decide)) (fun _ _ _ _ _ _ h => absurd rfl h) (fun _ _ _ _ _ _ h => absurd rfl h) (fun _ _ _ _ _ _ h => absurd rfl h) (fun _ _ _ _ _ _ h => absurd rfl h) (fun _ _ _ _ _ _ h => absurd rfl h)
    exact sp_callsNow h6.rOk (bX11_count_135 (d := 996) ⟨rfl, hR⟩)
  · subst z
    have e7 : f (lwB sw) 0 = f 82 19 := h5.1
    refine bX11_count_0 (d := 996) (fun h => absurd h (by decide)) (fun h => absurd h (by decide)) (fun h => absurd h (by decide)) (fun h => absurd h (by decide)) (fun h => absurd h (by decide)) (fun h => absurd h (by decide)) (fun h => absurd h (by decide)) (fun _ => ⟨by rw [e7], hR⟩) (fun h => absurd h (by decide)) (fun h => absurd h (by decide)) (fun _ _ _ _ _ _ _ h => absurd rfl h) (fun _ _ _ _ _ _ _ h => absurd rfl h) (fun _ _ _ _ _ _ _ h => absurd rfl h) (fun _ _ _ _ _ _ _ h => absurd rfl h) (fun _ _ _ _ _ _ _ h => absurd rfl h)
  · subst z
    refine bX11_count_0 (d := 996) (fun h => absurd h (by decide)) (fun h => absurd h (by decide)) (fun h => absurd h (by decide)) (fun h => absurd h (by decide)) (fun h => absurd h (by decide)) (fun h => absurd h (by decide)) (fun h => absurd h (by decide)) (fun h => absurd h (by decide)) (fun _ => ⟨by rw [h1.2.1], hR⟩) (fun h => absurd h (by decide)) (fun _ _ _ _ _ _ _ _ h => absurd rfl h) (fun _ _ _ _ _ _ _ _ h => absurd rfl h) (fun _ _ _ _ _ _ _ _ h => absurd rfl h) (fun _ _ _ _ _ _ _ _ h => absurd rfl h) (fun _ _ _ _ _ _ _ _ h => absurd rfl h)
  · subst z
    refine bX11_count_0 (d := 996) (fun h => absurd h (by decide)) (fun h => absurd h (by decide)) (fun h => absurd h (by decide)) (fun h => absurd h (by decide)) (fun h => absurd h (by decide)) (fun h => absurd h (by decide)) (fun h => absurd h (by decide)) (fun h => absurd h (by decide)) (fun h => absurd h (by decide)) (fun _ => ⟨by rw [w10], hR⟩) (fun _ _ _ _ _ _ _ _ _ h => absurd rfl h) (fun _ _ _ _ _ _ _ _ _ h => absurd rfl h) (fun _ _ _ _ _ _ _ _ _ h => absurd rfl h) (fun _ _ _ _ _ _ _ _ _ h => absurd rfl h) (fun _ _ _ _ _ _ _ _ _ h => absurd rfl h)
  · have y2 : ¬ (10 ≤ a1 ∧ a1 ≤ 17) := fun h => y (back10 _ h)
    exact bX11_count_0 (d := 996) (fun h => absurd h z0) (fun h => absurd h z1) (fun h => absurd h z2) (fun h => absurd h z3) (fun h => absurd h z4) (fun h => absurd h z5) (fun h => absurd h z6) (fun h => absurd h z7) (fun h => absurd h z8) (fun h => absurd h z9) (fun _ _ _ _ _ _ _ _ _ _ _ => ⟨rfl, hR⟩) (fun _ _ _ _ _ _ _ _ _ _ h => absurd h y2) (fun _ _ _ _ _ _ _ _ _ _ h => absurd h y2) (fun _ _ _ _ _ _ _ _ _ _ h => absurd h y2) (fun _ _ _ _ _ _ _ _ _ _ h => absurd h y2)
  · obtain ⟨e, he, rfl⟩ := rng10 a1 y
    rw [e10 e he]
    exact vp_in_nI (by omega) (by omega)
  · have y2 := fwd10 _ y
    obtain ⟨e, he, rfl⟩ := rng10 a1 y
    rw [e10 e he, nI_clamp (by omega)] at t
    have t2 : f 113 (nI (10 + e) - 10).toNatClampNeg ≤ 0 := by rw [e10 e he, nI_clamp (by omega), (h4 e he).1]; exact t
    have v2 : vp_in (nI (10 + e) - 10) 8 := by rw [e10 e he]; exact vp_in_nI (by omega) (by omega)
    exact bX11_count_0 (d := 996) (fun h => absurd h z0) (fun h => absurd h z1) (fun h => absurd h z2) (fun h => absurd h z3) (fun h => absurd h z4) (fun h => absurd h z5) (fun h => absurd h z6) (fun h => absurd h z7) (fun h => absurd h z8) (fun h => absurd h z9) (fun _ _ _ _ _ _ _ _ _ _ h => absurd y2 h) (fun _ _ _ _ _ _ _ _ _ _ _ => v2) (fun _ _ _ _ _ _ _ _ _ _ _ _ => ⟨rfl, hR⟩) (fun _ _ _ _ _ _ _ _ _ _ _ _ => v2) (fun _ _ _ _ _ _ _ _ _ _ _ h => absurd t2 h)
  · obtain ⟨e, he, rfl⟩ := rng10 a1 y
    rw [e10 e he]
    exact vp_in_nI (by omega) (by omega)
  · have y2 := fwd10 _ y
    obtain ⟨e, he, rfl⟩ := rng10 a1 y
    rw [e10 e he, nI_clamp (by omega)] at t ⊢
    have t2 : ¬ f 113 (nI (10 + e) - 10).toNatClampNeg ≤ 0 := by rw [e10 e he, nI_clamp (by omega), (h4 e he).1]; exact t
    have v2 : vp_in (nI (10 + e) - 10) 8 := by rw [e10 e he]; exact vp_in_nI (by omega) (by omega)
    refine bX11_count_0 (d := 996) (fun h => absurd h z0) (fun h => absurd h z1) (fun h => absurd h z2) (fun h => absurd h z3) (fun h => absurd h z4) (fun h => absurd h z5) (fun h => absurd h z6) (fun h => absurd h z7) (fun h => absurd h z8) (fun h => absurd h z9) (fun _ _ _ _ _ _ _ _ _ _ h => absurd y2 h) (fun _ _ _ _ _ _ _ _ _ _ _ => v2) (fun _ _ _ _ _ _ _ _ _ _ _ h => absurd h t2) (fun _ _ _ _ _ _ _ _ _ _ _ _ => v2) (fun _ _ _ _ _ _ _ _ _ _ _ _ => ⟨?_, hR⟩)
    rw [e10 e he, nI_clamp (by omega), (h4 e he).1]
