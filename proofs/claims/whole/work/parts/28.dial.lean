/-! ===== dialled ===== -/
/-- the code of e begins what was dialled (n digits): the reference -/
def pd (f : FF) (e n : Nat) : Prop := f 113 e ≠ 0 ∧ f 113 e ≤ nI n ∧ ∀ k : Nat, (k : Int) < (f 113 e).toInt → f 112 (6 * e + k) = f 90 k
theorem sp_beginsWith {G : GC} {d : Nat} {sw : Bool} {f : FF} {Q : QQ} {e n : Nat} (he : e < 8) (hl : isN (f 113 e) 6) (ht : pd f e n → Q (some (.int 1)) sw f) (hf : ¬ pd f e n → Q (some (.int 0)) sw f) : XP G mX11_beginsWith d 0 [.ref 82, .int (nI e), .int (nI n), .null] [] sw f Q := by
  obtain ⟨L, hL, eL⟩ := isN_nI hl (by omega)
  have ve : vp_in (nI e) 8 := vp_in_nI he (by omega)
  have ce : (nI e).toNatClampNeg = e := nI_clamp (by omega)
  have tL : (f 113 e).toInt = L := by rw [eL, nI_toInt (by omega)]
  have loop : f 113 e ≠ 0 → f 113 e ≤ nI n → ∀ (m k : Nat), k + m = L → (∀ i, i < k → f 112 (6 * e + i) = f 90 i) → XP G mX11_beginsWith d 23 [.ref 82, .int (nI e), .int (nI n), .int (nI k)] [] sw f Q := by
    intro g1 g2 m
    induction m with
    | zero =>
      intro k hk hh
      refine bX11_beginsWith_23 ve (fun _ => ht ⟨g1, g2, fun i hi => hh i (by omega)⟩) (fun h => ?_) (fun h => ?_) (fun h => ?_) (fun h => ?_) <;>
      · rw [ce, eL] at h
        exact absurd (nI_le (by omega) (by omega)) h
    | succ m ih =>
      intro k hk hh
      have e1 : (6 * nI e + nI k) = nI (6 * e + k) := by rw [n_6, pk_mul, nI_add]
      refine bX11_beginsWith_23 ve (fun h => ?_) (fun _ => ?_) (fun _ => vp_in_nI (by omega) (by omega)) (fun _ h => ?_) (fun _ h => ?_)
      · rw [ce, eL] at h
        exact absurd h (nI_ge (by omega) (by omega))
      · rw [e1]; exact vp_in_nI (by omega) (by omega)
      · rw [e1, nI_clamp (by omega), nI_clamp (by omega)] at h
        rw [nI_1]
        refine ih (k + 1) (by omega) (fun i hi => ?_)
        by_cases z : i = k
        · subst z; exact h
        · exact hh i (by omega)
      · rw [e1, nI_clamp (by omega), nI_clamp (by omega)] at h
        exact hf (fun z => h (z.2.2 k (by omega)))
  refine bX11_beginsWith_0 ve (fun h => ?_) (fun _ => ve) (fun h1 h2 => ?_) (fun h1 h2 => ?_)
  · rw [ce] at h
    exact hf (fun z => z.1 h)
  · rw [ce] at h1 h2
    exact loop h1 h2 L 0 (by omega) (fun m hm => absurd hm (by omega))
  · rw [ce] at h2
    exact hf (fun z => h2 z.2.1)
/-- the best of the first e exchanges: none (8), or one that begins it, the longest, the lowest of these -/
def bestE (f : FF) (n e b : Nat) : Prop := (b = 8 ∧ ∀ m, m < e → ¬ pd f m n) ∨ (b < e ∧ pd f b n ∧ ∀ m, m < e → pd f m n → (f 113 m ≤ f 113 b ∧ (m < b → ¬ f 113 b ≤ f 113 m)))
theorem bestE_one {f : FF} {n e b c : Nat} (h1 : bestE f n e b) (h2 : bestE f n e c) (he : e ≤ 8) : b = c := by
  rcases h1 with ⟨a1, a2⟩ | ⟨a1, a2, a3⟩ <;> rcases h2 with ⟨b1, b2⟩ | ⟨b1, b2, b3⟩
  · omega
  · exact absurd b2 (a2 c b1)
  · exact absurd a2 (b2 b a1)
  · rcases Nat.lt_trichotomy b c with y | y | y
    · exact absurd (a3 c b1 b2).1 ((b3 b a1 a2).2 y)
    · exact y
    · exact absurd (b3 b a1 a2).1 ((a3 c b1 b2).2 y)
/-- one exchange more -/
theorem bestE_no {f : FF} {n e b : Nat} (h : bestE f n e b) (hn : ¬ pd f e n) : bestE f n (e + 1) b := by
  rcases h with ⟨a1, a2⟩ | ⟨a1, a2, a3⟩
  · exact Or.inl ⟨a1, fun m hm => by
      by_cases y : m = e
      · subst y; exact hn
      · exact a2 m (by omega)⟩
  · exact Or.inr ⟨by omega, a2, fun m hm hp => by
      by_cases y : m = e
      · subst y; exact absurd hp hn
      · exact a3 m (by omega) hp⟩
theorem bestE_first {f : FF} {n e : Nat} (h : bestE f n e 8) (he : e < 8) (hp : pd f e n) : bestE f n (e + 1) e := by
  rcases h with ⟨a1, a2⟩ | ⟨a1, a2, a3⟩
  · exact Or.inr ⟨by omega, hp, fun m hm hm2 => by
      by_cases y : m = e
      · subst y; exact ⟨Int32.le_refl _, fun h => absurd h (by omega)⟩
      · exact absurd hm2 (a2 m (by omega))⟩
  · omega
theorem bestE_keep {f : FF} {n e b : Nat} (h : bestE f n e b) (hb : b < 8) (hp : pd f e n) (hl : f 113 e ≤ f 113 b) : bestE f n (e + 1) b := by
  rcases h with ⟨a1, a2⟩ | ⟨a1, a2, a3⟩
  · omega
  · exact Or.inr ⟨by omega, a2, fun m hm hm2 => by
      by_cases y : m = e
      · subst y; exact ⟨hl, fun h => absurd h (by omega)⟩
      · exact a3 m (by omega) hm2⟩
theorem bestE_new {f : FF} {n e b : Nat} (h : bestE f n e b) (hb : b < 8) (hp : pd f e n) (hl : ¬ f 113 e ≤ f 113 b) : bestE f n (e + 1) e := by
  rcases h with ⟨a1, a2⟩ | ⟨a1, a2, a3⟩
  · omega
  · refine Or.inr ⟨by omega, hp, fun m hm hm2 => ?_⟩
    have hlt := Int32.not_le.mp hl
    by_cases y : m = e
    · subst y; exact ⟨Int32.le_refl _, fun h => absurd h (by omega)⟩
    · have q := (a3 m (by omega) hm2).1
      exact ⟨Int32.le_of_lt (Int32.lt_of_le_of_lt q hlt), fun _ z => absurd (Int32.le_trans z q) hl⟩
/-- the class's search -/
theorem sp_reached {G : GC} {d : Nat} {sw : Bool} {f u : FF} {Q : QQ} {n : Nat} (hl : ∀ e, e < 8 → isN (u 13 e) 12) (h113 : ∀ e, e < 8 → u 13 e = f 113 e) (hp : ∀ e, e < 8 → (prefC u 8 e ↔ pd f e n)) (hq : ∀ b, bestE f n 8 b → Q (some (.int (if b = 8 then -1 else nI b))) sw u) : XP G mX4_reached (d + 1) 0 [.ref 11, .null, .null] [] sw u Q := by
  have loop : ∀ (m e b : Nat), e + m = 8 → bestE f n e b → XP G mX4_reached (d + 1) 4 [.ref 11, .int (if b = 8 then -1 else nI b), .int (nI e)] [] sw u Q := by
    intro m
    induction m with
    | zero =>
      intro e b he hb
      have z : e = 8 := by omega
      subst z
      exact bX4_reached_4 (fun _ => hq b hb) (fun h => absurd (by decide) h)
    | succ m ih =>
      intro e b he hb
      refine bX4_reached_4 (fun h => absurd h (nI_ge (a := e) (b := 8) (by omega) (by omega))) (fun _ => ?_)
      refine sp_begins (i := 8) (j := e) (by omega) (by omega) (hl e (by omega)) (fun hpr => ?_) (fun hpr => ?_)
      · have hpd := (hp e (by omega)).mp hpr
        by_cases h8 : b = 8
        · subst h8
          refine bX4_reached_17 (fun h => absurd h (by decide)) (fun _ _ => ?_) (fun _ h => absurd (if_pos rfl) h) (fun _ h => absurd (if_pos rfl) h) (fun _ h => absurd (if_pos rfl) h) (fun _ h => absurd (if_pos rfl) h)
          have := ih (e + 1) e (by omega) (bestE_first hb (by omega) hpd)
          rw [if_neg (by omega)] at this
          rw [nI_1]
          exact this
        · have hb8 : b < 8 := by rcases hb with ⟨a1, _⟩ | ⟨a1, _⟩ <;> omega
          rw [if_neg h8]
          have hne : ¬ nI b = -1 := by
            have key : ∀ m : Fin 8, ¬ nI m.val = -1 := by decide +kernel
            exact key ⟨b, hb8⟩
          have c1 : (nI e).toNatClampNeg = e := nI_clamp (by omega)
          have c2 : (nI b).toNatClampNeg = b := nI_clamp (by omega)
          refine bX4_reached_17 (fun h => absurd h (by decide)) (fun _ h => absurd h hne) (fun _ _ => vp_in_nI (by omega) (by omega)) (fun _ _ => vp_in_nI (by omega) (by omega)) (fun _ _ hle => ?_) (fun _ _ hle => ?_)
          · rw [c1, c2, h113 e (by omega), h113 b hb8] at hle
            have := ih (e + 1) b (by omega) (bestE_keep hb hb8 hpd hle)
            rw [if_neg h8] at this
            rw [nI_1]
            exact this
          · rw [c1, c2, h113 e (by omega), h113 b hb8] at hle
            have := ih (e + 1) e (by omega) (bestE_new hb hb8 hpd hle)
            rw [if_neg (by omega)] at this
            rw [nI_1]
            exact this
      · refine bX4_reached_17 (fun _ => ?_) (fun h => absurd rfl h) (fun h => absurd rfl h) (fun h => absurd rfl h) (fun h => absurd rfl h) (fun h => absurd rfl h)
        rw [nI_1]
        exact ih (e + 1) b (by omega) (bestE_no hb (fun z => hpr ((hp e (by omega)).mpr z)))
  have := loop 8 0 8 (by omega) (Or.inl ⟨rfl, fun m h => absurd h (by omega)⟩)
  rw [if_pos rfl] at this
  exact bX4_reached_0 this
/-- the reference's search -/
theorem sp_dialM {G : GC} {d : Nat} {sw : Bool} {f : FF} {Q : QQ} {n : Nat} {x2 x3 : Int32} (hl : ∀ e, e < 8 → isN (f 113 e) 6) (hq : ∀ b, bestE f n 8 b → Q (some (.int (if b = 8 then -2 else if x2 = 0 then nI b else nI n - f 113 b))) sw f) : XP G mX11_dialled (d + 2) 53 [.ref 82, .int (nI n), .int x2, .int x3, .int (-2), .int 0] [] sw f Q := by
  have loop : ∀ (m e b : Nat), e + m = 8 → bestE f n e b → XP G mX11_dialled (d + 2) 53 [.ref 82, .int (nI n), .int x2, .int x3, .int (if b = 8 then -2 else nI b), .int (nI e)] [] sw f Q := by
    intro m
    induction m with
    | zero =>
      intro e b he hb
      have z : e = 8 := by omega
      subst z
      have := hq b hb
      by_cases h8 : b = 8
      · subst h8
        rw [if_pos rfl] at this ⊢
        exact bX11_dialled_53 (fun _ _ => this) (fun _ _ h => absurd rfl h) (fun _ _ h => absurd rfl h) (fun _ _ _ => this) (fun h => absurd (by decide) h)
      · have hb8 : b < 8 := by rcases hb with ⟨a1, _⟩ | ⟨a1, _⟩ <;> omega
        rw [if_neg h8] at this ⊢
        have hne : ¬ nI b = -2 := by
          have key : ∀ m : Fin 8, ¬ nI m.val = -2 := by decide +kernel
          exact key ⟨b, hb8⟩
        refine bX11_dialled_53 (fun _ h => ?_) (fun _ _ _ => vp_in_nI hb8 (by omega)) (fun _ h _ => ?_) (fun _ _ h => absurd h hne) (fun h => absurd (by decide) h)
        · rw [if_pos h] at this; exact this
        · rw [if_neg h] at this
          rw [nI_clamp (by omega)]
          exact this
    | succ m ih =>
      intro e b he hb
      have he8 : ¬ (8 : Int32) ≤ nI e := nI_ge (a := e) (b := 8) (by omega) (by omega)
      refine bX11_dialled_53 (fun h => absurd h he8) (fun h => absurd h he8) (fun h => absurd h he8) (fun h => absurd h he8) (fun _ => ?_)
      refine sp_beginsWith (by omega) (hl e (by omega)) (fun hpd => ?_) (fun hpd => ?_)
      · by_cases h8 : b = 8
        · subst h8
          refine bX11_dialled_67 (fun h => absurd h (by decide)) (fun _ _ => ?_) (fun _ h => absurd (if_pos rfl) h) (fun _ h => absurd (if_pos rfl) h) (fun _ h => absurd (if_pos rfl) h) (fun _ h => absurd (if_pos rfl) h)
          have := ih (e + 1) e (by omega) (bestE_first hb (by omega) hpd)
          rw [if_neg (by omega)] at this
          rw [nI_1]
          exact this
        · have hb8 : b < 8 := by rcases hb with ⟨a1, _⟩ | ⟨a1, _⟩ <;> omega
          rw [if_neg h8]
          have hne : ¬ nI b = -2 := by
            have key : ∀ m : Fin 8, ¬ nI m.val = -2 := by decide +kernel
            exact key ⟨b, hb8⟩
          have c1 : (nI e).toNatClampNeg = e := nI_clamp (by omega)
          have c2 : (nI b).toNatClampNeg = b := nI_clamp (by omega)
          refine bX11_dialled_67 (fun h => absurd h (by decide)) (fun _ h => absurd h hne) (fun _ _ => vp_in_nI (by omega) (by omega)) (fun _ _ => vp_in_nI (by omega) (by omega)) (fun _ _ hle => ?_) (fun _ _ hle => ?_)
          · rw [c1, c2] at hle
            have := ih (e + 1) b (by omega) (bestE_keep hb hb8 hpd hle)
            rw [if_neg h8] at this
            rw [nI_1]
            exact this
          · rw [c1, c2] at hle
            have := ih (e + 1) e (by omega) (bestE_new hb hb8 hpd hle)
            rw [if_neg (by omega)] at this
            rw [nI_1]
            exact this
      · refine bX11_dialled_67 (fun _ => ?_) (fun h => absurd rfl h) (fun h => absurd rfl h) (fun h => absurd rfl h) (fun h => absurd rfl h) (fun h => absurd rfl h)
        rw [nI_1]
        exact ih (e + 1) b (by omega) (bestE_no hb hpd)
  have := loop 8 0 8 (by omega) (Or.inl ⟨rfl, fun m h => absurd h (by omega)⟩)
  rw [if_pos rfl] at this
  exact this
theorem op_dialled (G : GC) : OP24 G RR := by
  intro a1 a2 sw f hR
  obtain ⟨h1, h2, h3, h4, h5, h6, h7⟩ := id hR
  by_cases c1 : 1 ≤ a1 ∧ a1 ≤ 12
  · by_cases c2 : 0 ≤ a2 ∧ a2 ≤ 1
    · obtain ⟨n, hn1, hn, rfl⟩ := le1_rng (K := 12) (by decide) c1 (by omega)
      refine bX10_dialled_0 (d := 996) (fun h => absurd c1 h) (fun _ h => absurd c2 h) (fun _ _ => ?_)
      refine sp_take (by omega) h1 (fun hle g hs ht ho hp => ?_) (fun hle => ?_)
      · refine bX10_dialled_27 (fun _ => ?_) (fun h => absurd h (by decide))
        have hle2 : nI n ≤ g 82 10 := by rw [ho 82 (by omega), h1.2.1]; exact hle
        have gb : ∀ j, j < n → (f 90 j &&& 255) = g 2 j := fun j hj => by rw [ht.2.2.2 j hj, ho 90 (by omega)]
        refine sp_load (e := 8) (d := 996) (by omega) hn1 (by omega) ht (fun hgd u q1 q2 q3 q4 => ?_) (fun j hj hm hb u o1 q2 => ?_)
        · refine bX10_dialled_42 (fun _ => ?_) (fun h => absurd (nI_pos' (by omega)) h)
          have u90 : u 90 = f 90 := by rw [q1 90 (by omega) (by omega) (by omega), ho 90 (by omega)]
          have hgd2 : ∀ j, j < n → 48 ≤ f 90 j &&& 255 ∧ f 90 j &&& 255 ≤ 57 := fun j hj => by rw [gb j hj]; exact hgd j hj
          have u12 : ∀ k, k < 96 → u 12 k = f 12 k := fun k hk => by rw [q4 k, if_neg (by omega), ho 12 (by omega)]
          have u13 : ∀ e, e < 8 → u 13 e = f 13 e := fun e he => by rw [q3, pk_un (by omega), ho 13 (by omega)]
          have u8 : u 13 8 = nI n := by rw [q3, pk_us]
          have sxu : SX sw f u := fun c j r => by
            by_cases z12 : c = 12
            · subst z12; exact u12 j (by have := lwB_or sw; unfold relv at r; omega)
            · by_cases z13 : c = 13
              · subst z13; exact u13 j (by have := lwB_or sw; unfold relv at r; omega)
              · have z1 : c ≠ 1 := by have := lwB_or sw; unfold relv at r; omega
                rw [q1 c z1 z12 z13, ho c z1]
          have hpp : ∀ e, e < 8 → (prefC u 8 e ↔ pd f e n) := by
            intro e he
            obtain ⟨p1, p2, p3⟩ := h4 e he
            unfold prefC pd
            rw [u13 e he, u8, p1]
            have dg : ∀ k : Nat, (k : Int) < (f 13 e).toInt → f 13 e ≤ nI n → (u 12 (12 * 8 + k) = u 12 (12 * e + k) ↔ f 112 (6 * e + k) = f 90 k) := by
              intro k hk hle9
              have hkn : k < n := by
                have := Int32.le_iff_toInt_le.mp hle9
                rw [nI_toInt (by omega)] at this
                omega
              have := p2.2
              rw [q4 (12 * 8 + k), if_pos (by omega), show 12 * 8 + k - 12 * 8 = k by omega, u12 _ (by omega), (p3 k hk).1, ← gb k hkn]
              have e9 : f 90 k = f 90 k &&& 255 := by
                have := dig8 (hgd2 k hkn).2
                rw [h1.2.2.2 k] at this
                exact this
              rw [← e9]
              constructor
              · intro z; rw [← z, Int32.sub_add_cancel]
              · intro z; rw [← z, Int32.add_sub_cancel]
            constructor
            · rintro ⟨r1, r2, r3⟩
              exact ⟨r1, r2, fun k hk => (dg k hk r2).mp (r3 k hk)⟩
            · rintro ⟨r1, r2, r3⟩
              exact ⟨r1, r2, fun k hk => (dg k hk r2).mpr (r3 k hk)⟩
          refine sp_reached (d := 997) (fun e he => by rw [u13 e he]; exact h4.len e he) (fun e he => by rw [u13 e he]; exact (h4 e he).1.symm) hpp (fun b hb => ?_)
          -- the reference's side
          have hle3 : nI n ≤ u 82 10 := by rw [q1 82 (by omega) (by omega) (by omega)]; exact hle2
          have sx : SX sw f (upd2 u 82 10 0) := sxu.up (by have := lwB_or sw; unfold relv; omega)
          have hRf : RR sw (upd2 u 82 10 0) := hR.ofSX sx (RT_empty (by rw [upd2_ne _ _ _ (by omega)]; exact q2) (by rw [upd2_self, pk_us]) (fun i => by rw [upd2_ne _ _ _ (by omega), u90]; exact h1.2.2.2 i))
          have pdeq : ∀ e m, pd (upd2 u 82 10 0) e m ↔ pd f e m := by
            intro e m
            have x1 : upd2 u 82 10 0 113 = f 113 := funext fun j => sx _ _ (by unfold relv; omega)
            have x2 : upd2 u 82 10 0 112 = f 112 := funext fun j => sx _ _ (by unfold relv; omega)
            have x3 : upd2 u 82 10 0 90 = f 90 := by rw [upd2_ne _ _ _ (by omega), u90]
            unfold pd
            rw [x1, x2, x3]
          have ref : ∀ r : Int32, r = (if b = 8 then -2 else if a2 = 0 then nI b else nI n - f 113 b) → XP G mX11_dialled 999 0 [.ref 82, .int (nI n), .int a2, .null, .null, .null] [] sw u (fun v2 sw2 f2 => v2 = some (.int r) ∧ RR sw2 f2) := by
            intro r hr
            refine bX11_dialled_0 (d := 997) (fun h => absurd c1 h) (fun _ h => absurd c2 h) (fun _ _ _ => ?_) (fun _ _ h => absurd hle3 h)
            refine sp_faultOfDigits (d := 997) (by omega) (fun _ => ?_) (fun j hj hm hb2 => ?_)
            · refine bX11_dialled_39 (d := 997) (fun _ => ?_) (fun h => absurd rfl h)
              refine sp_dialM (d := 997) (fun e he => (sx.RP h4).lenM e he) (fun b2 hb2 => ⟨?_, hRf⟩)
              have x1 : upd2 u 82 10 0 113 = f 113 := funext fun j => sx _ _ (by unfold relv; omega)
              have hb3 : bestE f n 8 b2 := by
                unfold bestE at hb2 ⊢
                rw [x1] at hb2
                simpa only [pdeq] using hb2
              have eb := bestE_one hb hb3 (by omega)
              subst eb
              rw [x1, hr]
            · rw [upd2_ne _ _ _ (by omega), u90] at hb2
              exact absurd (hgd2 j hj) hb2
          by_cases h8 : b = 8
          · subst h8
            rw [if_pos rfl]
            exact bX10_dialled_56 (fun h => absurd rfl h) (fun h => absurd rfl h) (fun h => absurd rfl h) (fun _ => ⟨_, rfl, ref _ (by rw [if_pos rfl])⟩)
          · have hb8 : b < 8 := by rcases hb with ⟨a1, _⟩ | ⟨a1, _⟩ <;> omega
            rw [if_neg h8]
            have hne : ¬ nI b = -1 := by
              have key : ∀ m : Fin 8, ¬ nI m.val = -1 := by decide +kernel
              exact key ⟨b, hb8⟩
            refine bX10_dialled_56 (fun _ _ => vp_in_nI (by omega) (by omega)) (fun _ hz => ⟨_, rfl, ref _ ?_⟩) (fun _ hz => ⟨_, rfl, ref _ ?_⟩) (fun h => absurd h hne)
            · rw [if_neg h8, if_neg hz, nI_clamp (by omega), u13 b hb8, (h4 b hb8).1]
            · rw [if_neg h8, if_pos hz]
        · have hle3 : nI n ≤ u 82 10 := by rw [o1 82 (by omega)]; exact hle2
          have u90 : u 90 = f 90 := by rw [o1 90 (by omega), ho 90 (by omega)]
          have sx : SX sw f (upd2 u 82 10 0) := (hs.tr o1.SX).up (by have := lwB_or sw; unfold relv; omega)
          have hRf : RR sw (upd2 u 82 10 0) := hR.ofSX sx (RT_empty (by rw [upd2_ne _ _ _ (by omega)]; exact q2) (by rw [upd2_self, pk_us]) (fun i => by rw [upd2_ne _ _ _ (by omega), u90]; exact h1.2.2.2 i))
          have hneg : ¬ 0 ≤ (-1000 - nI j : Int32) ∧ ¬ (-1000 - nI j : Int32) = 0 := by
            have key : ∀ m : Fin 12, ¬ 0 ≤ (-1000 - nI m.val : Int32) ∧ ¬ (-1000 - nI m.val : Int32) = 0 := by decide +kernel
            exact key ⟨j, by omega⟩
          refine bX10_dialled_42 (fun h => absurd h hneg.1) (fun _ => ⟨_, rfl, ?_⟩)
          refine bX11_dialled_0 (d := 997) (fun h => absurd c1 h) (fun _ h => absurd c2 h) (fun _ _ _ => ?_) (fun _ _ h => absurd hle3 h)
          have v90 : upd2 u 82 10 0 90 = f 90 := by rw [upd2_ne _ _ _ (by omega), u90]
          refine sp_faultOfDigits (d := 997) (by omega) (fun hall => ?_) (fun j2 hj2 hm2 hb2 => ?_)
          · have := hall j hj
            rw [v90, gb j hj] at this
            exact absurd this hb
          · have ej : j2 = j := by
              rcases Nat.lt_trichotomy j2 j with y | y | y
              · have := hm j2 y
                rw [← gb j2 hj2] at this
                rw [v90] at hb2
                exact absurd this hb2
              · exact y
              · have := hm2 j y
                rw [v90, gb j hj] at this
                exact absurd this hb
            subst ej
            exact bX11_dialled_39 (d := 997) (fun h => absurd h hneg.2) (fun _ => ⟨rfl, hRf⟩)
      · refine bX10_dialled_27 (fun h => absurd rfl h) (fun _ => ⟨_, rfl, ?_⟩)
        have hle2 : ¬ nI n ≤ f 82 10 := by rw [h1.2.1]; exact hle
        exact bX11_dialled_0 (d := 997) (fun h => absurd c1 h) (fun _ h => absurd c2 h) (fun _ _ h => absurd h hle2) (fun _ _ _ => ⟨rfl, hR⟩)
    · exact bX10_dialled_0 (d := 996) (fun h => absurd c1 h) (fun _ _ => ⟨_, rfl, bX11_dialled_0 (d := 997) (fun h => absurd c1 h) (fun _ _ => ⟨rfl, hR⟩) (fun _ h => absurd h c2) (fun _ h => absurd h c2)⟩) (fun _ h => absurd h c2)
  · exact bX10_dialled_0 (d := 996) (fun _ => ⟨_, rfl, bX11_dialled_0 (d := 997) (fun _ => ⟨rfl, hR⟩) (fun h => absurd h c1) (fun h => absurd h c1) (fun h => absurd h c1)⟩) (fun h => absurd h c1) (fun h => absurd h c1)
