/-! ===== told ===== -/
abbrev ahd (p T : Nat → Nat) (who i j : Nat) : Prop := 1 ≤ j ∧ p j = who ∧ (T i < T j ∨ (T j = T i ∧ j < i))
def plC (p T : Nat → Nat) (who i : Nat) : Nat → Nat
  | 0 => 1
  | j + 1 => plC p T who i j + (if ahd p T who i j then 1 else 0)
def lgC (p T : Nat → Nat) (n who : Nat) : Nat → Nat
  | 0 => 0
  | k + 1 => if who < k ∧ p k = who then (if lgC p T n who k < plC p T who k n + T k then plC p T who k n + T k else lgC p T n who k) else lgC p T n who k
def tkA (p : Nat → Nat) (n : Nat) : Nat → Nat → Nat
  | 0 => fun _ => 0
  | m + 1 => fun j => if j = n - 1 - m then lgC p (tkA p n m) n (n - 1 - m) n else tkA p n m j
theorem plC_le (p T : Nat → Nat) (who i : Nat) : ∀ j, plC p T who i j ≤ j + 1 := by
  intro j
  induction j with
  | zero => exact Nat.le_refl _
  | succ j ih =>
    show plC p T who i j + (if ahd p T who i j then 1 else 0) ≤ _
    split <;> omega
theorem plC_low {p T : Nat → Nat} {who i n : Nat} (hp : ∀ j, 1 ≤ j → j < n → p j < j) : ∀ j, j ≤ who + 1 → j ≤ n → plC p T who i j = 1 := by
  intro j
  induction j with
  | zero => intro _ _; rfl
  | succ j ih =>
    intro h h2
    show plC p T who i j + (if ahd p T who i j then 1 else 0) = 1
    rw [ih (by omega) (by omega), if_neg]
    intro z
    have := hp j z.1 (by omega)
    have := z.2.1
    omega
theorem lgC_low {p T : Nat → Nat} {n who : Nat} : ∀ k, k ≤ who + 1 → lgC p T n who k = 0 := by
  intro k
  induction k with
  | zero => intro _; rfl
  | succ k ih =>
    intro h
    show (if who < k ∧ p k = who then _ else lgC p T n who k) = 0
    rw [if_neg (by omega), ih (by omega)]
theorem lgC_le {p T : Nat → Nat} {n who B : Nat} (hT : ∀ j, T j ≤ B) : ∀ k, lgC p T n who k ≤ n + 1 + B := by
  intro k
  induction k with
  | zero => exact Nat.zero_le _
  | succ k ih =>
    have h1 := plC_le p T who k n
    have h2 := hT k
    show (if who < k ∧ p k = who then (if _ < _ then _ else _) else lgC p T n who k) ≤ _
    split
    · split <;> omega
    · exact ih
theorem tkA_le {p : Nat → Nat} {n : Nat} : ∀ m j, tkA p n m j ≤ (n + 1) * m := by
  intro m
  induction m with
  | zero => intro j; exact Nat.zero_le _
  | succ m ih =>
    intro j
    show (if j = n - 1 - m then lgC p (tkA p n m) n (n - 1 - m) n else tkA p n m j) ≤ _
    rw [Nat.mul_succ]
    split
    · have := lgC_le (p := p) (n := n) (who := n - 1 - m) ih n
      omega
    · have := ih j
      omega
theorem tkA_lt {p : Nat → Nat} {n m : Nat} (hn : n ≤ 16) (hm : m ≤ n) (j : Nat) : tkA p n m j ≤ 272 := by
  have h := tkA_le (p := p) (n := n) m j
  have : (n + 1) * m ≤ 17 * 16 := Nat.mul_le_mul (by omega) (by omega)
  omega
theorem sp_turnOf {G : GC} {d : Nat} {sw : Bool} {f : FF} {Q : QQ} {p T : Nat → Nat} {n who i : Nat} (hn : n ≤ 16) (hi1 : 1 ≤ i) (hin : i < n) (hip : p i = who)
    (hp : ∀ j, 1 ≤ j → j < n → f 15 j = nI (p j) ∧ p j < 256) (hT : ∀ j, 1 ≤ j → j < n → p j = who → f 16 j = nI (T j)) (hB : ∀ j, T j ≤ 272) (hq : Q (some (.int (nI (plC p T who i n)))) sw f) : XP G mX6_turnOf d 0 [.ref 14, .int (nI i), .int (nI n), .null, .null, .null] [] sw f Q := by
  have loop : ∀ (k j : Nat) (v5 : Value), 1 ≤ j → j + k = n → XP G mX6_turnOf d 5 [.ref 14, .int (nI i), .int (nI n), .int (nI (plC p T who i j)), .int (nI j), v5] [] sw f Q := by
    intro k
    induction k with
    | zero =>
      intro j v5 _ hj
      have z : j = n := by omega
      subst z
      have hle : nI j ≤ nI j := nI_le (Nat.le_refl _) (by omega)
      exact bX6_turnOf_5 (fun _ => hq) (fun h => absurd hle h) (fun h => absurd hle h) (fun h => absurd hle h) (fun h => absurd hle h) (fun h => absurd hle h) (fun h => absurd hle h) (fun h => absurd hle h) (fun h => absurd hle h) (fun h => absurd hle h) (fun h => absurd hle h) (fun h => absurd hle h) (fun h => absurd hle h) (fun h => absurd hle h) (fun h => absurd hle h) (fun h => absurd hle h) (fun h => absurd hle h) (fun h => absurd hle h) (fun h => absurd hle h) (fun h => absurd hle h) (fun h => absurd hle h)
    | succ k ih =>
      intro j v5 hj1 hj
      have nle : ¬ nI n ≤ nI j := nI_ge (by omega) (by omega)
      have vj : vp_in (nI j) 16 := vp_in_nI (by omega) (by omega)
      have vi : vp_in (nI i) 16 := vp_in_nI (by omega) (by omega)
      have ci : (nI i).toNatClampNeg = i := nI_clamp (by omega)
      have cj : (nI j).toNatClampNeg = j := nI_clamp (by omega)
      have stay : ¬ ahd p T who i j → ∀ v : Value, XP G mX6_turnOf d 5 [.ref 14, .int (nI i), .int (nI n), .int (nI (plC p T who i j)), .int (nI j + 1), v] [] sw f Q := by
        intro h v
        have := ih (j + 1) v (by omega) (by omega)
        rw [show plC p T who i (j + 1) = plC p T who i j + 0 from congrArg (_ + ·) (if_neg h), Nat.add_zero, ← nI_1] at this
        exact this
      have inc : ahd p T who i j → ∀ v : Value, XP G mX6_turnOf d 5 [.ref 14, .int (nI i), .int (nI n), .int (nI (plC p T who i j) + 1), .int (nI j + 1), v] [] sw f Q := by
        intro h v
        have := ih (j + 1) v (by omega) (by omega)
        rw [show plC p T who i (j + 1) = plC p T who i j + 1 from congrArg (_ + ·) (if_pos h), ← nI_1, ← nI_1] at this
        exact this
      have same : f 15 j = f 15 i ↔ p j = who := by
        have q1 := hp j hj1 (by omega)
        have q2 := hp i hi1 hin
        rw [q1.1, q2.1, nI_eq (by omega) (by omega), hip]
      have ei : f 16 i = nI (T i) := hT i hi1 hin hip
      have bi := hB i
      have bj := hB j
      refine bX6_turnOf_5 (fun h => absurd h nle) (fun _ => vj) (fun _ => vi) (fun _ _ => vj) (fun _ _ => vi) (fun _ _ h2 => ?_) (fun _ h1 h2 => ?_) (fun _ _ => vj) (fun _ _ => vi) (fun _ _ _ => vj) (fun _ _ _ => vi) (fun _ _ _ h2 => ?_) (fun _ h1 h3 h2 => ?_) (fun _ _ _ _ => vj) (fun _ _ _ _ => vi) (fun _ _ _ _ h2 => ?_) (fun _ h1 h3 h4 h2 => ?_) (fun _ _ _ _ => vj) (fun _ _ _ _ => vi) (fun _ _ _ _ h2 => ?_) (fun _ h1 h3 h4 h2 => ?_)
      · rw [ci, cj, same] at h2; exact stay (fun z => h2 z.2.1) _
      · rw [ci, cj, same] at h2
        rw [ci, cj, ei, hT j hj1 (by omega) h2, nI_ltI (by omega) (by omega)] at h1
        exact inc ⟨hj1, h2, Or.inl h1⟩ _
      · rw [ci, cj, same] at h2; exact stay (fun z => h2 z.2.1) _
      · rw [ci, cj, same] at h2
        rw [ci, cj, ei, hT j hj1 (by omega) h2, nI_ltI (by omega) (by omega)] at h1
        rw [ci, cj, ei, hT j hj1 (by omega) h2, nI_eq (by omega) (by omega)] at h3
        exact stay (fun z => by rcases z.2.2 with z | z; exact h1 z; exact h3 z.1) _
      · rw [ci, cj, same] at h2; exact stay (fun z => h2 z.2.1) _
      · rw [ci, cj, same] at h2
        rw [ci, cj, ei, hT j hj1 (by omega) h2, nI_ltI (by omega) (by omega)] at h1
        rw [nI_leI (by omega) (by omega)] at h4
        exact stay (fun z => by rcases z.2.2 with z | z; exact h1 z; omega) _
      · rw [ci, cj, same] at h2; exact stay (fun z => h2 z.2.1) _
      · rw [ci, cj, same] at h2
        rw [ci, cj, ei, hT j hj1 (by omega) h2, nI_eq (by omega) (by omega)] at h3
        rw [nI_leI (by omega) (by omega)] at h4
        exact inc ⟨hj1, h2, Or.inr ⟨h3, by omega⟩⟩ _
  have e1 : plC p T who i 1 = 1 := by
    show 1 + (if ahd p T who i 0 then 1 else 0) = 1
    rw [if_neg (fun z => by have := z.1; omega)]
  have := loop (n - 1) 1 .null (by omega) (by omega)
  rw [e1] at this
  exact bX6_turnOf_0 this
theorem lg_if {a b : Nat} (ha : a < 2 ^ 31) (hb : b < 2 ^ 31) : (if nI a < nI b then nI b else nI a) = nI (if a < b then b else a) := by
  by_cases y : a < b
  · rw [if_pos y, if_pos (nI_lt y hb)]
  · rw [if_neg y, if_neg (nI_nlt (by omega) ha)]
theorem lg_mx {a b : Nat} (ha : a < 2 ^ 31) (hb : b < 2 ^ 31) : mxI (nI a) (nI b) = nI (if a < b then b else a) := by
  unfold mxI
  by_cases y : a < b
  · rw [if_pos y, if_neg (nI_nlt (by omega) hb)]
  · rw [if_neg y]
    by_cases z : b < a
    · rw [if_pos (nI_lt z ha)]
    · rw [if_neg (nI_nlt (by omega) hb), show b = a by omega]
theorem sp_soonest {G : GC} {d : Nat} {sw : Bool} {f : FF} {Q : QQ} {p : Nat → Nat} {n : Nat} (hn1 : 1 ≤ n) (hn : n ≤ 16) (hpj : ∀ j, 1 ≤ j → j < n → p j < j)
    (hp : ∀ j, 1 ≤ j → j < n → f 15 j = nI (p j) ∧ p j < 256) (hq : ∀ g, (∀ c, c ≠ 16 → g c = f c) → (∀ j, j < n → g 16 j = nI (tkA p n n j)) → Q (some (.int (nI (tkA p n n 0)))) sw g) : XP G mX6_soonest (d + 1) 0 [.ref 14, .int (nI n), .null, .null] [] sw f Q := by
  have outer : ∀ (k m : Nat) (g : FF) (v3 : Value), m + k = n → (∀ c, c ≠ 16 → g c = f c) → (∀ j, n - m ≤ j → j < n → g 16 j = nI (tkA p n m j)) → XP G mX6_soonest (d + 1) 4 [.ref 14, .int (nI n), .int (nI (n - m) - 1), v3] [] sw g Q := by
    intro k
    induction k with
    | zero =>
      intro m g v3 hm ho hr
      have z : m = n := by omega
      subst z
      have e : nI (m - m) - 1 = -1 := by rw [Nat.sub_self]; decide
      rw [e]
      refine bX6_soonest_4 (fun _ => ?_) (fun h => absurd (by decide) h) (fun h => absurd (by decide) h)
      rw [hr 0 (by omega) (by omega)]
      exact hq g ho (fun j hj => hr j (by omega) hj)
    | succ k ih =>
      intro m g v3 hm ho hr
      have e : nI (n - m) - 1 = nI (n - 1 - m) := by rw [n_1, pk_sub (by omega), show n - m - 1 = n - 1 - m by omega]
      rw [e]
      have vt : vp_in (nI (n - 1 - m)) 16 := vp_in_nI (by omega) (by omega)
      have ct : (nI (n - 1 - m)).toNatClampNeg = n - 1 - m := nI_clamp (by omega)
      refine bX6_soonest_4 (fun h => absurd h (nI_pos (by omega))) (fun _ => vt) (fun _ => ?_)
      rw [ct, nI_1]
      have inner : ∀ (l i : Nat) (u : FF), n - 1 - m < i → i + l = n → (∀ c, c ≠ 16 → u c = f c) → (∀ j, n - m ≤ j → j < n → u 16 j = nI (tkA p n m j)) → u 16 (n - 1 - m) = nI (lgC p (tkA p n m) n (n - 1 - m) i) → XP G mX6_soonest (d + 1) 19 [.ref 14, .int (nI n), .int (nI (n - 1 - m)), .int (nI i)] [] sw u Q := by
        intro l
        induction l with
        | zero =>
          intro i u hi1 hi uo ur ut
          have z : i = n := by omega
          subst z
          have hle : nI i ≤ nI i := nI_le (Nat.le_refl _) (by omega)
          refine bX6_soonest_19 (fun _ => ?_) (fun h => absurd hle h) (fun h => absurd hle h) (fun h => absurd hle h) (fun h => absurd hle h)
          have := ih (m + 1) u (.int (nI i)) (by omega) uo (fun j q1 q2 => ?_)
          · rw [show i - (m + 1) = i - 1 - m by omega, Int32.sub_eq_add_neg] at this
            exact this
          · show u 16 j = nI (if j = i - 1 - m then lgC p (tkA p i m) i (i - 1 - m) i else tkA p i m j)
            by_cases y : j = i - 1 - m
            · rw [if_pos y, y]; exact ut
            · rw [if_neg y]; exact ur j (by omega) q2
        | succ l il =>
          intro i u hi1 hi uo ur ut
          have nle : ¬ nI n ≤ nI i := nI_ge (by omega) (by omega)
          have vi : vp_in (nI i) 16 := vp_in_nI (by omega) (by omega)
          have ci : (nI i).toNatClampNeg = i := nI_clamp (by omega)
          have pi := hp i (by omega) (by omega)
          have eq : u 15 i = nI (n - 1 - m) ↔ p i = n - 1 - m := by rw [uo 15 (by omega), pi.1, nI_eq (by omega) (by omega)]
          have bb : ∀ j, tkA p n m j ≤ 272 := tkA_lt hn (by omega)
          refine bX6_soonest_19 (fun h => absurd h nle) (fun _ => vi) (fun _ h => ?_) (fun _ _ => vt) (fun _ h => ?_)
          · rw [ci, eq] at h
            rw [nI_1]
            refine il (i + 1) u (by omega) (by omega) uo ur ?_
            rw [ut]
            show _ = nI (if n - 1 - m < i ∧ p i = n - 1 - m then _ else lgC p (tkA p n m) n (n - 1 - m) i)
            rw [if_neg (fun z => h z.2)]
          · rw [ci, eq] at h
            refine sp_turnOf (p := p) (T := tkA p n m) (who := n - 1 - m) hn (by omega) (by omega) h (fun j j1 j2 => by rw [uo 15 (by omega)]; exact hp j j1 j2) (fun j j1 j2 j3 => ur j (by have := hpj j j1 j2; omega) j2) bb ?_
            refine bX6_soonest_51 vi vt ?_
            rw [ci, ct, ut, ur i (by omega) (by omega), nI_add, nI_1]
            have b1 := plC_le p (tkA p n m) (n - 1 - m) i n
            have b2 := bb i
            have b3 := lgC_le (p := p) (n := n) (who := n - 1 - m) bb i
            rw [lg_if (by omega) (by omega)]
            refine il (i + 1) _ (by omega) (by omega) (fun c hc => by rw [upd2_ne _ _ _ hc]; exact uo c hc) (fun j q1 q2 => by rw [upd2_self, pk_un (by omega)]; exact ur j q1 q2) ?_
            rw [upd2_self, pk_us]
            show _ = nI (if n - 1 - m < i ∧ p i = n - 1 - m then (if lgC p (tkA p n m) n (n - 1 - m) i < plC p (tkA p n m) (n - 1 - m) i n + tkA p n m i then plC p (tkA p n m) (n - 1 - m) i n + tkA p n m i else lgC p (tkA p n m) n (n - 1 - m) i) else lgC p (tkA p n m) n (n - 1 - m) i)
            rw [if_pos (show n - 1 - m < i ∧ p i = n - 1 - m from ⟨by omega, h⟩)]
      exact inner (n - (n - 1 - m + 1)) (n - 1 - m + 1) _ (by omega) (by omega) (fun c hc => by rw [upd2_ne _ _ _ hc]; exact ho c hc) (fun j q1 q2 => by rw [upd2_self, pk_un (by omega)]; exact hr j q1 q2) (by rw [upd2_self, pk_us, lgC_low _ (Nat.le_refl _)]; rfl)
  have := outer n 0 f .null (by omega) (fun _ _ => rfl) (fun j q1 q2 => by omega)
  exact bX6_soonest_0 this
/-! the reference -/
theorem sp_longFor {G : GC} {d : Nat} {sw : Bool} {f : FF} {Q : QQ} {p T : Nat → Nat} {n who : Nat} (hn : n ≤ 16) (hw : who < n) (hpj : ∀ j, 1 ≤ j → j < n → p j < j)
    (hp : ∀ j, 1 ≤ j → j < n → oct f (nI j) = nI (p j) ∧ p j < 256) (hT : ∀ j, who < j → j < n → f 110 j = nI (T j)) (hB : ∀ j, T j ≤ 272) (hq : Q (some (.int (nI (lgC p T n who n)))) sw f) : XP G mX11_longFor (d + 1) 0 [.ref 82, .int (nI who), .int (nI n), .null, .null, .null, .null] [] sw f Q := by
  have outer : ∀ (l k : Nat) (v5 v6 : Value), who < k → k + l = n → XP G mX11_longFor (d + 1) 7 [.ref 82, .int (nI who), .int (nI n), .int (nI (lgC p T n who k)), .int (nI k), v5, v6] [] sw f Q := by
    intro l
    induction l with
    | zero =>
      intro k v5 v6 hk1 hk
      have z : k = n := by omega
      subst z
      have hle : nI k ≤ nI k := nI_le (Nat.le_refl _) (by omega)
      exact bX11_longFor_7 (fun _ => hq) (fun h => absurd hle h) (fun h => absurd hle h) (fun h => absurd hle h)
    | succ l ih =>
      intro k v5 v6 hk1 hk
      have nle : ¬ nI n ≤ nI k := nI_ge (by omega) (by omega)
      have pk := hp k (by omega) (by omega)
      have ck : (nI k).toNatClampNeg = k := nI_clamp (by omega)
      have eq : oct f (nI k) = nI who ↔ p k = who := by rw [pk.1, nI_eq (by omega) (by omega)]
      refine bX11_longFor_7 (fun h => absurd h nle) (fun _ => vp_in_nI (by omega) (by omega)) (fun _ h => ?_) (fun _ h => ?_)
      · rw [eq] at h
        rw [nI_1]
        have inner : ∀ (l j : Nat), who < j → j + l = n → XP G mX11_longFor (d + 1) 34 [.ref 82, .int (nI who), .int (nI n), .int (nI (lgC p T n who k)), .int (nI k), .int (nI (plC p T who k j)), .int (nI j)] [] sw f Q := by
          intro l
          induction l with
          | zero =>
            intro j hj1 hj
            have z : j = n := by omega
            subst z
            have hle : nI j ≤ nI j := nI_le (Nat.le_refl _) (by omega)
            refine bX11_longFor_34 (fun _ => vp_in_nI (by omega) (by omega)) (fun _ => ?_) (fun h => absurd hle h) (fun h => absurd hle h) (fun h => absurd hle h) (fun h => absurd hle h) (fun h => absurd hle h) (fun h => absurd hle h) (fun h => absurd hle h) (fun h => absurd hle h) (fun h => absurd hle h) (fun h => absurd hle h)
            have b1 := plC_le p T who k j
            have b2 := hB k
            have b3 := lgC_le (p := p) (n := j) (who := who) hB k
            rw [ck, hT k hk1 (by omega), nI_add, lg_mx (by omega) (by omega), nI_1]
            have := ih (k + 1) (.int (nI (plC p T who k j))) (.int (nI j)) (by omega) (by omega)
            rw [show lgC p T j who (k + 1) = (if lgC p T j who k < plC p T who k j + T k then plC p T who k j + T k else lgC p T j who k) from if_pos ⟨hk1, h⟩] at this
            exact this
          | succ l il =>
            intro j hj1 hj
            have nle : ¬ nI n ≤ nI j := nI_ge (by omega) (by omega)
            have pj := hp j (by omega) (by omega)
            have cj : (nI j).toNatClampNeg = j := nI_clamp (by omega)
            have eqj : oct f (nI j) = nI who ↔ p j = who := by rw [pj.1, nI_eq (by omega) (by omega)]
            have vj : vp_in (nI j) 16 := vp_in_nI (by omega) (by omega)
            have vk : vp_in (nI k) 16 := vp_in_nI (by omega) (by omega)
            have ek := hT k hk1 (by omega)
            have ej := hT j hj1 (by omega)
            have bk := hB k
            have bj := hB j
            have stay : ¬ ahd p T who k j → XP G mX11_longFor (d + 1) 34 [.ref 82, .int (nI who), .int (nI n), .int (nI (lgC p T n who k)), .int (nI k), .int (nI (plC p T who k j)), .int (nI j + 1)] [] sw f Q := by
              intro h
              have := il (j + 1) (by omega) (by omega)
              rw [show plC p T who k (j + 1) = plC p T who k j + 0 from congrArg (_ + ·) (if_neg h), Nat.add_zero, ← nI_1] at this
              exact this
            have inc : ahd p T who k j → XP G mX11_longFor (d + 1) 34 [.ref 82, .int (nI who), .int (nI n), .int (nI (lgC p T n who k)), .int (nI k), .int (nI (plC p T who k j) + 1), .int (nI j + 1)] [] sw f Q := by
              intro h
              have := il (j + 1) (by omega) (by omega)
              rw [show plC p T who k (j + 1) = plC p T who k j + 1 from congrArg (_ + ·) (if_pos h), ← nI_1, ← nI_1] at this
              exact this
            refine bX11_longFor_34 (fun h => absurd h nle) (fun h => absurd h nle) (fun _ => vp_in_nI (by omega) (by omega)) (fun _ h => ?_) (fun _ _ => vj) (fun _ _ => vk) (fun _ h h1 => ?_) (fun _ _ _ => vj) (fun _ _ _ => vk) (fun _ h h1 h2 => ?_) (fun _ h h1 h2 h3 => ?_) (fun _ h h1 h2 h3 => ?_)
            · rw [eqj] at h; exact stay (fun z => h z.2.1)
            · rw [eqj] at h
              rw [ck, cj, ek, ej, nI_ltI (by omega) (by omega)] at h1
              exact inc ⟨by omega, h, Or.inl h1⟩
            · rw [ck, cj, ek, ej, nI_ltI (by omega) (by omega)] at h1
              rw [ck, cj, ek, ej, nI_eq (by omega) (by omega)] at h2
              exact stay (fun z => by rcases z.2.2 with z | z; exact h1 z; exact h2 z.1)
            · rw [ck, cj, ek, ej, nI_ltI (by omega) (by omega)] at h1
              rw [nI_leI (by omega) (by omega)] at h3
              exact stay (fun z => by rcases z.2.2 with z | z; exact h1 z; omega)
            · rw [eqj] at h
              rw [ck, cj, ek, ej, nI_eq (by omega) (by omega)] at h2
              rw [nI_leI (by omega) (by omega)] at h3
              exact inc ⟨by omega, h, Or.inr ⟨h2, by omega⟩⟩
        have := inner (n - (who + 1)) (who + 1) (by omega) (by omega)
        rw [plC_low hpj (who + 1) (Nat.le_refl _) (by omega)] at this
        exact this
      · rw [eq] at h
        rw [nI_1]
        have := ih (k + 1) v5 v6 (by omega) (by omega)
        rw [show lgC p T n who (k + 1) = lgC p T n who k from if_neg (fun z => h z.2)] at this
        exact this
  have := outer (n - (who + 1)) (who + 1) .null .null (by omega) (by omega)
  rw [lgC_low _ (Nat.le_refl _)] at this
  refine bX11_longFor_0 ?_
  rw [nI_1]
  exact this
/-! who is rung first -/
def bsC (p T : Nat → Nat) : Nat → Nat
  | 0 => 0
  | k + 1 => if 1 ≤ k ∧ p k = 0 ∧ (bsC p T k = 0 ∨ T (bsC p T k) < T k) then k else bsC p T k
theorem bsC_inv (p T : Nat → Nat) : ∀ k, (bsC p T k = 0 → ∀ j, 1 ≤ j → j < k → p j ≠ 0) ∧ (bsC p T k ≠ 0 → bsC p T k < k ∧ p (bsC p T k) = 0 ∧ ∀ j, 1 ≤ j → j < k → p j = 0 → T j ≤ T (bsC p T k) ∧ (T j = T (bsC p T k) → bsC p T k ≤ j)) := by
  intro k
  induction k with
  | zero => exact ⟨fun _ j _ h => absurd h (by omega), fun h => absurd rfl h⟩
  | succ k ih =>
    by_cases y : 1 ≤ k ∧ p k = 0 ∧ (bsC p T k = 0 ∨ T (bsC p T k) < T k)
    · have e : bsC p T (k + 1) = k := if_pos y
      rw [e]
      refine ⟨fun h => by omega, fun _ => ⟨by omega, y.2.1, fun j j1 j2 j3 => ?_⟩⟩
      by_cases z : j = k
      · subst z; exact ⟨Nat.le_refl _, fun _ => Nat.le_refl _⟩
      · rcases y.2.2 with q | q
        · exact absurd j3 (ih.1 q j j1 (by omega))
        · by_cases b0 : bsC p T k = 0
          · exact absurd j3 (ih.1 b0 j j1 (by omega))
          · have := (ih.2 b0).2.2 j j1 (by omega) j3
            exact ⟨by omega, fun h => by omega⟩
    · have e : bsC p T (k + 1) = bsC p T k := if_neg y
      rw [e]
      refine ⟨fun h j j1 j2 => ?_, fun h => ?_⟩
      · by_cases z : j = k
        · subst z; exact fun h0 => y ⟨j1, h0, Or.inl h⟩
        · exact ih.1 h j j1 (by omega)
      · obtain ⟨q1, q2, q3⟩ := ih.2 h
        refine ⟨by omega, q2, fun j j1 j2 j3 => ?_⟩
        by_cases z : j = k
        · subst z
          have : ¬ T (bsC p T j) < T j := fun h0 => y ⟨j1, j3, Or.inr h0⟩
          exact ⟨by omega, fun _ => by omega⟩
        · exact q3 j j1 (by omega) j3
theorem plC_one {p T : Nat → Nat} {who i : Nat} : ∀ j, plC p T who i j = 1 ↔ ∀ k, k < j → ¬ ahd p T who i k := by
  intro j
  have ge : ∀ j, 1 ≤ plC p T who i j := by
    intro j
    induction j with
    | zero => exact Nat.le_refl _
    | succ j ih => show 1 ≤ plC p T who i j + _; omega
  induction j with
  | zero => exact ⟨fun _ k h => absurd h (by omega), fun _ => rfl⟩
  | succ j ih =>
    have g := ge j
    constructor
    · intro h k hk
      have h' : plC p T who i j + (if ahd p T who i j then 1 else 0) = 1 := h
      by_cases y : ahd p T who i j
      · rw [if_pos y] at h'; omega
      · rw [if_neg y] at h'
        by_cases z : k = j
        · subst z; exact y
        · exact ih.mp (by omega) k (by omega)
    · intro h
      show plC p T who i j + (if ahd p T who i j then 1 else 0) = 1
      rw [if_neg (h j (by omega)), ih.mpr (fun k hk => h k (by omega))]
theorem bsC_turn {p T : Nat → Nat} {n : Nat} (hn : 2 ≤ n) (h1 : p 1 = 0) : bsC p T n ≠ 0 ∧ bsC p T n < n ∧ p (bsC p T n) = 0 ∧ plC p T 0 (bsC p T n) n = 1 ∧ ∀ i, 1 ≤ i → i < n → p i = 0 → plC p T 0 i n = 1 → i = bsC p T n := by
  have iv := bsC_inv p T n
  have ne : bsC p T n ≠ 0 := fun h => absurd h1 (iv.1 h 1 (by omega) (by omega))
  obtain ⟨q1, q2, q3⟩ := iv.2 ne
  refine ⟨ne, q1, q2, (plC_one n).mpr (fun k hk z => ?_), fun i i1 i2 i3 h => ?_⟩
  · have := q3 k z.1 hk z.2.1
    rcases z.2.2 with w | w
    · omega
    · have := this.2 w.1; omega
  · have a := (plC_one n).mp h (bsC p T n) q1
    have b := q3 i i1 i2 i3
    rcases Nat.lt_trichotomy (T i) (T (bsC p T n)) with w | w | w
    · exact absurd ⟨by omega, q2, Or.inl w⟩ a
    · have := b.2 w
      rcases Nat.lt_or_ge (bsC p T n) i with u | u
      · exact absurd ⟨by omega, q2, Or.inr ⟨w.symm, u⟩⟩ a
      · omega
    · omega
theorem le2_rng {x : Int32} (h : 2 ≤ x ∧ x ≤ 16) : ∃ i : Nat, 2 ≤ i ∧ i ≤ 16 ∧ x = nI i := by
  have a := Int32.le_iff_toInt_le.mp h.1
  have e2 : (2 : Int32).toInt = 2 := by decide
  obtain ⟨i, hi, rfl⟩ := nI_of2 (n := 16) (M := 16) (by decide) (fun hn => by
    have := Int32.lt_iff_toInt_lt.mp hn
    have e0 : (0 : Int32).toInt = 0 := by decide
    omega) h.2
  rw [nI_toInt (by omega), e2] at a
  exact ⟨i, by omega, hi, rfl⟩
theorem m1_narrow : (-1 : Int32).toInt8.toInt32.toInt8.toInt32 = (-1 : Int32).toInt8.toInt32 := by decide
theorem op_told (G : GC) : OP22 G RR := by
  intro a1 a2 sw f hR
  obtain ⟨h1, h2, h3, h4, h5, h6, h7⟩ := id hR
  by_cases c1 : 2 ≤ a1 ∧ a1 ≤ 16
  rotate_left
  · exact bX10_told_0 (d := 996) (fun _ => ⟨_, rfl, bX11_told_0 (d := 997) (fun _ => ⟨rfl, hR⟩) (fun h => absurd h c1) (fun h => absurd h c1) (fun h => absurd h c1)⟩) (fun h => absurd h c1) (fun h => absurd h c1)
  by_cases c2 : 0 ≤ a2 ∧ a2 ≤ 1
  rotate_left
  · exact bX10_told_0 (d := 996) (fun h => absurd c1 h) (fun _ _ => ⟨_, rfl, bX11_told_0 (d := 997) (fun h => absurd c1 h) (fun _ _ => ⟨rfl, hR⟩) (fun _ h => absurd h c2) (fun _ h => absurd h c2)⟩) (fun _ h => absurd h c2)
  obtain ⟨n, hn1, hn, rfl⟩ := le2_rng c1
  refine bX10_told_0 (d := 996) (fun h => absurd c1 h) (fun _ h => absurd c2 h) (fun _ _ => ?_)
  refine sp_take (by omega) h1 (fun hle g hs ht ho hpl => ?_) (fun hle => ?_)
  rotate_left
  · refine bX10_told_27 (d := 996) (fun h => absurd rfl h) (fun _ => ⟨_, rfl, ?_⟩)
    have hle2 : ¬ nI n ≤ f 82 10 := by rw [h1.2.1]; exact hle
    exact bX11_told_0 (d := 997) (fun h => absurd c1 h) (fun _ h => absurd c2 h) (fun _ _ h => absurd h hle2) (fun _ _ _ => ⟨rfl, hR⟩)
  refine bX10_told_27 (d := 996) (fun _ => ?_) (fun h => absurd h (by decide))
  have g90 : g 90 = f 90 := ho 90 (by omega)
  have hle3 : ∀ u : FF, OS g u → nI n ≤ u 82 10 := fun u os => by rw [os 82 (by omega), ho 82 (by omega), h1.2.1]; exact hle
  -- the tellers are read
  have read : ∀ (k i : Nat) (u : FF), 1 ≤ i → i + k = n → OS g u → (∀ j, 1 ≤ j → j < i → u 15 j = nI (byt f j) ∧ byt f j < j) → XP G mX6_readTellers 998 9 [.ref 14, .int (nI n), .int (nI i)] [] sw u (fun v' sw' f' => XP G mX10_told 999 40 [.ref 0, .int (nI n), .int a2] (retst v' []) sw' f' (fun v sw1 f1 => ∃ r : Int32, v = some (.int r) ∧ XP G mX11_told 999 0 [.ref 82, .int (nI n), .int a2, .null, .null] [] sw1 f1 (fun v2 sw2 f2 => v2 = some (.int r) ∧ RR sw2 f2))) := by
    intro k
    induction k with
    | zero =>
      intro i u hi1 hi os hr
      have z : i = n := by omega
      subst z
      have hle9 : nI i ≤ nI i := nI_le (Nat.le_refl _) (by omega)
      refine bX6_readTellers_9 (d := 997) (fun _ => ?_) (fun h => absurd hle9 h) (fun h => absurd hle9 h) (fun h => absurd hle9 h) (fun h => absurd hle9 h)
      have hpj : ∀ j, 1 ≤ j → j < i → byt f j < j := fun j j1 j2 => (hr j j1 j2).2
      have hp15 : ∀ j, 1 ≤ j → j < i → u 15 j = nI (byt f j) ∧ byt f j < 256 := fun j j1 j2 => ⟨(hr j j1 j2).1, byt_lt f j⟩
      have p1 : byt f 1 = 0 := by have := hpj 1 (by omega) (by omega); omega
      -- the reference reckons the same
      have refL : ∀ (w : FF) (r : Int32), OS g w → (a2 = 0 → r = nI (tkA (byt f) i i 0)) → (¬ a2 = 0 → r = nI (bsC (byt f) (tkA (byt f) i i) i)) → XP G mX11_told 999 0 [.ref 82, .int (nI i), .int a2, .null, .null] [] sw w (fun v2 sw2 f2 => v2 = some (.int r) ∧ RR sw2 f2) := by
        intro w r os2 r0 r1
        refine bX11_told_0 (d := 997) (fun h => absurd c1 h) (fun _ h => absurd c2 h) (fun _ _ _ => ?_) (fun _ _ h => absurd (hle3 w os2) h)
        have e90 : upd2 w 82 10 0 90 = f 90 := by rw [upd2_ne _ _ _ (by omega), os2 90 (by omega), g90]
        have lo1 : ∀ (l q : Nat), 1 ≤ q → q + l = i → XP G mX11_told 999 36 [.ref 82, .int (nI i), .int a2, .int (nI q), .null] [] sw (upd2 w 82 10 0) (fun v2 sw2 f2 => v2 = some (.int r) ∧ RR sw2 f2) := by
          intro l
          induction l with
          | zero =>
            intro q hq1 hq
            have z : q = i := by omega
            subst z
            have hle9 : nI q ≤ nI q := nI_le (Nat.le_refl _) (by omega)
            refine bX11_told_36 (d := 997) (fun _ => ?_) (fun h => absurd hle9 h) (fun h => absurd hle9 h) (fun h => absurd hle9 h)
            have o90 : ∀ (x : FF), x 90 = upd2 (upd2 w 82 10 0) 90 0 ((-1 : Int32).toInt8.toInt32) 90 → ∀ j, 1 ≤ j → j < q → oct x (nI j) = nI (byt f j) ∧ byt f j < 256 := fun x hx j j1 j2 => by
              refine ⟨?_, byt_lt f j⟩
              unfold oct
              rw [nI_clamp (by omega), hx, upd2_self, pk_un (by omega), e90, byt_eq]
            have fin : ∀ (x : FF), (∀ c, c ≠ 110 → x c = upd2 (upd2 w 82 10 0) 90 0 ((-1 : Int32).toInt8.toInt32) c) → RR sw x := fun x hx => by
              refine RR_sums hR ho ht.2.2.1 os2 (fun c c1 c2 => by rw [hx c (by omega), upd2_ne _ _ _ c2]) (fun j => ?_)
              rw [hx 90 (by omega), upd2_self]
              by_cases y : j = 0
              · subst y; rw [pk_us]; exact m1_narrow
              · rw [pk_un y, e90]; exact h1.2.2.2 j
            have lo2 : ∀ (l m : Nat) (x : FF), m + l = q → (∀ c, c ≠ 110 → x c = upd2 (upd2 w 82 10 0) 90 0 ((-1 : Int32).toInt8.toInt32) c) → (∀ j, q - m ≤ j → j < q → x 110 j = nI (tkA (byt f) q m j)) → XP G mX11_told 999 70 [.ref 82, .int (nI q), .int a2, .int (nI (q - m) - 1), .null] [] sw x (fun v2 sw2 f2 => v2 = some (.int r) ∧ RR sw2 f2) := by
              intro l
              induction l with
              | zero =>
                intro m x hm hx hr2
                have z : m = q := by omega
                subst z
                have e : nI (m - m) - 1 = -1 := by rw [Nat.sub_self]; decide
                rw [e]
                have rr := fin x hx
                have xT : ∀ j, j < m → x 110 j = nI (tkA (byt f) m m j) := fun j hj => hr2 j (by omega) hj
                have bT : ∀ j, tkA (byt f) m m j ≤ 272 := tkA_lt hn (Nat.le_refl _)
                refine bX11_told_70 (d := 997) (fun _ h => ?_) (fun _ h => ⟨by rw [xT 0 (by omega), r0 h], rr⟩) (fun h => absurd (by decide) h)
                have ox := o90 x (hx 90 (by omega))
                have lo3 : ∀ (l y : Nat), 1 ≤ y → y + l = m → XP G mX11_told 999 108 [.ref 82, .int (nI m), .int a2, .int (if bsC (byt f) (tkA (byt f) m m) y = 0 then -1 else nI (bsC (byt f) (tkA (byt f) m m) y)), .int (nI y)] [] sw x (fun v2 sw2 f2 => v2 = some (.int r) ∧ RR sw2 f2) := by
                  intro l
                  induction l with
                  | zero =>
                    intro y hy1 hy
                    have z : y = m := by omega
                    subst z
                    have hle9 : nI y ≤ nI y := nI_le (Nat.le_refl _) (by omega)
                    have bt := bsC_turn (T := tkA (byt f) y y) hn1 p1
                    exact bX11_told_108 (d := 997) (fun _ => ⟨by rw [r1 h, if_neg bt.1], rr⟩) (fun h => absurd hle9 h) (fun h => absurd hle9 h) (fun h => absurd hle9 h) (fun h => absurd hle9 h) (fun h => absurd hle9 h) (fun h => absurd hle9 h) (fun h => absurd hle9 h)
                  | succ l il =>
                    intro y hy1 hy
                    have nle : ¬ nI m ≤ nI y := nI_ge (by omega) (by omega)
                    have cy : (nI y).toNatClampNeg = y := nI_clamp (by omega)
                    have I := il (y + 1) (by omega) (by omega)
                    rw [← nI_1] at I
                    have oy := (ox y hy1 (by omega)).1
                    have by256 := byt_lt f y
                    have e0 : oct x (nI y) = 0 ↔ byt f y = 0 := by rw [oy]; exact nI_eq (b := 0) (by omega) (by omega)
                    have bs := bsC_inv (byt f) (tkA (byt f) m m) y
                    by_cases b0 : bsC (byt f) (tkA (byt f) m m) y = 0
                    · rw [if_pos b0]
                      refine bX11_told_108 (d := 997) (fun h => absurd h nle) (fun _ => vp_in_nI (by omega) (by omega)) (fun _ h => ?_) (fun _ h _ => ?_) (fun _ _ h => absurd rfl h) (fun _ _ h => absurd rfl h) (fun _ _ h => absurd rfl h) (fun _ _ h => absurd rfl h)
                      · rw [e0] at h
                        rw [show bsC (byt f) (tkA (byt f) m m) (y + 1) = bsC (byt f) (tkA (byt f) m m) y from if_neg (fun z => h z.2.1), if_pos b0] at I
                        exact I
                      · rw [e0] at h
                        rw [show bsC (byt f) (tkA (byt f) m m) (y + 1) = y from if_pos ⟨hy1, h, Or.inl b0⟩, if_neg (by omega)] at I
                        exact I
                    · have q := bs.2 b0
                      have cb : (nI (bsC (byt f) (tkA (byt f) m m) y)).toNatClampNeg = bsC (byt f) (tkA (byt f) m m) y := nI_clamp (by omega)
                      have t1 := bT y
                      have t2 := bT (bsC (byt f) (tkA (byt f) m m) y)
                      rw [if_neg b0]
                      refine bX11_told_108 (d := 997) (fun h => absurd h nle) (fun _ => vp_in_nI (by omega) (by omega)) (fun _ h => ?_) (fun _ _ h => ?_) (fun _ _ _ => vp_in_nI (by omega) (by omega)) (fun _ _ _ => vp_in_nI (by omega) (by omega)) (fun _ h _ h9 => ?_) (fun _ h _ h9 => ?_)
                      · rw [e0] at h
                        rw [show bsC (byt f) (tkA (byt f) m m) (y + 1) = bsC (byt f) (tkA (byt f) m m) y from if_neg (fun z => h z.2.1), if_neg b0] at I
                        exact I
                      · exfalso
                        have z2 := congrArg Int32.toInt h
                        rw [nI_toInt (by omega)] at z2
                        have : (-1 : Int32).toInt = -1 := rfl
                        omega
                      · rw [cy, cb, xT y (by omega), xT _ (by omega), nI_leI (by omega) (by omega)] at h9
                        rw [show bsC (byt f) (tkA (byt f) m m) (y + 1) = bsC (byt f) (tkA (byt f) m m) y from if_neg (fun z => by rcases z.2.2 with z | z; exact b0 z; omega), if_neg b0] at I
                        exact I
                      · rw [e0] at h
                        rw [cy, cb, xT y (by omega), xT _ (by omega), nI_leI (by omega) (by omega)] at h9
                        rw [show bsC (byt f) (tkA (byt f) m m) (y + 1) = y from if_pos ⟨hy1, h, Or.inr (by omega)⟩, if_neg (by omega)] at I
                        exact I
                have := lo3 (m - 1) 1 (by omega) (by omega)
                rw [if_pos (show bsC (byt f) (tkA (byt f) m m) 1 = 0 from if_neg (fun z => absurd z.1 (by decide)))] at this
                exact this
              | succ l il =>
                intro m x hm hx hr2
                have e : nI (q - m) - 1 = nI (q - 1 - m) := by rw [n_1, pk_sub (by omega), show q - m - 1 = q - 1 - m by omega]
                rw [e]
                refine bX11_told_70 (d := 997) (fun h => absurd h (nI_pos (by omega))) (fun h => absurd h (nI_pos (by omega))) (fun _ => ?_)
                refine sp_longFor (d := 997) (p := byt f) (T := tkA (byt f) q m) hn (by omega) hpj (o90 x (hx 90 (by omega))) (fun j j1 j2 => hr2 j (by omega) j2) (tkA_lt hn (by omega)) ?_
                refine bX11_told_85 (d := 997) (vp_in_nI (by omega) (by omega)) ?_
                rw [nI_clamp (by omega)]
                have := il (m + 1) (upd2 x 110 (q - 1 - m) (nI (lgC (byt f) (tkA (byt f) q m) q (q - 1 - m) q))) (by omega) (fun c hc => by rw [upd2_ne _ _ _ hc]; exact hx c hc) (fun j q1 q2 => ?_)
                · rw [show q - (m + 1) = q - 1 - m by omega, Int32.sub_eq_add_neg] at this
                  exact this
                · rw [upd2_self]
                  show _ = nI (if j = q - 1 - m then lgC (byt f) (tkA (byt f) q m) q (q - 1 - m) q else tkA (byt f) q m j)
                  by_cases y : j = q - 1 - m
                  · rw [if_pos y, y, pk_us]
                  · rw [if_neg y, pk_un y]; exact hr2 j (by omega) q2
            exact lo2 q 0 _ (by omega) (fun c _ => rfl) (fun j q1 q2 => by omega)
          | succ l il =>
            intro q hq1 hq
            have nle : ¬ nI i ≤ nI q := nI_ge (by omega) (by omega)
            have oq : oct (upd2 w 82 10 0) (nI q) = nI (byt f q) := by rw [oct_byt (by omega), byt_cg e90]
            have bq := hpj q hq1 (by omega)
            refine bX11_told_36 (d := 997) (fun h => absurd h nle) (fun _ => vp_in_nI (by omega) (by omega)) (fun _ _ => ?_) (fun _ h => ?_)
            · rw [nI_1]; exact il (q + 1) (by omega) (by omega)
            · rw [oq] at h; exact absurd (nI_lt bq (by omega)) h
        exact lo1 (i - 1) 1 (by omega) (by omega)
      refine bX10_told_40 (d := 996) (fun _ hz => ?_) (fun _ hz => ?_) (fun h => absurd h (by decide))
      · refine bX6_firstRung_0 (d := 996) (sp_soonest (d := 996) (by omega) hn hpj hp15 (fun w wo wT => ?_))
        refine bX6_firstRung_5 (d := 996) ?_
        have osw : OS g w := os.tr (fun c hc => wo c (by omega))
        have bs := bsC_turn (T := tkA (byt f) i i) hn1 p1
        have w15 : ∀ j, 1 ≤ j → j < i → w 15 j = nI (byt f j) ∧ byt f j < 256 := fun j j1 j2 => by rw [wo 15 (by omega)]; exact hp15 j j1 j2
        have loop : ∀ (l q : Nat), 1 ≤ q → q + l = bsC (byt f) (tkA (byt f) i i) i → XP G mX6_firstRung 998 8 [.ref 14, .int (nI i), .int (nI q)] [] sw w (fun v' sw' f' => XP G mX10_told 999 69 [.ref 0, .int (nI i), .int a2] (retst v' []) sw' f' (fun v sw1 f1 => ∃ r : Int32, v = some (.int r) ∧ XP G mX11_told 999 0 [.ref 82, .int (nI i), .int a2, .null, .null] [] sw1 f1 (fun v2 sw2 f2 => v2 = some (.int r) ∧ RR sw2 f2))) := by
          intro l
          induction l with
          | zero =>
            intro q hq1 hq
            have nle : ¬ nI i ≤ nI q := nI_ge (by omega) (by omega)
            have cq : (nI q).toNatClampNeg = q := nI_clamp (by omega)
            have pq : byt f q = 0 := by rw [show q = bsC (byt f) (tkA (byt f) i i) i by omega]; exact bs.2.2.1
            refine bX6_firstRung_8 (d := 996) (fun h => absurd h nle) (fun _ => vp_in_nI (by omega) (by omega)) (fun _ h => ?_) (fun _ h => ?_)
            · rw [cq, (w15 q hq1 (by omega)).1, pq] at h; exact absurd rfl h
            · refine sp_turnOf (p := byt f) (T := tkA (byt f) i i) (who := 0) hn hq1 (by omega) pq w15 (fun j j1 j2 _ => wT j j2) (tkA_lt hn (Nat.le_refl _)) ?_
              refine bX6_firstRung_28 (d := 996) (fun h9 => ?_) (fun _ => bX10_told_69 ⟨_, rfl, refL w _ osw (fun h => absurd h hz) (fun _ => by rw [show q = bsC (byt f) (tkA (byt f) i i) i by omega])⟩)
              rw [show q = bsC (byt f) (tkA (byt f) i i) i by omega, bs.2.2.2.1] at h9
              exact absurd rfl h9
          | succ l il =>
            intro q hq1 hq
            have nle : ¬ nI i ≤ nI q := nI_ge (by omega) (by omega)
            have cq : (nI q).toNatClampNeg = q := nI_clamp (by omega)
            refine bX6_firstRung_8 (d := 996) (fun h => absurd h nle) (fun _ => vp_in_nI (by omega) (by omega)) (fun _ h => ?_) (fun _ h => ?_)
            · rw [nI_1]; exact il (q + 1) (by omega) (by omega)
            · have bq := byt_lt f q
              have pq : byt f q = 0 := by
                rw [cq, (w15 q hq1 (by omega)).1] at h
                exact (nI_eq (b := 0) (by omega) (by omega)).mp h
              refine sp_turnOf (p := byt f) (T := tkA (byt f) i i) (who := 0) hn hq1 (by omega) pq w15 (fun j j1 j2 _ => wT j j2) (tkA_lt hn (Nat.le_refl _)) ?_
              refine bX6_firstRung_28 (d := 996) (fun _ => ?_) (fun h9 => ?_)
              · rw [nI_1]; exact il (q + 1) (by omega) (by omega)
              · have b1 := plC_le (byt f) (tkA (byt f) i i) 0 q i
                have := bs.2.2.2.2 q hq1 (by omega) pq ((nI_eq (b := 1) (by omega) (by omega)).mp h9)
                omega
        exact loop (bsC (byt f) (tkA (byt f) i i) i - 1) 1 (by omega) (by have := bs.1; omega)
      · refine sp_soonest (d := 997) (by omega) hn hpj hp15 (fun w wo wT => ?_)
        exact bX10_told_58 ⟨_, rfl, refL w _ (os.tr (fun c hc => wo c (by omega))) (fun _ => rfl) (fun h => absurd hz h)⟩
    | succ k ih =>
      intro i u hi1 hi os hr
      have nle : ¬ nI n ≤ nI i := nI_ge (by omega) (by omega)
      have vi : vp_in (nI i) 16 := vp_in_nI (by omega) (by omega)
      have ci : (nI i).toNatClampNeg = i := nI_clamp (by omega)
      have ta : tAt u (nI i) = nI (byt f i) := by rw [tAt_byt (os.TK ht) (by omega), os.byt, byt_cg g90]
      have bi := byt_lt f i
      have rd : ∀ j, 1 ≤ j → j < i → upd2 u 15 i (nI (byt f i)) 15 j = nI (byt f j) := fun j j1 j2 => by rw [upd2_self, pk_un (by omega)]; exact (hr j j1 j2).1
      refine bX6_readTellers_9 (d := 997) (fun h => absurd h nle) (fun _ => vi) (fun _ => vi) (fun _ h => ?_) (fun _ h => ?_)
      · rw [ci, ta, upd2_self, pk_us, nI_ltI (by omega) (by omega)] at h
        rw [ci, ta, nI_1]
        refine ih (i + 1) _ (by omega) (by omega) (os.up (by omega)) (fun j j1 j2 => ?_)
        by_cases y : j = i
        · subst y; exact ⟨by rw [upd2_self, pk_us], h⟩
        · exact ⟨rd j j1 (by omega), (hr j j1 (by omega)).2⟩
      · rw [ci, ta, upd2_self, pk_us, nI_ltI (by omega) (by omega)] at h
        rw [ci, ta]
        refine bX10_told_40 (d := 996) (fun h => absurd rfl h) (fun h => absurd rfl h) (fun _ => ⟨_, rfl, ?_⟩)
        have os2 : OS g (upd2 u 15 i (nI (byt f i))) := os.up (by omega)
        refine bX11_told_0 (d := 997) (fun h => absurd c1 h) (fun _ h => absurd c2 h) (fun _ _ _ => ?_) (fun _ _ h => absurd (hle3 _ os2) h)
        have e90 : upd2 (upd2 u 15 i (nI (byt f i))) 82 10 0 90 = f 90 := by rw [upd2_ne _ _ _ (by omega), os2 90 (by omega), g90]
        have lo1 : ∀ (l q : Nat), 1 ≤ q → q + l = i → XP G mX11_told 999 36 [.ref 82, .int (nI n), .int a2, .int (nI q), .null] [] sw (upd2 (upd2 u 15 i (nI (byt f i))) 82 10 0) (fun v2 sw2 f2 => v2 = some (.int (-2)) ∧ RR sw2 f2) := by
          intro l
          induction l with
          | zero =>
            intro q hq1 hq
            have z : q = i := by omega
            subst z
            have oq : oct (upd2 (upd2 u 15 q (nI (byt f q))) 82 10 0) (nI q) = nI (byt f q) := by rw [oct_byt (by omega), byt_cg e90]
            refine bX11_told_36 (d := 997) (fun h => absurd h nle) (fun _ => vp_in_nI (by omega) (by omega)) (fun _ h9 => ?_) (fun _ _ => ⟨rfl, RR_sumsM hR ho ht.2.2.1 os2 OM.rf⟩)
            rw [oq, nI_ltI (by omega) (by omega)] at h9
            exact absurd h9 h
          | succ l il =>
            intro q hq1 hq
            have oq : oct (upd2 (upd2 u 15 i (nI (byt f i))) 82 10 0) (nI q) = nI (byt f q) := by rw [oct_byt (by omega), byt_cg e90]
            have bq := (hr q hq1 (by omega)).2
            refine bX11_told_36 (d := 997) (fun h => absurd h (nI_ge (by omega) (by omega))) (fun _ => vp_in_nI (by omega) (by omega)) (fun _ _ => ?_) (fun _ h9 => ?_)
            · rw [nI_1]; exact il (q + 1) (by omega) (by omega)
            · rw [oq] at h9; exact absurd (nI_lt bq (by omega)) h9
        exact lo1 (i - 1) 1 (by omega) (by omega)
  exact bX6_readTellers_0 (d := 997) (read (n - 1) 1 _ (by omega) (by omega) (OS.rf.up (by omega)) (fun j j1 j2 => absurd j2 (by omega)))
