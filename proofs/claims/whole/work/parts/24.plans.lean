/-! ===== codes: which begins with which ===== -/
/-- the class: what row i holds begins with what row j holds -/
def prefC (f : FF) (i j : Nat) : Prop := f 13 j ≠ 0 ∧ f 13 j ≤ f 13 i ∧ ∀ k : Nat, (k : Int) < (f 13 j).toInt → f 12 (12 * i + k) = f 12 (12 * j + k)
/-- the reference: the code of a begins with that of b -/
def prefM (f : FF) (a b : Nat) : Prop := f 113 b ≠ 0 ∧ f 113 b ≤ f 113 a ∧ ∀ k : Nat, (k : Int) < (f 113 b).toInt → f 112 (6 * a + k) = f 112 (6 * b + k)
theorem add48 {a b : Int32} : a + 48 = b + 48 ↔ a = b := by
  constructor
  · intro h
    have := congrArg (fun z => z - 48) h
    simpa [Int32.add_sub_cancel] using this
  · intro h; rw [h]
theorem pref_CM {f : FF} (h : RP f) {a b : Nat} (ha : a < 8) (hb : b < 8) : prefC f a b ↔ prefM f a b := by
  obtain ⟨a1, a2, a3⟩ := h a ha
  obtain ⟨b1, b2, b3⟩ := h b hb
  unfold prefC prefM
  rw [a1, b1]
  constructor
  · rintro ⟨q1, q2, q3⟩
    refine ⟨q1, q2, fun k hk => ?_⟩
    have hk2 : (k : Int) < (f 13 a).toInt := Int.lt_of_lt_of_le hk (Int32.le_iff_toInt_le.mp q2)
    rw [(a3 k hk2).1, (b3 k hk).1, q3 k hk]
  · rintro ⟨q1, q2, q3⟩
    refine ⟨q1, q2, fun k hk => ?_⟩
    have hk2 : (k : Int) < (f 13 a).toInt := Int.lt_of_lt_of_le hk (Int32.le_iff_toInt_le.mp q2)
    have := q3 k hk
    rw [(a3 k hk2).1, (b3 k hk).1] at this
    exact add48.mp this
theorem nIle {a b : Nat} (ha : a < 2 ^ 31) (hb : b < 2 ^ 31) : nI a ≤ nI b ↔ a ≤ b := nI_leI ha hb
theorem sp_begins {G : GC} {d : Nat} {sw : Bool} {f : FF} {Q : QQ} {i j : Nat} (hi : i < 9) (hj : j < 9) (hl : isN (f 13 j) 12) (ht : prefC f i j → Q (some (.int 1)) sw f) (hf : ¬ prefC f i j → Q (some (.int 0)) sw f) : XP G mX4_begins d 0 [.ref 11, .int (nI i), .int (nI j), .null] [] sw f Q := by
  obtain ⟨L, hL, eL⟩ := isN_nI hl (by omega)
  have vi : vp_in (nI i) 9 := vp_in_nI hi (by omega)
  have vj : vp_in (nI j) 9 := vp_in_nI hj (by omega)
  have ci : (nI i).toNatClampNeg = i := nI_clamp (by omega)
  have cj : (nI j).toNatClampNeg = j := nI_clamp (by omega)
  have tL : (f 13 j).toInt = L := by rw [eL, nI_toInt (by omega)]
  have loop : f 13 j ≠ 0 → f 13 j ≤ f 13 i → ∀ (n k : Nat), k + n = L → (∀ m, m < k → f 12 (12 * i + m) = f 12 (12 * j + m)) → XP G mX4_begins d 28 [.ref 11, .int (nI i), .int (nI j), .int (nI k)] [] sw f Q := by
    intro g1 g2 n
    induction n with
    | zero =>
      intro k hk he
      refine bX4_begins_28 vj (fun _ => ht ⟨g1, g2, fun m hm => he m (by omega)⟩) (fun h => ?_) (fun h => ?_) (fun h => ?_) (fun h => ?_) <;>
      · rw [cj, eL] at h
        exact absurd (nI_le (by omega) (by omega)) h
    | succ n ih =>
      intro k hk he
      have e1 : (nI i * 12 + nI k) = nI (12 * i + k) := by rw [n_12, pk_mul, nI_add, show i * 12 + k = 12 * i + k by omega]
      have e2 : (nI j * 12 + nI k) = nI (12 * j + k) := by rw [n_12, pk_mul, nI_add, show j * 12 + k = 12 * j + k by omega]
      have v1 : vp_in (nI i * 12 + nI k) 108 := by rw [e1]; exact vp_in_nI (by omega) (by omega)
      have v2 : vp_in (nI j * 12 + nI k) 108 := by rw [e2]; exact vp_in_nI (by omega) (by omega)
      refine bX4_begins_28 vj (fun h => ?_) (fun _ => v1) (fun _ => v2) (fun _ h => ?_) (fun _ h => ?_)
      · rw [cj, eL] at h
        exact absurd h (nI_ge (by omega) (by omega))
      · rw [e1, e2, nI_clamp (by omega), nI_clamp (by omega)] at h
        rw [nI_1]
        refine ih (k + 1) (by omega) (fun m hm => ?_)
        by_cases e : m = k
        · subst e; exact h
        · exact he m (by omega)
      · rw [e1, e2, nI_clamp (by omega), nI_clamp (by omega)] at h
        exact hf (fun z => h (z.2.2 k (by omega)))
  refine bX4_begins_0 vj (fun h => ?_) (fun _ => vj) (fun _ => vi) (fun h1 h2 => ?_) (fun h1 h2 => ?_)
  · rw [cj] at h
    exact hf (fun z => z.1 h)
  · rw [cj] at h1
    rw [ci, cj] at h2
    exact loop h1 h2 L 0 (by omega) (fun m hm => absurd hm (by omega))
  · rw [ci, cj] at h2
    exact hf (fun z => h2 z.2.1)
theorem sp_isWithin {G : GC} {d : Nat} {sw : Bool} {f : FF} {Q : QQ} {e q : Nat} (he : e < 8) (hq : q < 8) (hl : isN (f 113 e) 6) (ht : prefM f q e → Q (some (.int 1)) sw f) (hf : ¬ prefM f q e → Q (some (.int 0)) sw f) : XP G mX11_isWithin d 0 [.ref 82, .int (nI e), .int (nI q), .null] [] sw f Q := by
  obtain ⟨L, hL, eL⟩ := isN_nI hl (by omega)
  have ve : vp_in (nI e) 8 := vp_in_nI he (by omega)
  have vq : vp_in (nI q) 8 := vp_in_nI hq (by omega)
  have ce : (nI e).toNatClampNeg = e := nI_clamp (by omega)
  have cq : (nI q).toNatClampNeg = q := nI_clamp (by omega)
  have tL : (f 113 e).toInt = L := by rw [eL, nI_toInt (by omega)]
  have loop : f 113 e ≠ 0 → f 113 e ≤ f 113 q → ∀ (n k : Nat), k + n = L → (∀ m, m < k → f 112 (6 * e + m) = f 112 (6 * q + m)) → XP G mX11_isWithin d 28 [.ref 82, .int (nI e), .int (nI q), .int (nI k)] [] sw f Q := by
    intro g1 g2 n
    induction n with
    | zero =>
      intro k hk hh
      refine bX11_isWithin_28 ve (fun _ => ht ⟨g1, g2, fun m hm => (hh m (by omega)).symm⟩) (fun h => ?_) (fun h => ?_) (fun h => ?_) (fun h => ?_) <;>
      · rw [ce, eL] at h
        exact absurd (nI_le (by omega) (by omega)) h
    | succ n ih =>
      intro k hk hh
      have e1 : (6 * nI e + nI k) = nI (6 * e + k) := by rw [n_6, pk_mul, nI_add]
      have e2 : (6 * nI q + nI k) = nI (6 * q + k) := by rw [n_6, pk_mul, nI_add]
      have v1 : vp_in (6 * nI e + nI k) 48 := by rw [e1]; exact vp_in_nI (by omega) (by omega)
      have v2 : vp_in (6 * nI q + nI k) 48 := by rw [e2]; exact vp_in_nI (by omega) (by omega)
      refine bX11_isWithin_28 ve (fun h => ?_) (fun _ => v1) (fun _ => v2) (fun _ h => ?_) (fun _ h => ?_)
      · rw [ce, eL] at h
        exact absurd h (nI_ge (by omega) (by omega))
      · rw [e1, e2, nI_clamp (by omega), nI_clamp (by omega)] at h
        rw [nI_1]
        refine ih (k + 1) (by omega) (fun m hm => ?_)
        by_cases z : m = k
        · subst z; exact h
        · exact hh m (by omega)
      · rw [e1, e2, nI_clamp (by omega), nI_clamp (by omega)] at h
        exact hf (fun z => h (z.2.2 k (by omega)).symm)
  refine bX11_isWithin_0 ve (fun h => ?_) (fun _ => ve) (fun _ => vq) (fun h1 h2 => ?_) (fun h1 h2 => ?_)
  · rw [ce] at h
    exact hf (fun z => z.1 h)
  · rw [ce] at h1
    rw [ce, cq] at h2
    exact loop h1 h2 L 0 (by omega) (fun m hm => absurd hm (by omega))
  · rw [ce, cq] at h2
    exact hf (fun z => h2 z.2.1)
/-! ===== clear ===== -/
def clrC (f : FF) : Prop := ∀ e q, e < 8 → q < 8 → e ≠ q → ¬ prefC f e q
theorem sp_isClear {G : GC} {d : Nat} {sw : Bool} {f : FF} {Q : QQ} (hl : ∀ e, e < 8 → isN (f 13 e) 12) (ht : clrC f → Q (some (.int 1)) sw f) (hf : ¬ clrC f → Q (some (.int 0)) sw f) : XP G mX4_isClear (d + 1) 0 [.ref 11, .null, .null] [] sw f Q := by
  have inner : ∀ (e : Nat), e < 8 → ((∀ q, q < 8 → e ≠ q → ¬ prefC f e q) → ∀ v : Value, XP G mX4_isClear (d + 1) 2 [.ref 11, .int (nI (e + 1)), v] [] sw f Q) → ∀ (n q : Nat), q + n = 8 → (∀ m, m < q → e ≠ m → ¬ prefC f e m) → XP G mX4_isClear (d + 1) 10 [.ref 11, .int (nI e), .int (nI q)] [] sw f Q := by
    intro e he hk n
    induction n with
    | zero =>
      intro q hq hm
      have z : q = 8 := by omega
      subst z
      refine bX4_isClear_10 (fun _ => ?_) (fun h => absurd (by decide) h) (fun h => absurd (by decide) h)
      rw [nI_1]
      exact hk (fun m h1 h2 => hm m h1 h2) _
    | succ n ih =>
      intro q hq hm
      refine bX4_isClear_10 (fun h => absurd h (nI_ge (a := q) (b := 8) (by omega) (by omega))) (fun _ h => ?_) (fun _ h => ?_)
      · rw [nI_1]
        have z : e = q := (nI_eq (by omega) (by omega)).mp h
        refine ih (q + 1) (by omega) (fun m h1 h2 => ?_)
        by_cases y : m = q
        · exact absurd (z.trans y.symm) h2
        · exact hm m (by omega) h2
      · have z : e ≠ q := fun y => h (by rw [y])
        refine sp_begins (by omega) (by omega) (hl q (by omega)) (fun hp => ?_) (fun hp => ?_)
        · exact bX4_isClear_27 (fun h => absurd h (by decide)) (fun _ => hf (fun c => c e q he (by omega) z hp))
        · refine bX4_isClear_27 (fun _ => ?_) (fun h => absurd rfl h)
          rw [nI_1]
          refine ih (q + 1) (by omega) (fun m h1 h2 => ?_)
          by_cases y : m = q
          · subst y; exact hp
          · exact hm m (by omega) h2
  have outer : ∀ (n e : Nat), e + n = 8 → (∀ a b, a < e → b < 8 → a ≠ b → ¬ prefC f a b) → ∀ v : Value, XP G mX4_isClear (d + 1) 2 [.ref 11, .int (nI e), v] [] sw f Q := by
    intro n
    induction n with
    | zero =>
      intro e he hm v
      have z : e = 8 := by omega
      subst z
      exact bX4_isClear_2 (fun _ => ht (fun a b h1 h2 h3 => hm a b h1 h2 h3)) (fun h => absurd (by decide) h)
    | succ n ih =>
      intro e he hm v
      refine bX4_isClear_2 (fun h => absurd h (nI_ge (a := e) (b := 8) (by omega) (by omega))) (fun _ => ?_)
      refine inner e (by omega) (fun h w => ih (e + 1) (by omega) (fun a b h1 h2 h3 => ?_) w) 8 0 (by omega) (fun m h => absurd h (by omega))
      by_cases y : a = e
      · subst y; exact h b h2 h3
      · exact hm a b (by omega) h2 h3
  exact bX4_isClear_0 (outer 8 0 (by omega) (fun a b h => absurd h (by omega)) _)
def clrM (f : FF) : Prop := ∀ e q, e < 8 → q < 8 → e ≠ q → ¬ prefM f q e
theorem sp_clearM {G : GC} {d : Nat} {sw : Bool} {f : FF} {Q : QQ} (hl : ∀ e, e < 8 → isN (f 113 e) 6) (ht : clrM f → Q (some (.int 1)) sw f) (hf : ¬ clrM f → Q (some (.int 0)) sw f) : XP G mX11_clear (d + 1) 0 [.ref 82, .null, .null] [] sw f Q := by
  have inner : ∀ (e : Nat), e < 8 → ((∀ q, q < 8 → e ≠ q → ¬ prefM f q e) → ∀ v : Value, XP G mX11_clear (d + 1) 2 [.ref 82, .int (nI (e + 1)), v] [] sw f Q) → ∀ (n q : Nat), q + n = 8 → (∀ m, m < q → e ≠ m → ¬ prefM f m e) → XP G mX11_clear (d + 1) 10 [.ref 82, .int (nI e), .int (nI q)] [] sw f Q := by
    intro e he hk n
    induction n with
    | zero =>
      intro q hq hm
      have z : q = 8 := by omega
      subst z
      refine bX11_clear_10 (fun _ => ?_) (fun h => absurd (by decide) h) (fun h => absurd (by decide) h)
      rw [nI_1]
      exact hk (fun m h1 h2 => hm m h1 h2) _
    | succ n ih =>
      intro q hq hm
      refine bX11_clear_10 (fun h => absurd h (nI_ge (a := q) (b := 8) (by omega) (by omega))) (fun _ h => ?_) (fun _ h => ?_)
      · rw [nI_1]
        have z : e = q := (nI_eq (by omega) (by omega)).mp h
        refine ih (q + 1) (by omega) (fun m h1 h2 => ?_)
        by_cases y : m = q
        · exact absurd (z.trans y.symm) h2
        · exact hm m (by omega) h2
      · have z : e ≠ q := fun y => h (by rw [y])
        refine sp_isWithin (by omega) (by omega) (hl e (by omega)) (fun hp => ?_) (fun hp => ?_)
        · exact bX11_clear_27 (fun h => absurd h (by decide)) (fun _ => hf (fun c => c e q he (by omega) z hp))
        · refine bX11_clear_27 (fun _ => ?_) (fun h => absurd rfl h)
          rw [nI_1]
          refine ih (q + 1) (by omega) (fun m h1 h2 => ?_)
          by_cases y : m = q
          · subst y; exact hp
          · exact hm m (by omega) h2
  have outer : ∀ (n e : Nat), e + n = 8 → (∀ a b, a < e → b < 8 → a ≠ b → ¬ prefM f b a) → ∀ v : Value, XP G mX11_clear (d + 1) 2 [.ref 82, .int (nI e), v] [] sw f Q := by
    intro n
    induction n with
    | zero =>
      intro e he hm v
      have z : e = 8 := by omega
      subst z
      exact bX11_clear_2 (fun _ => ht (fun a b h1 h2 h3 => hm a b h1 h2 h3)) (fun h => absurd (by decide) h)
    | succ n ih =>
      intro e he hm v
      refine bX11_clear_2 (fun h => absurd h (nI_ge (a := e) (b := 8) (by omega) (by omega))) (fun _ => ?_)
      refine inner e (by omega) (fun h w => ih (e + 1) (by omega) (fun a b h1 h2 h3 => ?_) w) 8 0 (by omega) (fun m h => absurd h (by omega))
      by_cases y : a = e
      · subst y; exact h b h2 h3
      · exact hm a b (by omega) h2 h3
  exact bX11_clear_0 (outer 8 0 (by omega) (fun a b h => absurd h (by omega)) _)
theorem clr_CM {f : FF} (h : RP f) : clrC f ↔ clrM f := by
  constructor
  · intro c e q he hq hne hp
    exact c q e hq he (Ne.symm hne) ((pref_CM h hq he).mpr hp)
  · intro c e q he hq hne hp
    exact c q e hq he (Ne.symm hne) ((pref_CM h he hq).mp hp)
theorem isN_up {x : Int32} {a b : Nat} (h : isN x a) (hab : a ≤ b) : isN x b := ⟨h.1, by have := h.2; omega⟩
theorem RP.len {f : FF} (h : RP f) : ∀ e, e < 8 → isN (f 13 e) 12 := fun e he => isN_up (h e he).2.1 (by omega)
theorem RP.lenM {f : FF} (h : RP f) : ∀ e, e < 8 → isN (f 113 e) 6 := fun e he => by rw [(h e he).1]; exact (h e he).2.1
theorem op_clear (G : GC) : OP25 G RR := by
  intro sw f hR
  have hP := hR.2.2.2.1
  refine bX10_clear_0 (d := 997) (sp_isClear hP.len (fun hc => ?_) (fun hc => ?_))
  · refine bX10_clear_7 (fun h => absurd h (by decide)) (fun _ => ⟨1, rfl, ?_⟩)
    exact sp_clearM (d := 998) hP.lenM (fun _ => ⟨rfl, hR⟩) (fun h => absurd ((clr_CM hP).mp hc) h)
  · refine bX10_clear_7 (fun _ => ⟨0, rfl, ?_⟩) (fun h => absurd rfl h)
    exact sp_clearM (d := 998) hP.lenM (fun h => absurd ((clr_CM hP).mpr h) hc) (fun _ => ⟨rfl, hR⟩)
