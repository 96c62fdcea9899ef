/-! ===== what the relation reads (the tape apart); all else is scratch ===== -/
def relv (sw : Bool) (c j : Nat) : Prop := c = 4 ∨ c = 6 ∨ c = 86 ∨ (c = 82 ∧ (j = 4 ∨ j = 5 ∨ j = 19 ∨ j = 47)) ∨ (c = 32 ∧ (j = 3 ∨ j = 4)) ∨ (c = 12 ∧ j < 96) ∨ (c = 13 ∧ j < 8) ∨ c = 112 ∨ c = 113 ∨ (lwB sw ≤ c ∧ c ≤ lwB sw + 6) ∨ (97 ≤ c ∧ c ≤ 101) ∨ (43 ≤ c ∧ c ≤ 68) ∨ c = 83 ∨ c = 85 ∨ (c = 0 ∧ j = 10)
theorem lwB_or (sw : Bool) : lwB sw = 25 ∨ lwB sw = 36 := by cases sw; exact Or.inr rfl; exact Or.inl rfl
def SX (sw : Bool) (f g : FF) : Prop := ∀ c j, relv sw c j → g c j = f c j
theorem SX.rf {sw : Bool} {f : FF} : SX sw f f := fun _ _ _ => rfl
theorem SX.tr {sw : Bool} {f g h : FF} (a : SX sw f g) (b : SX sw g h) : SX sw f h := fun c j r => (b c j r).trans (a c j r)
theorem SX.up {sw : Bool} {f g : FF} {c j : Nat} {x : Int32} (a : SX sw f g) (hn : ¬ relv sw c j) : SX sw f (upd2 g c j x) := by
  intro c' j' r
  rw [← a c' j' r]
  by_cases hc : c' = c
  · subst hc
    rw [upd2_self]
    exact pk_un (fun e => hn (by rw [← e]; exact r))
  · rw [upd2_ne _ _ _ hc]
theorem RP.cg2 {f g : FF} (h : RP f) (h1 : ∀ k, k < 96 → g 12 k = f 12 k) (h2 : ∀ e, e < 8 → g 13 e = f 13 e) (h3 : g 112 = f 112) (h4 : g 113 = f 113) : RP g := by
  intro e he
  obtain ⟨a, b, c⟩ := h e he
  rw [h2 e he, h3, h4]
  refine ⟨a, b, fun j hj => ?_⟩
  have := b.2
  rw [h1 (12 * e + j) (by omega)]
  exact c j hj
theorem RR.ofSX {sw : Bool} {f g : FF} (h : RR sw f) (s : SX sw f g) (ht : RT g) : RR sw g := by
  obtain ⟨-, h2, h3, h4, h5, h6, h7⟩ := h
  have A : ∀ c, (∀ j, relv sw c j) → g c = f c := fun c hc => funext fun j => s c j (hc j)
  refine ⟨ht, h2.cg (A 4 (fun j => by unfold relv; omega)) (A 6 (fun j => by unfold relv; omega)) (A 86 (fun j => by unfold relv; omega)), h3.cg (s _ _ (by unfold relv; omega)) (s _ _ (by unfold relv; omega)) (s _ _ (by unfold relv; omega)) (s _ _ (by unfold relv; omega)),
    h4.cg2 (fun k hk => s _ _ (by unfold relv; omega)) (fun e he => s _ _ (by unfold relv; omega)) (A 112 (fun j => by unfold relv; omega)) (A 113 (fun j => by unfold relv; omega)),
    h5.cg (fun k hk => A _ (fun j => by unfold relv; omega)) (s _ _ (by unfold relv; omega)) (fun k q1 q2 => A k (fun j => by unfold relv; omega)),
    h6.cg (fun k hk => A _ (fun j => by unfold relv; omega)) (A 83 (fun j => by unfold relv; omega)), h7.cg (s _ _ (by unfold relv; omega)) (s _ _ (by unfold relv; omega)) (fun k hk => A _ (fun j => by unfold relv; omega)) (A 85 (fun j => by unfold relv; omega))⟩
/-- what was relevant for a part may be asked of the new heap -/
theorem SX.RP {sw : Bool} {f g : FF} (s : SX sw f g) (h : RP f) : RP g := h.cg2 (fun k hk => s _ _ (by unfold relv; omega)) (fun e he => s _ _ (by unfold relv; omega)) (funext fun j => s _ _ (by unfold relv; omega)) (funext fun j => s _ _ (by unfold relv; omega))
/-! ===== the tape is taken ===== -/
/-- what stands behind a take of n in the class: the n bytes, as the reference has them -/
def TK (f : FF) (n : Nat) : Prop := f 1 2 = nI n ∧ n ≤ 260 ∧ f 1 1 = 0 ∧ ∀ j, j < n → f 2 j = f 90 j &&& 255
theorem tAt_TK {f : FF} {n j : Nat} (h : TK f n) (hj : j < n) : tAt f (nI j) = f 2 j := by
  obtain ⟨h1, h2, -⟩ := h
  unfold tAt
  rw [h1, if_pos ⟨nI_pos' (by omega), nI_lt hj (by omega), nI_lt (a := j) (b := 260) (by omega) (by omega)⟩, nI_clamp (by omega)]
theorem tAt_end {f : FF} {n j : Nat} (h : TK f n) (hj : n ≤ j) (hj2 : j < 2 ^ 31) : tAt f (nI j) = -1 := by
  obtain ⟨h1, h2, -⟩ := h
  unfold tAt
  rw [h1, if_neg (fun z => absurd z.2.1 (nI_nlt hj hj2))]
theorem sp_take {G : GC} {d : Nat} {sw : Bool} {f : FF} {Q : QQ} {n : Nat} (hn : n ≤ 260) (hT : RT f) (hy : nI n ≤ f 1 1 → ∀ g, SX sw f g → TK g n → (∀ c, c ≠ 1 → g c = f c) → g 1 3 = 0 → Q (some (.int 1)) sw g) (hz : ¬ nI n ≤ f 1 1 → Q (some (.int 0)) sw f) : XP G mX8_take d 0 [.ref 1, .int (nI n)] [] sw f Q := by
  refine bX8_take_0 (fun h => ?_) hz
  have nr : ∀ j, ¬ relv sw 1 j := fun j => by have := lwB_or sw; unfold relv; omega
  refine hy h _ ((((SX.rf.up (nr _)).up (nr _)).up (nr _)).up (nr _)) ⟨rfl, hn, rfl, fun j hj => ?_⟩ (fun c hc => by rw [upd2_ne _ _ _ hc, upd2_ne _ _ _ hc, upd2_ne _ _ _ hc, upd2_ne _ _ _ hc]) rfl
  have : (j : Int) < (f 1 1).toInt := by
    have := Int32.le_iff_toInt_le.mp h
    rw [nI_toInt (by omega)] at this
    omega
  exact hT.2.2.1 j this
theorem RT_empty {f : FF} (h1 : f 1 1 = 0) (h2 : f 82 10 = 0) (h3 : ∀ j : Nat, (f 90 j).toInt8.toInt32 = f 90 j) : RT f := ⟨by rw [h1]; exact isN_0 _, by rw [h1, h2], fun j hj => by
  rw [h1] at hj
  have : (0 : Int32).toInt = 0 := rfl
  omega, h3⟩
/-! ===== freeCode ===== -/
/-- number v of k digits clashes with the code of e: the reference -/
def digR (v k i : Nat) : Nat := v / 10 ^ (k - 1 - i) % 10
def clash (f : FF) (v k e : Nat) : Prop := f 113 e ≠ 0 ∧ ∀ i : Nat, i < k → (i : Int) < (f 113 e).toInt → f 112 (6 * e + i) = nI (48 + digR v k i)
theorem sp_digitOf {G : GC} {d : Nat} {sw : Bool} {f : FF} {Q : QQ} {v k i : Nat} (hv : v < 1000) (hk : k ≤ 3) (hi : i < k) (hq : Q (some (.int (nI (48 + digR v k i)))) sw f) : XP G mX11_digitOf d 0 [.int (nI v), .int (nI k), .int (nI i), .null, .null] [] sw f Q := by
  have loop : ∀ (n j u : Nat), j = i + n → j < k → u = v / 10 ^ (k - 1 - j) → XP G mX11_digitOf d 7 [.int (nI v), .int (nI k), .int (nI i), .int (nI u), .int (nI j)] [] sw f Q := by
    intro n
    induction n with
    | zero =>
      intro j u hj hjk hu
      have e : j = i := by omega
      subst e
      have hu2 : u < 1000 := by
        have : v / 10 ^ (k - 1 - j) ≤ v := Nat.div_le_self _ _
        omega
      refine bX11_digitOf_7 (fun _ => ?_) (fun h => absurd (nI_le (Nat.le_refl _) (by omega)) h)
      rw [n_10, pk_rem (by omega) (by omega) (by omega), n_48, nI_add, hu]
      exact hq
    | succ n ih =>
      intro j u hj hjk hu
      have hu2 : u < 1000 := by
        have : v / 10 ^ (k - 1 - j) ≤ v := Nat.div_le_self _ _
        omega
      refine bX11_digitOf_7 (fun h => absurd h (nI_ge (by omega) (by omega))) (fun _ => ?_)
      have e1 : nI j + (-1) = nI (j - 1) := by rw [show j = (j - 1) + 1 by omega, pk_m1]; rfl
      rw [n_10, pk_div (by omega) (by omega) (by omega), e1]
      refine ih (j - 1) _ (by omega) (by omega) ?_
      rw [hu, Nat.div_div_eq_div_mul, ← Nat.pow_succ, show (k - 1 - j).succ = k - 1 - (j - 1) by omega]
  refine bX11_digitOf_0 ?_
  have e1 : nI k - 1 = nI (k - 1) := by rw [show k = (k - 1) + 1 by omega, nI_pred]; rfl
  rw [e1]
  exact loop (k - 1 - i) (k - 1) v (by omega) (by omega) (by simp)
theorem n_48' : (48 : Int32) = nI 48 := rfl
theorem sp_clashes {G : GC} {d : Nat} {sw : Bool} {f : FF} {Q : QQ} {v k e : Nat} (hv : v < 1000) (hk : k ≤ 3) (he : e < 8) (hl : isN (f 113 e) 6) (ht : clash f v k e → Q (some (.int 1)) sw f) (hf : ¬ clash f v k e → Q (some (.int 0)) sw f) : XP G mX11_clashes (d + 1) 0 [.ref 82, .int (nI v), .int (nI k), .int (nI e), .null] [] sw f Q := by
  obtain ⟨L, hL, eL⟩ := isN_nI hl (by omega)
  have ve : vp_in (nI e) 8 := vp_in_nI he (by omega)
  have ce : (nI e).toNatClampNeg = e := nI_clamp (by omega)
  have tL : (f 113 e).toInt = L := by rw [eL, nI_toInt (by omega)]
  have loop : f 113 e ≠ 0 → ∀ (n i : Nat), i + n = 7 → (∀ m, m < i → m < k → m < L → f 112 (6 * e + m) = nI (48 + digR v k m)) → XP G mX11_clashes (d + 1) 14 [.ref 82, .int (nI v), .int (nI k), .int (nI e), .int (nI i)] [] sw f Q := by
    intro g1 n
    induction n with
    | zero =>
      intro i hi hm
      exact bX11_clashes_14 (fun _ => ht ⟨g1, fun m h1 h2 => hm m (by omega) h1 (by omega)⟩) (fun h => absurd (nI_le (by omega) (by omega)) h) (fun h => absurd (nI_le (by omega) (by omega)) h) (fun h => absurd (nI_le (by omega) (by omega)) h) (fun h => absurd (nI_le (by omega) (by omega)) h)
    | succ n ih =>
      intro i hi hm
      by_cases hik : k ≤ i
      · exact bX11_clashes_14 (fun _ => ht ⟨g1, fun m h1 h2 => hm m (by omega) h1 (by omega)⟩) (fun h => absurd (nI_le hik (by omega)) h) (fun h => absurd (nI_le hik (by omega)) h) (fun h => absurd (nI_le hik (by omega)) h) (fun h => absurd (nI_le hik (by omega)) h)
      · by_cases hiL : L ≤ i
        · refine bX11_clashes_14 (fun h => absurd h (nI_ge (by omega) (by omega))) (fun _ => ve) (fun _ _ => ht ⟨g1, fun m h1 h2 => hm m (by omega) h1 (by omega)⟩) (fun _ h => ?_) (fun _ h => ?_) <;>
          · rw [ce, eL] at h
            exact absurd (nI_le hiL (by omega)) h
        · have e1 : (6 * nI e + nI i) = nI (6 * e + i) := by rw [n_6, pk_mul, nI_add]
          refine bX11_clashes_14 (fun h => absurd h (nI_ge (by omega) (by omega))) (fun _ => ve) (fun _ h => ?_) (fun _ _ => ?_) (fun _ _ => ?_)
          · rw [ce, eL] at h
            exact absurd h (nI_ge (by omega) (by omega))
          · rw [e1]; exact vp_in_nI (by omega) (by omega)
          · refine sp_digitOf hv hk (by omega) ?_
            refine bX11_clashes_50 (fun h => ?_) (fun h => ?_)
            · rw [e1, nI_clamp (by omega)] at h
              rw [nI_1]
              refine ih (i + 1) (by omega) (fun m h1 h2 h3 => ?_)
              by_cases y : m = i
              · subst y; exact h
              · exact hm m (by omega) h2 h3
            · rw [e1, nI_clamp (by omega)] at h
              exact hf (fun z => h (z.2 i (by omega) (by omega)))
  refine bX11_clashes_0 ve (fun h => ?_) (fun h => ?_)
  · rw [ce] at h
    exact loop h 7 0 (by omega) (fun m hm => absurd hm (by omega))
  · rw [ce] at h
    exact hf (fun z => z.1 h)
