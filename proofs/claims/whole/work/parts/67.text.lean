/-! ===== texts ===== -/
def tx (t : Nat → Int32) (n p : Nat) : Int32 := if p < n then t p &&& 255 else -1
abbrev dg (t : Nat → Int32) (n p : Nat) : Prop := 48 ≤ tx t n p ∧ tx t n p ≤ 57
def er (w p : Nat) : Int32 := -1000 * nI w - nI p
def nv (t : Nat → Int32) (n p : Nat) : Nat → Int32
  | 0 => 0
  | k + 1 => 10 * nv t n p k + tx t n (p + k) - 48
def numL (t : Nat → Int32) (n p : Nat) : Nat → Nat → Except Int32 (Nat × Int32)
  | 0, k => if dg t n (p + k) then .error (er 2 (p + k)) else .ok (p + k, nv t n p k)
  | r + 1, k => if dg t n (p + k) then numL t n p r (k + 1) else .ok (p + k, nv t n p k)
def numR (t : Nat → Int32) (n p : Nat) : Except Int32 (Nat × Int32) := if dg t n p then numL t n p 5 0 else .error (er 1 p)
theorem tx_m1 {t : Nat → Int32} {n p : Nat} : tx t n p = -1 ↔ n ≤ p := by
  unfold tx
  by_cases h : p < n
  · rw [if_pos h]
    obtain ⟨j, hj, ej⟩ := pk_andE (t p) (m := 255) 8 (by decide)
    rw [ej]
    exact ⟨fun z => absurd z (nI_ne_m1 (by omega)), fun z => by omega⟩
  · rw [if_neg h]
    exact ⟨fun _ => by omega, fun _ => rfl⟩
theorem tx_in {t : Nat → Int32} {n p : Nat} {c : Int32} (h : tx t n p = c) (hc : c ≠ -1) : p < n := by
  rcases Nat.lt_or_ge p n with z | z
  · exact z
  · exact absurd (h.symm.trans (tx_m1.mpr z)) hc
theorem dg_in {t : Nat → Int32} {n p : Nat} (h : dg t n p) : p < n := by
  refine tx_in (c := tx t n p) rfl (fun z => ?_)
  have := h.1
  rw [z] at this
  exact absurd this (by decide)
theorem er_neg {w p : Nat} (hw : 1 ≤ w) (hw2 : w ≤ 9) (hp : p ≤ 1000) : er w p ≤ 0 := by
  have e1 : (-1000 : Int32) * nI w = -(nI (1000 * w)) := by
    rw [show (-1000 : Int32) = -(nI 1000) from rfl, Int32.neg_mul, pk_mul]
  have e2 : er w p = nI 0 - nI (1000 * w + p) := by
    unfold er
    rw [e1, ← nI_add, Int32.sub_eq_add_neg, Int32.sub_eq_add_neg, Int32.neg_add, Int32.sub_eq_add_neg, show nI 0 = 0 from rfl, Int32.zero_add]
  rw [e2]
  refine Int32.le_iff_toInt_le.mpr ?_
  rw [pk_sub_toInt (by omega) (by omega), show (0 : Int32).toInt = 0 from rfl]
  omega
/-- the class's text -/
def TX (f : FF) (n : Nat) : Prop := f 1 2 = nI n ∧ n ≤ 260 ∧ ∀ j, j < n → f 2 j = f 90 j &&& 255
theorem TX.at {f : FF} {n p : Nat} (h : TX f n) (hp : p ≤ 1000) : tAt f (nI p) = tx (f 90) n p := by
  obtain ⟨h1, h2, h3⟩ := h
  unfold tAt tx
  rw [h1]
  by_cases c : p < n
  · rw [if_pos c, if_pos ⟨nI_pos' (by omega), nI_lt c (by omega), nI_lt (b := 260) (by omega) (by omega)⟩, nI_clamp (by omega), h3 p c]
  · rw [if_neg c, if_neg (fun z => absurd ((nI_ltI (by omega) (by omega)).mp z.2.1) c)]
def COT (f g : FF) : Prop := (∀ c, c ≠ 1 → g c = f c) ∧ ∀ j, (j < 3 ∨ 5 < j) → g 1 j = f 1 j
theorem COT.rf (f : FF) : COT f f := ⟨fun _ _ => rfl, fun _ _ => rfl⟩
theorem COT.tr {f g h : FF} (a : COT f g) (b : COT g h) : COT f h := ⟨fun c hc => (b.1 c hc).trans (a.1 c hc), fun j hj => (b.2 j hj).trans (a.2 j hj)⟩
theorem COT.up {f g : FF} {j : Nat} {x : Int32} (a : COT f g) (hj : 3 ≤ j ∧ j ≤ 5) : COT f (upd2 g 1 j x) := ⟨fun c hc => by rw [upd2_ne _ _ _ hc]; exact a.1 c hc, fun k hk => by rw [upd2_self, pk_un (by omega)]; exact a.2 k hk⟩
theorem TX.ot {f g : FF} {n : Nat} (h : TX f n) (o : COT f g) : TX g n := ⟨by rw [o.2 2 (by omega)]; exact h.1, h.2.1, fun j hj => by rw [o.1 2 (by omega), o.1 90 (by omega)]; exact h.2.2 j hj⟩
theorem TX.cg {f g : FF} {n : Nat} (h : TX f n) (h1 : g 1 2 = f 1 2) (h2 : g 2 = f 2) (h3 : g 90 = f 90) : TX g n := by unfold TX at h ⊢; rw [h1, h2, h3]; exact h
theorem sp_fails {G : GC} {d : Nat} {sw : Bool} {f : FF} {Q : QQ} {w p : Nat} (hp : f 1 3 = nI p) (hQ : ∀ g : FF, COT f g → g 1 5 = er w p → Q (some (.int 0)) sw g) : XP G mX8_fails d 0 [.ref 1, .int (nI w)] [] sw f Q := by
  refine bX8_fails_0 (hQ _ ((COT.rf f).up (by omega)) ?_)
  rw [upd2_self, pk_us, hp]
  rfl
theorem sp_readNumber {G : GC} {d : Nat} {sw : Bool} {f : FF} {Q : QQ} {n p : Nat} (ht : TX f n) (hp : f 1 3 = nI p) (hpn : p ≤ n) (hE : ∀ (e : Int32) (g : FF), numR (f 90) n p = .error e → COT f g → g 1 5 = e → Q (some (.int 0)) sw g) (hO : ∀ (p' : Nat) (v : Int32) (g : FF), numR (f 90) n p = .ok (p', v) → p ≤ p' → p' ≤ n → COT f g → g 1 3 = nI p' → g 1 4 = v → Q (some (.int 1)) sw g) : XP G mX8_readNumber (d + 1) 0 [.ref 1, .null] [] sw f Q := by
  have h260 := ht.2.1
  have a0 : tAt f (f 1 3) = tx (f 90) n p := by rw [hp]; exact ht.at (by omega)
  by_cases c : dg (f 90) n p
  · have hr : numR (f 90) n p = numL (f 90) n p 5 0 := if_pos c
    have loop : ∀ (r k : Nat) (g : FF), k + r = 5 → p + k ≤ n → COT f g → g 1 3 = nI (p + k) → g 1 4 = nv (f 90) n p k → numR (f 90) n p = numL (f 90) n p r k → XP G mX8_readNumber (d + 1) 27 [.ref 1, .int (nI k)] [] sw g Q := by
      intro r
      induction r with
      | zero =>
        intro k g hk hkn og g3 g4 hr
        have e1 : k = 5 := by omega
        subst e1
        have ag : tAt g (g 1 3) = tx (f 90) n (p + 5) := by rw [g3, (ht.ot og).at (by omega), og.1 90 (by omega)]
        unfold numL at hr
        refine bX8_readNumber_27 (fun _ h => ?_) (fun _ h => ?_) (fun h => absurd (by decide) h) (fun h => absurd (by decide) h) (fun h => absurd (by decide) h)
        · rw [ag] at h
          rw [if_neg h] at hr
          exact hO _ _ g hr (by omega) hkn og g3 g4
        · rw [ag] at h
          rw [if_pos h] at hr
          exact sp_fails (w := 2) g3 (fun g2 o2 e5 => bX8_readNumber_104 (Or.inl rfl) (hE _ g2 hr (og.tr o2) e5))
      | succ r ih =>
        intro k g hk hkn og g3 g4 hr
        have n5 : ¬ (5 : Int32) ≤ nI k := nI_ge (a := k) (b := 5) (by omega) (by omega)
        have ag : tAt g (g 1 3) = tx (f 90) n (p + k) := by rw [g3, (ht.ot og).at (by omega), og.1 90 (by omega)]
        unfold numL at hr
        refine bX8_readNumber_27 (fun h => absurd h n5) (fun h => absurd h n5) (fun _ h _ => ?_) (fun _ h1 h2 => absurd h2 h1) (fun _ h => ?_)
        · rw [ag] at h
          rw [if_neg h] at hr
          exact hO _ _ g hr (by omega) hkn og g3 g4
        · rw [ag] at h
          rw [if_pos h] at hr
          have := dg_in h
          rw [nI_1]
          refine ih (k + 1) _ (by omega) (by omega) ((og.up (by omega)).up (by omega)) ?_ ?_ hr
          · rw [upd2_self, pk_us, upd2_self, pk_un (by omega), g3, nI_1]
            rfl
          · rw [upd2_self, pk_un (by omega), upd2_self, pk_us, ag, g4, Int32.mul_comm]
            rfl
    refine bX8_readNumber_0 (fun _ => loop 5 0 _ (by omega) (by omega) ((COT.rf f).up (by omega)) ?_ ?_ hr) (fun h => absurd (by rw [a0]; exact c) h)
    · rw [upd2_self, pk_un (by omega), hp]
      rfl
    · rw [upd2_self, pk_us]
      rfl
  · have hr : numR (f 90) n p = .error (er 1 p) := if_neg c
    exact bX8_readNumber_0 (fun h => absurd (by rw [a0] at h; exact h) c) (fun _ => sp_fails (w := 1) hp (fun g o e5 => bX8_readNumber_19 (Or.inl rfl) (hE _ g hr o e5)))
theorem sp_passes {G : GC} {d : Nat} {sw : Bool} {f : FF} {Q : QQ} {n p : Nat} {c : Int32} (ht : TX f n) (hp : f 1 3 = nI p) (hpn : p ≤ n) (hc : c ≠ -1) (hy : tx (f 90) n p = c → ∀ g : FF, COT f g → g 1 3 = nI (p + 1) → Q (some (.int 1)) sw g) (hn : ¬ tx (f 90) n p = c → ∀ g : FF, COT f g → g 1 5 = er 1 p → Q (some (.int 0)) sw g) : XP G mX8_passes (d + 1) 0 [.ref 1, .int c] [] sw f Q := by
  have h260 := ht.2.1
  have a0 : tAt f (f 1 3) = tx (f 90) n p := by rw [hp]; exact ht.at (by omega)
  refine bX8_passes_0 (fun h => hy (by rw [← a0]; exact h) _ ((COT.rf f).up (by omega)) (by rw [upd2_self, pk_us, hp, nI_1])) (fun h => sp_fails (w := 1) hp (fun g o e5 => bX8_passes_17 (Or.inl rfl) (hn (by rw [← a0]; exact h) g o e5)))
/-- the reference's text -/
def MX (f : FF) (n p : Nat) : Prop := f 82 12 = nI n ∧ n ≤ 260 ∧ f 82 11 = nI p ∧ p ≤ n
theorem MX.here {f : FF} {n p : Nat} (h : MX f n p) : hereF f = tx (f 90) n p := by
  obtain ⟨h1, h2, h3, h4⟩ := h
  unfold hereF tx
  rw [h1, h3]
  by_cases c : p < n
  · rw [if_pos c, if_pos (nI_lt c (by omega)), nI_clamp (by omega)]
  · rw [if_neg c, if_neg (fun z => absurd ((nI_ltI (by omega) (by omega)).mp z) c)]
theorem MX.vp {f : FF} {n p : Nat} (h : MX f n p) : f 82 11 < f 82 12 → vp_in (f 82 11) 260 := by
  obtain ⟨h1, h2, h3, h4⟩ := h
  rw [h1, h3]
  intro z
  have := (nI_ltI (by omega) (by omega)).mp z
  exact vp_in_nI (by omega) (by omega)
theorem sp_wrongAt {G : GC} {d : Nat} {sw : Bool} {f : FF} {Q : QQ} {w p : Nat} {x : Int32} (hx : x = nI p) (hQ : Q (some (.int 0)) sw (upd2 f 82 13 (er w p))) : XP G mX11_wrongAt d 0 [.ref 82, .int (nI w), .int x] [] sw f Q := by
  subst hx
  exact bX11_wrongAt_0 hQ
/-- the reference reads on: place, number and fault -/
def MOT (f g : FF) : Prop := (∀ c, c ≠ 82 → g c = f c) ∧ ∀ j, j ≠ 11 → j ≠ 13 → j ≠ 14 → g 82 j = f 82 j
theorem MOT.rf (f : FF) : MOT f f := ⟨fun _ _ => rfl, fun _ _ _ _ => rfl⟩
theorem MOT.tr {f g h : FF} (a : MOT f g) (b : MOT g h) : MOT f h := ⟨fun c hc => (b.1 c hc).trans (a.1 c hc), fun j h1 h2 h3 => (b.2 j h1 h2 h3).trans (a.2 j h1 h2 h3)⟩
theorem MOT.up {f g : FF} {j : Nat} {x : Int32} (a : MOT f g) (hj : j = 11 ∨ j = 13 ∨ j = 14) : MOT f (upd2 g 82 j x) := ⟨fun c hc => by rw [upd2_ne _ _ _ hc]; exact a.1 c hc, fun k h1 h2 h3 => by rw [upd2_self, pk_un (by omega)]; exact a.2 k h1 h2 h3⟩
theorem sp_readsPence {G : GC} {d : Nat} {sw : Bool} {f : FF} {Q : QQ} {n p : Nat} (ht : MX f n p) (hE : ∀ (e : Int32) (g : FF), numR (f 90) n p = .error e → MOT f g → g 82 13 = e → Q (some (.int 0)) sw g) (hO : ∀ (p' : Nat) (v : Int32) (g : FF), numR (f 90) n p = .ok (p', v) → p ≤ p' → MOT f g → MX g n p' → g 82 14 = v → Q (some (.int 1)) sw g) : XP G mX11_readsPence (d + 2) 0 [.ref 82, .null] [] sw f Q := by
  obtain ⟨t1, h260, t3, t4⟩ := id ht
  have a0 := ht.here
  by_cases c : dg (f 90) n p
  · have hr : numR (f 90) n p = numL (f 90) n p 5 0 := if_pos c
    have loop : ∀ (r k : Nat) (g : FF), k + r = 5 → MOT f g → MX g n (p + k) → g 82 14 = nv (f 90) n p k → numR (f 90) n p = numL (f 90) n p r k → XP G mX11_readsPence (d + 2) 27 [.ref 82, .int (nI p)] [] sw g Q := by
      intro r
      induction r with
      | zero =>
        intro k g hk og hM g4 hr
        have e1 : k = 5 := by omega
        subst e1
        have ag : hereF g = tx (f 90) n (p + 5) := by rw [hM.here, og.1 90 (by omega)]
        have e5 : g 82 11 = nI p + 5 := by rw [hM.2.2.1, show (5 : Int32) = nI 5 from rfl, nI_add]
        unfold numL at hr
        refine bX11_readsPence_27 hM.vp (fun h => ?_) (fun _ h => absurd e5 h) (fun _ h => absurd e5 h) (fun h _ => ?_)
        · rw [ag] at h
          rw [if_neg h] at hr
          exact hO _ _ g hr (by omega) og hM g4
        · rw [ag] at h
          rw [if_pos h] at hr
          exact sp_wrongAt (w := 2) hM.2.2.1 (bX11_readsPence_53 (Or.inl rfl) (hE _ _ hr (og.up (by omega)) (by rw [upd2_self, pk_us])))
      | succ r ih =>
        intro k g hk og hM g4 hr
        have ag : hereF g = tx (f 90) n (p + k) := by rw [hM.here, og.1 90 (by omega)]
        have ne5 : ¬ g 82 11 = nI p + 5 := by
          rw [hM.2.2.1, show (5 : Int32) = nI 5 from rfl, nI_add, nI_eq (by have := hM.2.2.2; omega) (by omega)]
          omega
        unfold numL at hr
        refine bX11_readsPence_27 hM.vp (fun h => ?_) (fun _ _ => hM.vp) (fun h _ => ?_) (fun _ h => absurd h ne5)
        · rw [ag] at h
          rw [if_neg h] at hr
          exact hO _ _ g hr (by omega) og hM g4
        · rw [ag] at h
          rw [if_pos h] at hr
          have := dg_in h
          refine ih (k + 1) _ (by omega) ((og.up (by omega)).up (by omega)) ⟨?_, h260, ?_, by omega⟩ ?_ hr
          · rw [upd2_self, pk_un (by omega), upd2_self, pk_un (by omega)]; exact hM.1
          · rw [upd2_self, pk_us, upd2_self, pk_un (by omega), hM.2.2.1, nI_1]
            rfl
          · rw [upd2_self, pk_un (by omega), upd2_self, pk_us, ag, g4]
            rfl
    refine bX11_readsPence_0 ht.vp (fun _ => ?_) (fun h => absurd (by rw [a0]; exact c) h)
    rw [t3]
    refine loop 5 0 _ (by omega) ((MOT.rf f).up (by omega)) ⟨?_, h260, ?_, by omega⟩ ?_ hr
    · rw [upd2_self, pk_un (by omega)]; exact t1
    · rw [upd2_self, pk_un (by omega), t3]
      rfl
    · rw [upd2_self, pk_us]
      rfl
  · have hr : numR (f 90) n p = .error (er 1 p) := if_neg c
    exact bX11_readsPence_0 ht.vp (fun h => absurd (by rw [a0] at h; exact h) c) (fun _ => sp_wrongAt (w := 1) t3 (bX11_readsPence_21 (Or.inl rfl) (hE _ _ hr ((MOT.rf f).up (by omega)) (by rw [upd2_self, pk_us]))))
theorem sp_takes {G : GC} {d : Nat} {sw : Bool} {f : FF} {Q : QQ} {n p : Nat} {c : Int32} (ht : MX f n p) (hc : c ≠ -1) (hy : tx (f 90) n p = c → ∀ g : FF, MOT f g → MX g n (p + 1) → Q (some (.int 1)) sw g) (hn : ¬ tx (f 90) n p = c → ∀ g : FF, MOT f g → g 82 13 = er 1 p → Q (some (.int 0)) sw g) : XP G mX11_takes (d + 1) 0 [.ref 82, .int c] [] sw f Q := by
  have a0 := ht.here
  refine bX11_takes_0 ht.vp (fun h => ?_) (fun h => ?_)
  · rw [a0] at h
    have hlt := tx_in h hc
    refine hy h _ ((MOT.rf f).up (by omega)) ⟨?_, ht.2.1, ?_, by omega⟩
    · rw [upd2_self, pk_un (by omega)]; exact ht.1
    · rw [upd2_self, pk_us, ht.2.2.1, nI_1]
  · rw [a0] at h
    exact sp_wrongAt (w := 1) ht.2.2.1 (bX11_takes_17 (Or.inl rfl) (hn h _ ((MOT.rf f).up (by omega)) (by rw [upd2_self, pk_us])))
