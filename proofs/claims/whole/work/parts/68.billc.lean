/-! ===== bills ===== -/
abbrev BL : Type := Nat × Int32 × Int32
def whoP (t : Nat → Int32) (n : Nat) (a : Nat → Int32) (i p : Nat) : Except Int32 Nat := if tx t n p = 70 then (if i < 20 then .ok 16 else .error (er 4 p)) else if 97 ≤ tx t n p ∧ tx t n p ≤ 112 then (if i < 20 then (if a (tx t n p - 97).toNatClampNeg = 1 then .ok (tx t n p - 97).toNatClampNeg else .error (er 7 p)) else .error (er 4 p)) else .error (er 1 p)
def isFl5 (c : Int32) : Prop := c = 33 ∨ c = 63 ∨ c = 42 ∨ c = 94 ∨ c = 95
noncomputable def whatP (t : Nat → Int32) (n p s : Nat) : Except Int32 (Nat × BL) := if tx t n p = 43 ∨ tx t n p = 45 then (match numR t n (p + 1) with | .error e => .error e | .ok r => .ok (r.1, (s, tx t n p, if tx t n p = 43 then r.2 else -r.2))) else @ite _ (isFl5 (tx t n p) ∧ s ≠ 16) (Classical.propDecidable _) (.ok (p + 1, (s, tx t n p, 0))) (.error (er 1 p))
noncomputable def lineP (t : Nat → Int32) (n : Nat) (a : Nat → Int32) (i p : Nat) : Except Int32 (Nat × BL) := match whoP t n a i p with | .error e => .error e | .ok s => whatP t n (p + 1) s
noncomputable def linesR (t : Nat → Int32) (n : Nat) (a : Nat → Int32) : Nat → Nat → Nat → Except Int32 (List BL)
  | 0, _, _ => .error 0
  | l + 1, i, p => match lineP t n a i p with
    | .error e => .error e
    | .ok r => if tx t n r.1 = -1 then .ok [r.2] else if tx t n r.1 = 59 then (match linesR t n a l (i + 1) (r.1 + 1) with | .error e => .error e | .ok L => .ok (r.2 :: L)) else .error (er 1 r.1)
noncomputable def apR (a : Nat → Int32) (l : BL) : Nat → Int32 := if l.1 = 16 then upd a 388 (mxI 0 (mnI 999999 (a 388 + l.2.2))) else if l.2.1 = 33 then endsR (upd a (48 + l.1) 0) l.1 else if l.2.1 = 63 then upd a (48 + l.1) 1 else if l.2.1 = 42 then upd a (32 + l.1) 0 else if l.2.1 = 94 then upd a (64 + l.1) 1 else if l.2.1 = 95 then upd a (64 + l.1) 0 else upd a (80 + l.1) (mxI 0 (mnI 999999 (a (80 + l.1) + l.2.2)))
noncomputable def apL (a : Nat → Int32) : List BL → Nat → Int32
  | [] => a
  | l :: L => apL (apR a l) L
/-- the letter of a subscriber -/
theorem letter {t : Nat → Int32} {n p : Nat} (h : 97 ≤ tx t n p ∧ tx t n p ≤ 112) : ∃ s, s ≤ 15 ∧ tx t n p - 97 = nI s ∧ tx t n p = nI (97 + s) := by
  have e97 : (97 : Int32).toInt = 97 := rfl
  have h0 : ¬ tx t n p < 0 := fun z => by
    have := Int32.le_iff_toInt_le.mp h.1
    have := Int32.lt_iff_toInt_lt.mp z
    have e0 : (0 : Int32).toInt = 0 := rfl
    omega
  obtain ⟨j, hj, ej⟩ := nI_of2 (M := 112) (n := 112) rfl h0 h.2
  have h97 : 97 ≤ j := by
    have := h.1
    rw [ej, show (97 : Int32) = nI 97 from rfl, nI_leI (by omega) (by omega)] at this
    exact this
  refine ⟨j - 97, by omega, ?_, ?_⟩
  · rw [ej, show (97 : Int32) = nI 97 from rfl, pk_sub h97]
  · rw [ej, show 97 + (j - 97) = j by omega]
/-- a line that is well read: whose it is, and the signs -/
def lnOk (a : Nat → Int32) (l : BL) : Prop := (l.1 = 16 ∧ (l.2.1 = 43 ∨ l.2.1 = 45)) ∨ (l.1 < 16 ∧ a l.1 = 1 ∧ (l.2.1 = 43 ∨ l.2.1 = 45 ∨ isFl5 l.2.1))
theorem whoP_ok {t : Nat → Int32} {n : Nat} {a : Nat → Int32} {i p s : Nat} (h : whoP t n a i p = .ok s) : i < 20 ∧ p < n ∧ (s = 16 ∨ (s < 16 ∧ a s = 1)) := by
  unfold whoP at h
  by_cases c1 : tx t n p = 70
  · rw [if_pos c1] at h
    by_cases c2 : i < 20
    · rw [if_pos c2] at h
      exact ⟨c2, tx_in c1 (by decide), Or.inl (Except.ok.inj h).symm⟩
    · rw [if_neg c2] at h; exact absurd h (by simp)
  · rw [if_neg c1] at h
    by_cases c3 : 97 ≤ tx t n p ∧ tx t n p ≤ 112
    · rw [if_pos c3] at h
      by_cases c2 : i < 20
      · rw [if_pos c2] at h
        obtain ⟨q, hq, e1, e2⟩ := letter c3
        rw [e1, nI_clamp (by omega)] at h
        by_cases c4 : a q = 1
        · rw [if_pos c4] at h
          have := Except.ok.inj h
          subst this
          exact ⟨c2, tx_in e2 (nI_ne_m1 (by omega)), Or.inr ⟨by omega, c4⟩⟩
        · rw [if_neg c4] at h; exact absurd h (by simp)
      · rw [if_neg c2] at h; exact absurd h (by simp)
    · rw [if_neg c3] at h; exact absurd h (by simp)
theorem whoP_er {t : Nat → Int32} {n : Nat} {a : Nat → Int32} {i p : Nat} {e : Int32} (hp : p ≤ 1000) (h : whoP t n a i p = .error e) : e ≤ 0 := by
  unfold whoP at h
  repeat' split at h
  all_goals first | (have := Except.error.inj h; subst this; exact er_neg (by omega) (by omega) hp) | (exact absurd h (by simp))
theorem numL_er {t : Nat → Int32} {n p : Nat} {e : Int32} (hp : p ≤ 900) : ∀ (r k : Nat), k + r = 5 → numL t n p r k = .error e → e ≤ 0 := by
  intro r
  induction r with
  | zero =>
    intro k hk h
    unfold numL at h
    split at h
    · have := Except.error.inj h; subst this; exact er_neg (by omega) (by omega) (by omega)
    · exact absurd h (by simp)
  | succ r ih =>
    intro k hk h
    unfold numL at h
    split at h
    · exact ih (k + 1) (by omega) h
    · exact absurd h (by simp)
theorem numR_er {t : Nat → Int32} {n p : Nat} {e : Int32} (hp : p ≤ 900) (h : numR t n p = .error e) : e ≤ 0 := by
  unfold numR at h
  split at h
  · exact numL_er hp 5 0 (by omega) h
  · have := Except.error.inj h; subst this; exact er_neg (by omega) (by omega) (by omega)
theorem whatP_er {t : Nat → Int32} {n p s : Nat} {e : Int32} (hp : p ≤ 800) (h : whatP t n p s = .error e) : e ≤ 0 := by
  unfold whatP at h
  split at h
  · cases hr : numR t n (p + 1) with
    | error e2 =>
      rw [hr] at h
      have := Except.error.inj h; subst this; exact numR_er (by omega) hr
    | ok r => rw [hr] at h; exact absurd h (by simp)
  · split at h
    · exact absurd h (by simp)
    · have := Except.error.inj h; subst this; exact er_neg (by omega) (by omega) (by omega)
theorem lineP_er {t : Nat → Int32} {n : Nat} {a : Nat → Int32} {i p : Nat} {e : Int32} (hp : p ≤ 700) (h : lineP t n a i p = .error e) : e ≤ 0 := by
  unfold lineP at h
  cases hw : whoP t n a i p with
  | error e2 => rw [hw] at h; have := Except.error.inj h; subst this; exact whoP_er (by omega) hw
  | ok s => rw [hw] at h; exact whatP_er (by omega) h
theorem whatP_ok {t : Nat → Int32} {n p s : Nat} {r : Nat × BL} {a : Nat → Int32} (hs : s = 16 ∨ (s < 16 ∧ a s = 1)) (h : whatP t n p s = .ok r) : lnOk a r.2 := by
  unfold whatP at h
  by_cases c1 : tx t n p = 43 ∨ tx t n p = 45
  · rw [if_pos c1] at h
    cases hr : numR t n (p + 1) with
    | error e2 => rw [hr] at h; exact absurd h (by simp)
    | ok q =>
      rw [hr] at h
      have := Except.ok.inj h; subst this
      rcases hs with z | z
      · exact Or.inl ⟨z, c1⟩
      · exact Or.inr ⟨z.1, z.2, c1.elim Or.inl (fun y => Or.inr (Or.inl y))⟩
  · rw [if_neg c1] at h
    by_cases c2 : isFl5 (tx t n p) ∧ s ≠ 16
    · rw [if_pos c2] at h
      have := Except.ok.inj h; subst this
      rcases hs with z | z
      · exact absurd z c2.2
      · exact Or.inr ⟨z.1, z.2, Or.inr (Or.inr c2.1)⟩
    · rw [if_neg c2] at h; exact absurd h (by simp)
/-! the class reads a bill -/
def CB (f g : FF) : Prop := (∀ c, c ≠ 1 → (c < 20 ∨ 23 < c) → g c = f c) ∧ ∀ j, (j < 3 ∨ 5 < j) → g 1 j = f 1 j
theorem CB.rf (f : FF) : CB f f := ⟨fun _ _ _ => rfl, fun _ _ => rfl⟩
theorem CB.tr {f g h : FF} (a : CB f g) (b : CB g h) : CB f h := ⟨fun c c1 c2 => (b.1 c c1 c2).trans (a.1 c c1 c2), fun j hj => (b.2 j hj).trans (a.2 j hj)⟩
theorem CB.ot {f g : FF} (o : COT f g) : CB f g := ⟨fun c c1 _ => o.1 c c1, o.2⟩
theorem CB.up {f g : FF} {c j : Nat} {x : Int32} (a : CB f g) (hc : (20 ≤ c ∧ c ≤ 23) ∨ (c = 1 ∧ 3 ≤ j ∧ j ≤ 5)) : CB f (upd2 g c j x) := by
  refine ⟨fun k k1 k2 => by rw [upd2_ne _ _ _ (by omega)]; exact a.1 k k1 k2, fun k hk => ?_⟩
  rcases hc with z | ⟨rfl, z⟩
  · rw [upd2_ne _ _ _ (by omega)]; exact a.2 k hk
  · rw [upd2_self, pk_un (by omega)]; exact a.2 k hk
theorem TX.cb {f g : FF} {n : Nat} (h : TX f n) (o : CB f g) : TX g n := h.cg (o.2 2 (by omega)) (o.1 2 (by omega) (by omega)) (o.1 90 (by omega) (by omega))
def BLat (g : FF) (i : Nat) (l : BL) : Prop := g 21 i = nI l.1 ∧ g 22 i = l.2.1 ∧ ((l.2.1 = 43 ∨ l.2.1 = 45) → g 23 i = l.2.2)
def BLs (g : FF) : Nat → List BL → Prop
  | _, [] => True
  | i, l :: L => BLat g i l ∧ BLs g (i + 1) L
theorem sp_readWhose {G : GC} {d : Nat} {sw : Bool} {f : FF} {Q : QQ} {n p i : Nat} {a : Nat → Int32} {mk : Int32} (ht : TX f n) (hp : f 1 3 = nI p) (hpn : p ≤ n) (hi : i ≤ 20) (hmk : ∀ s, s < 16 → (bt mk s = true ↔ a s = 1)) (hE : ∀ (e : Int32) (g : FF), whoP (f 90) n a i p = .error e → COT f g → g 1 5 = e → Q (some (.int 0)) sw g) (hO : ∀ (s : Nat), whoP (f 90) n a i p = .ok s → Q (some (.int 1)) sw (upd2 (upd2 f 1 3 (nI (p + 1))) 21 i (nI s))) : XP G mX0_readWhose (d + 2) 0 [.ref 20, .int (nI i), .int mk, .null, .null, .null] [] sw f Q := by
  have h260 := ht.2.1
  have a0 : tAt f (f 1 3) = tx (f 90) n p := by rw [hp]; exact ht.at (by omega)
  have i20 : nI i < 20 ↔ i < 20 := nI_ltI (b := 20) (by omega) (by omega)
  by_cases c1 : tx (f 90) n p = 70
  · have k1 : tAt f (f 1 3) = 70 := a0.trans c1
    by_cases c2 : i < 20
    · have hw : whoP (f 90) n a i p = .ok 16 := by unfold whoP; rw [if_pos c1, if_pos c2]
      have k2 : nI i < 20 := i20.mpr c2
      have fin := hO 16 hw
      have e1 : f 1 3 + 1 = nI (p + 1) := by rw [hp, nI_1]
      exact bX0_readWhose_0  (fun h => absurd (k1) h) (fun h => absurd (k1) h) (fun h => absurd (k1) h) (fun h => absurd (k1) h) (fun h => absurd (k1) h) (fun _ _ => (vp_in_nI (by omega) (by omega))) (fun _ _ => (by rw [e1, nI_clamp (by omega)]; exact fin)) (fun _ h => absurd (k2) h)
    · have hw : whoP (f 90) n a i p = .error (er 4 p) := by unfold whoP; rw [if_pos c1, if_neg c2]
      have k2 : ¬ nI i < 20 := fun z => c2 (i20.mp z)
      exact bX0_readWhose_0  (fun h => absurd (k1) h) (fun h => absurd (k1) h) (fun h => absurd (k1) h) (fun h => absurd (k1) h) (fun h => absurd (k1) h) (fun _ h => absurd h (k2)) (fun _ h => absurd h (k2)) (fun _ _ => (sp_fails (w := 4) hp (fun g o e5 => bX0_readWhose_60 (Or.inl rfl) (hE _ g hw o e5))))
  · have k1 : ¬ tAt f (f 1 3) = 70 := fun z => c1 (a0.symm.trans z)
    by_cases c3 : 97 ≤ tx (f 90) n p ∧ tx (f 90) n p ≤ 112
    · have k3 : 97 ≤ tAt f (f 1 3) ∧ tAt f (f 1 3) ≤ 112 := by rw [a0]; exact c3
      obtain ⟨s, hs, es, es2⟩ := letter c3
      have as : tAt f (f 1 3) - 97 = nI s := by rw [a0]; exact es
      by_cases c2 : i < 20
      · have k2 : nI i < 20 := i20.mpr c2
        by_cases c4 : a s = 1
        · have hw : whoP (f 90) n a i p = .ok s := by unfold whoP; rw [if_neg c1, if_pos c3, if_pos c2, es, nI_clamp (by omega), if_pos c4]
          have k4 : ¬ ((mk >>> (((tAt f (f 1 3)) - 97) &&& 31)) &&& 1) = 0 := by
            rw [as]
            intro z
            have := (bit0_bt (by omega)).mp z
            rw [(hmk s (by omega)).mpr c4] at this
            exact absurd this (by decide)
          have fin := hO s hw
          have e1 : f 1 3 + 1 = nI (p + 1) := by rw [hp, nI_1]
          exact bX0_readWhose_0  (fun _ _ _ _ => (vp_in_nI (by omega) (by omega))) (fun _ _ _ _ => (by rw [e1, nI_clamp (by omega), as]; exact fin)) (fun _ _ _ h => absurd h (k4)) (fun _ _ h => absurd (k2) h) (fun _ h => absurd (k3) h) (fun h => absurd h (k1)) (fun h => absurd h (k1)) (fun h => absurd h (k1))
        · have hw : whoP (f 90) n a i p = .error (er 7 p) := by unfold whoP; rw [if_neg c1, if_pos c3, if_pos c2, es, nI_clamp (by omega), if_neg c4]
          have k4 : ((mk >>> (((tAt f (f 1 3)) - 97) &&& 31)) &&& 1) = 0 := by
            rw [as]
            refine (bit0_bt (by omega)).mpr ?_
            cases hb : bt mk s with
            | false => rfl
            | true => exact absurd ((hmk s (by omega)).mp hb) c4
          exact bX0_readWhose_0  (fun _ _ _ h => absurd (k4) h) (fun _ _ _ h => absurd (k4) h) (fun _ _ _ _ => (sp_fails (w := 7) hp (fun g o e5 => bX0_readWhose_100 (Or.inl rfl) (hE _ g hw o e5)))) (fun _ _ h => absurd (k2) h) (fun _ h => absurd (k3) h) (fun h => absurd h (k1)) (fun h => absurd h (k1)) (fun h => absurd h (k1))
      · have hw : whoP (f 90) n a i p = .error (er 4 p) := by unfold whoP; rw [if_neg c1, if_pos c3, if_neg c2]
        have k2 : ¬ nI i < 20 := fun z => c2 (i20.mp z)
        exact bX0_readWhose_0  (fun _ _ h => absurd h (k2)) (fun _ _ h => absurd h (k2)) (fun _ _ h => absurd h (k2)) (fun _ _ _ => (sp_fails (w := 4) hp (fun g o e5 => bX0_readWhose_60 (Or.inl rfl) (hE _ g hw o e5)))) (fun _ h => absurd (k3) h) (fun h => absurd h (k1)) (fun h => absurd h (k1)) (fun h => absurd h (k1))
    · have k3 : ¬ (97 ≤ tAt f (f 1 3) ∧ tAt f (f 1 3) ≤ 112) := by rw [a0]; exact c3
      have hw : whoP (f 90) n a i p = .error (er 1 p) := by unfold whoP; rw [if_neg c1, if_neg c3]
      exact bX0_readWhose_0  (fun _ h => absurd h (k3)) (fun _ h => absurd h (k3)) (fun _ h => absurd h (k3)) (fun _ h => absurd h (k3)) (fun _ _ => (sp_fails (w := 1) hp (fun g o e5 => bX0_readWhose_45 (Or.inl rfl) (hE _ g hw o e5)))) (fun h => absurd h (k1)) (fun h => absurd h (k1)) (fun h => absurd h (k1))
theorem sp_readWhat {G : GC} {d : Nat} {sw : Bool} {f : FF} {Q : QQ} {n p i s : Nat} (ht : TX f n) (hp : f 1 3 = nI p) (hpn : p ≤ n) (hi : i < 20) (hs : s ≤ 16) (h21 : f 21 i = nI s) (hE : ∀ (e : Int32) (g : FF), whatP (f 90) n p s = .error e → CB f g → (∀ k, g 21 k = f 21 k) → g 1 5 = e → Q (some (.int 0)) sw g) (hO : ∀ (r : Nat × BL) (g : FF), whatP (f 90) n p s = .ok r → p ≤ r.1 → r.1 ≤ n → CB f g → (∀ k, g 21 k = f 21 k) → (∀ k, k ≠ i → g 22 k = f 22 k ∧ g 23 k = f 23 k) → g 1 3 = nI r.1 → BLat g i r.2 → g 20 = f 20 → Q (some (.int 1)) sw g) : XP G mX0_readWhat (d + 2) 0 [.ref 20, .int (nI i), .null, .null] [] sw f Q := by
  have h260 := ht.2.1
  have a0 : tAt f (f 1 3) = tx (f 90) n p := by rw [hp]; exact ht.at (by omega)
  have vi : vp_in (nI i) 20 := vp_in_nI hi (by omega)
  have ci : (nI i).toNatClampNeg = i := nI_clamp (by omega)
  have o1 : CB f (upd2 f 22 i (tx (f 90) n p)) := (CB.rf f).up (by omega)
  have o2 : CB f (upd2 (upd2 f 22 i (tx (f 90) n p)) 1 3 (nI (p + 1))) := o1.up (by omega)
  have r13 : (upd2 f 22 (nI i).toNatClampNeg (tAt f (f 1 3))) 1 3 = nI p := by rw [upd2_ne _ _ _ (by omega)]; exact hp
  have r21 : (upd2 f 22 (nI i).toNatClampNeg (tAt f (f 1 3))) 21 (nI i).toNatClampNeg = nI s := by rw [upd2_ne _ _ _ (by omega), ci]; exact h21
  have bad : whatP (f 90) n p s = .error (er 1 p) → ∀ x3 : Int32, XP G mX8_fails (d + 1) 0 [.ref 1, .int 1] [] sw (upd2 f 22 (nI i).toNatClampNeg (tAt f (f 1 3))) (fun v sw' f' => XP G mX0_readWhat (d + 2) 143 [.ref 20, .int (nI i), .int (tAt f (f 1 3)), .int x3] (retst v []) sw' f' Q) := by
    intro hw x3
    refine sp_fails (w := 1) r13 (fun g o e5 => bX0_readWhat_143 (Or.inl rfl) (hE _ g hw ?_ (fun k => ?_) e5))
    · rw [ci, a0] at o
      exact o1.tr (CB.ot o)
    · rw [o.1 21 (by omega), upd2_ne _ _ _ (by omega)]
  have flag : isFl5 (tx (f 90) n p) → ¬ (tx (f 90) n p = 43 ∨ tx (f 90) n p = 45) → s ≠ 16 → Q (some (.int 1)) sw (upd2 (upd2 f 22 (nI i).toNatClampNeg (tAt f (f 1 3))) 1 3 (((upd2 f 22 (nI i).toNatClampNeg (tAt f (f 1 3))) 1 3) + 1)) := by
    intro h5 h43 h16
    rw [r13, nI_1, ci, a0]
    have hw : whatP (f 90) n p s = .ok (p + 1, (s, tx (f 90) n p, 0)) := by unfold whatP; rw [if_neg h43, if_pos ⟨h5, h16⟩]
    have hlt : p < n := by
      refine tx_in (c := tx (f 90) n p) rfl ?_
      rcases h5 with z | z | z | z | z <;> rw [z] <;> decide
    refine hO _ _ hw (Nat.le_succ _) hlt o2 (fun k => by rw [upd2_ne _ _ _ (by omega), upd2_ne _ _ _ (by omega)]) (fun k hk => ⟨by rw [upd2_ne _ _ _ (by omega), upd2_self, pk_un hk], by rw [upd2_ne _ _ _ (by omega), upd2_ne _ _ _ (by omega)]⟩) (by rw [upd2_self, pk_us]) ⟨?_, ?_, fun z => absurd z h43⟩ (by rw [upd2_ne _ _ _ (by omega), upd2_ne _ _ _ (by omega)])
    · rw [upd2_ne _ _ _ (by omega), upd2_ne _ _ _ (by omega)]; exact h21
    · rw [upd2_ne _ _ _ (by omega), upd2_self, pk_us]
  have num : (tx (f 90) n p = 43 ∨ tx (f 90) n p = 45) → XP G mX8_readNumber (d + 1) 0 [.ref 1, .null] [] sw (upd2 (upd2 f 22 (nI i).toNatClampNeg (tAt f (f 1 3))) 1 3 (((upd2 f 22 (nI i).toNatClampNeg (tAt f (f 1 3))) 1 3) + 1)) (fun v sw' f' => XP G mX0_readWhat (d + 2) 47 [.ref 20, .int (nI i), .int (tAt f (f 1 3)), .null] (retst v []) sw' f' Q) := by
    intro h43
    rw [r13, nI_1, ci, a0]
    have hlt : p < n := by
      refine tx_in (c := tx (f 90) n p) rfl ?_
      rcases h43 with z | z <;> rw [z] <;> decide
    have e90 : upd2 (upd2 f 22 i (tx (f 90) n p)) 1 3 (nI (p + 1)) 90 = f 90 := by rw [upd2_ne _ _ _ (by omega), upd2_ne _ _ _ (by omega)]
    refine sp_readNumber (n := n) (p := p + 1) (ht.cb o2) (by rw [upd2_self, pk_us]) hlt (fun e g hr o e5 => ?_) (fun p' v g hr hp1 hp2 o g3 g4 => ?_)
    · rw [e90] at hr
      refine bX0_readWhat_47 (fun h => absurd rfl h) (fun h => absurd rfl h) (fun h => absurd rfl h) (fun h => absurd rfl h) (fun _ => hE e g ?_ (o2.tr (CB.ot o)) (fun k => ?_) e5)
      · unfold whatP; rw [if_pos h43, hr]
      · rw [o.1 21 (by omega), upd2_ne _ _ _ (by omega), upd2_ne _ _ _ (by omega)]
    · rw [e90] at hr
      have hw : ∀ y : Int32, y = (if tx (f 90) n p = 43 then v else -v) → whatP (f 90) n p s = .ok (p', (s, tx (f 90) n p, y)) := by
        intro y hy
        unfold whatP
        rw [if_pos h43, hr, hy]
      have fin : ∀ y : Int32, y = (if tx (f 90) n p = 43 then v else -v) → Q (some (.int 1)) sw (upd2 g 23 i y) := by
        intro y hy
        have gc : ∀ c, c ≠ 1 → g c = upd2 f 22 i (tx (f 90) n p) c := fun c hc => by rw [o.1 c hc, upd2_ne _ _ _ hc]
        refine hO _ _ (hw y hy) (by omega) hp2 ((o2.tr (CB.ot o)).up (by omega)) (fun k => by rw [upd2_ne _ _ _ (by omega), gc 21 (by omega), upd2_ne _ _ _ (by omega)]) (fun k hk => ⟨by rw [upd2_ne _ _ _ (by omega), gc 22 (by omega), upd2_self, pk_un hk], by rw [upd2_self, pk_un hk, gc 23 (by omega), upd2_ne _ _ _ (by omega)]⟩) (by rw [upd2_ne _ _ _ (by omega)]; exact g3) ⟨?_, ?_, fun _ => ?_⟩ ?_
        · rw [upd2_ne _ _ _ (by omega), gc 21 (by omega), upd2_ne _ _ _ (by omega)]; exact h21
        · rw [upd2_ne _ _ _ (by omega), gc 22 (by omega), upd2_self, pk_us]
        · rw [upd2_self, pk_us]
        · rw [upd2_ne _ _ _ (by omega), gc 20 (by omega), upd2_ne _ _ _ (by omega)]
      refine bX0_readWhat_47 (fun _ _ => vi) (fun _ z => ?_) (fun _ _ => vi) (fun _ z => ?_) (fun h => absurd h (by decide))
      · rw [ci, g4]; exact fin _ (by rw [if_neg z])
      · rw [ci, g4]; exact fin _ (by rw [if_pos z])
  by_cases c43 : tx (f 90) n p = 43
  · have k43 : tAt f (f 1 3) = 43 := a0.trans c43
    exact bX0_readWhat_0  (vi) (fun _ => (num (Or.inl c43))) (fun h => absurd (k43) h) (fun h => absurd (k43) h) (fun h => absurd (k43) h) (fun h => absurd (k43) h) (fun h => absurd (k43) h) (fun h => absurd (k43) h) (fun h => absurd (k43) h) (fun h => absurd (k43) h) (fun h => absurd (k43) h) (fun h => absurd (k43) h) (fun h => absurd (k43) h) (fun h => absurd (k43) h) (fun h => absurd (k43) h) (fun h => absurd (k43) h) (fun h => absurd (k43) h) (fun h => absurd (k43) h) (fun h => absurd (k43) h)
  · have k43 : ¬ tAt f (f 1 3) = 43 := fun z => c43 (a0.symm.trans z)
    by_cases c45 : tx (f 90) n p = 45
    · have k45 : tAt f (f 1 3) = 45 := a0.trans c45
      exact bX0_readWhat_0  (vi) (fun h => absurd h (k43)) (fun _ h => absurd (k45) h) (fun _ h => absurd (k45) h) (fun _ h => absurd (k45) h) (fun _ h => absurd (k45) h) (fun _ h => absurd (k45) h) (fun _ h => absurd (k45) h) (fun _ h => absurd (k45) h) (fun _ h => absurd (k45) h) (fun _ h => absurd (k45) h) (fun _ h => absurd (k45) h) (fun _ h => absurd (k45) h) (fun _ h => absurd (k45) h) (fun _ h => absurd (k45) h) (fun _ h => absurd (k45) h) (fun _ h => absurd (k45) h) (fun _ h => absurd (k45) h) (fun _ _ => (num (Or.inr c45)))
    · have k45 : ¬ tAt f (f 1 3) = 45 := fun z => c45 (a0.symm.trans z)
      have n43 : ¬ (tx (f 90) n p = 43 ∨ tx (f 90) n p = 45) := fun z => z.elim c43 c45
      by_cases c5 : isFl5 (tx (f 90) n p)
      · by_cases c16 : s = 16
        · have k16 : (upd2 f 22 (nI i).toNatClampNeg (tAt f (f 1 3))) 21 (nI i).toNatClampNeg = 16 := by rw [r21, c16]; rfl
          have hw : whatP (f 90) n p s = .error (er 1 p) := by unfold whatP; rw [if_neg n43, if_neg (fun z => z.2 c16)]
          exact bX0_readWhat_0  (vi) (fun h => absurd h (k43)) (fun _ _ h3 => vi) (fun _ _ _ h => absurd (k16) h) (fun _ _ h3 _ => (bad hw _)) (fun _ _ h3 h4 => vi) (fun _ _ _ _ h => absurd (k16) h) (fun _ _ h3 h4 _ => (bad hw _)) (fun _ _ h3 h4 h5 => vi) (fun _ _ _ _ _ h => absurd (k16) h) (fun _ _ h3 h4 h5 _ => (bad hw _)) (fun _ _ h3 h4 h5 h6 => vi) (fun _ _ _ _ _ _ h => absurd (k16) h) (fun _ _ h3 h4 h5 h6 _ => (bad hw _)) (fun _ _ h3 h4 h5 h6 h7 => (bad hw _)) (fun _ _ h3 h4 h5 h6 h7 => vi) (fun _ _ _ _ _ _ _ h => absurd (k16) h) (fun _ _ h3 h4 h5 h6 h7 _ => (bad hw _)) (fun _ h => absurd h (k45))
        · have k16 : ¬ (upd2 f 22 (nI i).toNatClampNeg (tAt f (f 1 3))) 21 (nI i).toNatClampNeg = 16 := by
            rw [r21]
            intro z
            exact c16 ((nI_eq (b := 16) (by omega) (by omega)).mp z)
          have fl := flag c5 n43 c16
          exact bX0_readWhat_0  (vi) (fun h => absurd h (k43)) (fun _ _ h3 => vi) (fun _ _ h3 _ => fl) (fun _ _ _ h => absurd h (k16)) (fun _ _ h3 h4 => vi) (fun _ _ h3 h4 _ => fl) (fun _ _ _ _ h => absurd h (k16)) (fun _ _ h3 h4 h5 => vi) (fun _ _ h3 h4 h5 _ => fl) (fun _ _ _ _ _ h => absurd h (k16)) (fun _ _ h3 h4 h5 h6 => vi) (fun _ _ h3 h4 h5 h6 _ => fl) (fun _ _ _ _ _ _ h => absurd h (k16)) (fun _ _ h3 h4 h5 h6 h7 => (absurd c5 (fun z => by rcases z with z | z | z | z | z; exact h3 (a0.trans z); exact h4 (a0.trans z); exact h5 (a0.trans z); exact h6 (a0.trans z); exact h7 (a0.trans z)))) (fun _ _ h3 h4 h5 h6 h7 => vi) (fun _ _ h3 h4 h5 h6 h7 _ => fl) (fun _ _ _ _ _ _ _ h => absurd h (k16)) (fun _ h => absurd h (k45))
      · have hw : whatP (f 90) n p s = .error (er 1 p) := by unfold whatP; rw [if_neg n43, if_neg (fun z => c5 z.1)]
        have m : ∀ y : Int32, (y = 33 ∨ y = 63 ∨ y = 42 ∨ y = 94 ∨ y = 95) → ¬ tAt f (f 1 3) = y := fun y hy z => c5 (by rw [← a0, z]; exact hy)
        have m33 := m 33 (by simp)
        have m63 := m 63 (by simp)
        have m42 := m 42 (by simp)
        have m94 := m 94 (by simp)
        have m95 := m 95 (by simp)
        exact bX0_readWhat_0  (vi) (fun h => absurd h (k43)) (fun _ _ h => absurd h (m33)) (fun _ _ h => absurd h (m33)) (fun _ _ h => absurd h (m33)) (fun _ _ _ h => absurd h (m63)) (fun _ _ _ h => absurd h (m63)) (fun _ _ _ h => absurd h (m63)) (fun _ _ _ _ h => absurd h (m42)) (fun _ _ _ _ h => absurd h (m42)) (fun _ _ _ _ h => absurd h (m42)) (fun _ _ _ _ _ h => absurd h (m94)) (fun _ _ _ _ _ h => absurd h (m94)) (fun _ _ _ _ _ h => absurd h (m94)) (fun _ _ _ _ _ _ _ => (bad hw _)) (fun _ _ _ _ _ _ h => absurd h (m95)) (fun _ _ _ _ _ _ h => absurd h (m95)) (fun _ _ _ _ _ _ h => absurd h (m95)) (fun _ h => absurd h (k45))
