/-! ===== a call begins ===== -/
def rowsR (a : Nat → Int32) (i : Nat) (p : Nat → Nat) : Nat → Nat → Int32
  | 0 => a
  | k + 1 => upd (rowsR a i p k) (228 + 8 * i + k) (nI (p k))
theorem rowsR_off {a : Nat → Int32} {i : Nat} {p : Nat → Nat} : ∀ (n : Nat) {k : Nat}, (k < 228 + 8 * i ∨ 228 + 8 * i + n ≤ k) → rowsR a i p n k = a k := by
  intro n
  induction n with
  | zero => intro k _; rfl
  | succ n ih =>
    intro k hk
    show upd _ _ _ k = _
    rw [pk_un (by omega)]
    exact ih (by omega)
theorem rowsR_in {a : Nat → Int32} {i : Nat} {p : Nat → Nat} : ∀ (n : Nat) {k : Nat}, k < n → rowsR a i p n (228 + 8 * i + k) = nI (p k) := by
  intro n
  induction n with
  | zero => intro k h; omega
  | succ n ih =>
    intro k hk
    show upd _ _ _ _ = _
    by_cases y : k = n
    · subst y; exact pk_us
    · rw [pk_un (by omega)]; exact ih (by omega)
def begA (a : Nat → Int32) (s k i : Nat) (m pv : Int32) (T : Nat) (p : Nat → Nat) : Nat → Int32 := rowsR (upd (upd (upd (upd (upd a (128 + i) (nI s)) (148 + i) (nI k)) (168 + i) pv) (188 + i) m) (208 + i) (nI T)) i p (T + 1)
def begR (a : Nat → Int32) (s k i : Nat) (m pv : Int32) (T : Nat) (p : Nat → Nat) : Nat → Int32 := upd (upd (begA a s k i m pv T p) (96 + s) (mnI 9999 (begA a s k i m pv T p (96 + s) + 1))) (112 + k) (mnI 9999 (upd (begA a s k i m pv T p) (96 + s) (mnI 9999 (begA a s k i m pv T p (96 + s) + 1)) (112 + k) + 1))
theorem begA_off {a : Nat → Int32} {s k i : Nat} {m pv : Int32} {T : Nat} {p : Nat → Nat} (hi : i < 20) {x : Nat} (h1 : x < 128 ∨ 388 ≤ x ∨ (128 ≤ x ∧ x < 228 ∧ (x - 128) % 20 ≠ i) ∨ (228 ≤ x ∧ (x - 228) / 8 ≠ i)) (hT : T ≤ 7) : begA a s k i m pv T p x = a x := by
  unfold begA
  rw [rowsR_off _ (by omega), pk_un (by omega), pk_un (by omega), pk_un (by omega), pk_un (by omega), pk_un (by omega)]
theorem begA_at {a : Nat → Int32} {s k i : Nat} {m pv : Int32} {T : Nat} {p : Nat → Nat} (hi : i < 20) : begA a s k i m pv T p (128 + i) = nI s ∧ begA a s k i m pv T p (148 + i) = nI k ∧ begA a s k i m pv T p (168 + i) = pv ∧ begA a s k i m pv T p (188 + i) = m ∧ begA a s k i m pv T p (208 + i) = nI T ∧ ∀ j, j ≤ T → begA a s k i m pv T p (228 + 8 * i + j) = nI (p j) := by
  unfold begA
  refine ⟨?_, ?_, ?_, ?_, ?_, fun j hj => rowsR_in _ (by omega)⟩
  · rw [rowsR_off _ (by omega), pk_un (by omega), pk_un (by omega), pk_un (by omega), pk_un (by omega), pk_us]
  · rw [rowsR_off _ (by omega), pk_un (by omega), pk_un (by omega), pk_un (by omega), pk_us]
  · rw [rowsR_off _ (by omega), pk_un (by omega), pk_un (by omega), pk_us]
  · rw [rowsR_off _ (by omega), pk_un (by omega), pk_us]
  · rw [rowsR_off _ (by omega), pk_us]
theorem begR_hi {a : Nat → Int32} {s k i : Nat} {m pv : Int32} {T : Nat} {p : Nat → Nat} (hs : s < 16) (hk : k < 16) {x : Nat} (hx : x < 96 ∨ 128 ≤ x) : begR a s k i m pv T p x = begA a s k i m pv T p x := by
  unfold begR
  rw [pk_un (by omega), pk_un (by omega)]
theorem begR_96 {a : Nat → Int32} {s k i : Nat} {m pv : Int32} {T : Nat} {p : Nat → Nat} (hi : i < 20) (hT : T ≤ 7) (hs : s < 16) (hk : k < 16) {x : Nat} (hx : x < 16) : begR a s k i m pv T p (96 + x) = if x = s then mnI 9999 (a (96 + s) + 1) else a (96 + x) := by
  unfold begR
  rw [pk_un (by omega)]
  by_cases y : x = s
  · subst y; rw [pk_us, if_pos rfl, begA_off hi (by omega) hT]
  · rw [pk_un (by omega), if_neg y, begA_off hi (by omega) hT]
theorem begR_112 {a : Nat → Int32} {s k i : Nat} {m pv : Int32} {T : Nat} {p : Nat → Nat} (hi : i < 20) (hT : T ≤ 7) (hs : s < 16) (hk : k < 16) {x : Nat} (hx : x < 16) : begR a s k i m pv T p (112 + x) = if x = k then mnI 9999 (a (112 + k) + 1) else a (112 + x) := by
  unfold begR
  by_cases y : x = k
  · subst y; rw [pk_us, if_pos rfl, pk_un (by omega), begA_off hi (by omega) hT]
  · rw [pk_un (by omega), pk_un (by omega), if_neg y, begA_off hi (by omega) hT]
theorem mn_N {x : Int32} (h : isN x 9999) : isN (mnI 9999 (x + 1)) 9999 := by
  obtain ⟨n, hn, en⟩ := isN_nI h (by omega)
  rw [en, nI_1]
  unfold mnI
  have e : (9999 : Int32) = nI 9999 := rfl
  rw [e]
  by_cases c : 9999 < n + 1
  · rw [if_pos (nI_lt c (by omega))]; exact nI_isN (by omega) (by omega)
  · rw [if_neg (nI_nlt (by omega) (by omega))]; exact nI_isN (by omega) (by omega)
/-- what a beginning call wants -/
theorem RWr.beg {f g : FF} {w : Nat} {a : Nat → Int32} (hw : isW w) (H : RWr f w a) {s k i : Nat} {m pv : Int32} {T : Nat} {p : Nat → Nat} (hi : i < 20) (hs : s < 16) (hk : k < 16) (hsk : s ≠ k) (hf : a (188 + i) = 0) (fs : frM a s) (fk : frM a k) (hm : isN m 99) (hm0 : m ≠ 0) (hpv : pv = nI s ∨ pv = nI k) (hT : T ≤ 7) (hp8 : ∀ j, j ≤ T → p j < 8) (hpn : ∀ j, j < T → p j ≠ p (j + 1))
    (g0 : ∀ x, x ≠ 4 → g w x = f w x) (g4 : ∀ x, bt (g w 4) x = true ↔ (bt (f w 4) x = true ∨ x = s ∨ x = k)) (g1 : g (w + 1) = f (w + 1)) (g2 : g (w + 2) = f (w + 2)) (g3 : g (w + 3) = upd (f (w + 3)) s (mnI 9999 (f (w + 3) s + 1))) (g4' : g (w + 4) = upd (f (w + 4)) k (mnI 9999 (f (w + 4) k + 1))) (g5 : g (w + 5) = upd (upd (f (w + 5)) s (nI i)) k (nI i)) (g6 : g (w + 6) = upd (f (w + 6)) i (nI s)) (g7 : g (w + 7) = upd (f (w + 7)) i (nI k)) (g8 : g (w + 8) = upd (f (w + 8)) i pv) (g9 : g (w + 9) = upd (f (w + 9)) i m) (g10 : g (w + 10) = upd (f (w + 10)) i (nI T))
    (g11 : ∀ j x, j < 20 → j ≠ i → x < 8 → g (w + 11) (8 * j + x) = f (w + 11) (8 * j + x)) (g11i : ∀ x, x ≤ T → g (w + 11) (8 * i + x) = nI (p x)) (g12 : ∀ e q, e < 8 → q < 8 → g (w + 12) (8 * e + q) = addN (f (w + 12) (8 * e + q)) 1 (cntP (edg (g (w + 11)) e q i) T)) : RWr g w (begR a s k i m pv T p) := by
  have inW := fun {x j : Nat} (hj : j < 20) => H.inCW hw (s := x) hj
  obtain ⟨q1, q2, q3, q4, q5, q6, q7, q8, q9, q10, q11⟩ := id H
  obtain ⟨b1, b2, b3, b4, b5, b6⟩ := begA_at (a := a) (s := s) (k := k) (i := i) (m := m) (pv := pv) (T := T) (p := p) hi
  have fle : f (w + 9) i = 0 := by rw [(q3 i hi).1]; exact hf
  have told : ∀ x, x < 16 → begR a s k i m pv T p x = a x := fun x hx => by rw [begR_hi hs hk (by omega), begA_off hi (by omega) hT]
  have ts : a s = 1 := fs.1
  have tk : a k = 1 := fk.1
  unfold RWr
  rw [g1, g2, g3, g4', g5, g6, g7, g8, g9, g10]
  refine ⟨fun x hx => ?_, fun x hx => ?_, fun j hj => ?_, fun x hx => ?_, fun e q he hq => ?_, ?_, ?_, ?_, ?_, ?_, ?_⟩
  · rw [g0 0 (by omega), g0 1 (by omega), g0 2 (by omega), g0 3 (by omega)]
    have := q1 x hx
    refine ⟨this.1, this.2.1, this.2.2.1, this.2.2.2.1, ?_⟩
    cases hb : bt (g w 4) x with
    | false => rfl
    | true =>
      rcases (g4 x).mp hb with z | z | z
      · exact absurd z (by rw [this.2.2.2.2]; decide)
      · omega
      · omega
  · obtain ⟨r0, r1, r2, r3, r4, r5⟩ := q2 x hx
    unfold RWs
    rw [g0 0 (by omega), g0 1 (by omega), g0 2 (by omega), g0 3 (by omega), told x hx, begR_hi (x := 32 + x) hs hk (by omega), begR_hi (x := 48 + x) hs hk (by omega), begR_hi (x := 64 + x) hs hk (by omega), begR_hi (x := 16 + x) hs hk (by omega), begR_hi (x := 80 + x) hs hk (by omega), begA_off (x := 32 + x) hi (by omega) hT, begA_off (x := 48 + x) hi (by omega) hT, begA_off (x := 64 + x) hi (by omega) hT, begA_off (x := 16 + x) hi (by omega) hT, begA_off (x := 80 + x) hi (by omega) hT, begR_96 hi hT hs hk hx, begR_112 hi hT hs hk hx]
    refine ⟨r0, r1, r2, r3, r4, fun t => ?_⟩
    obtain ⟨m1, m2, m3, m4, m5, m6, m7, m8, m9, m10, m11⟩ := r5 t
    refine ⟨m1, m2, m3, m4, m5, m6, m7, ?_, ?_, ?_, ?_⟩
    · by_cases y : x = s
      · subst y; rw [pk_us, if_pos rfl, m8]
      · rw [pk_un y, if_neg y, m8]
    · by_cases y : x = s
      · subst y; rw [pk_us]; exact mn_N m9
      · rw [pk_un y]; exact m9
    · by_cases y : x = k
      · subst y; rw [pk_us, if_pos rfl, m10]
      · rw [pk_un y, if_neg y, m10]
    · by_cases y : x = k
      · subst y; rw [pk_us]; exact mn_N m11
      · rw [pk_un y]; exact m11
  · by_cases y : j = i
    · subst y
      rw [pk_us, begR_hi hs hk (by omega), b4]
      refine ⟨rfl, hm, fun _ => ?_⟩
      unfold RWc
      rw [pk_us, pk_us, pk_us, pk_us, begR_hi (x := 128 + j) hs hk (by omega), begR_hi (x := 148 + j) hs hk (by omega), begR_hi (x := 168 + j) hs hk (by omega), begR_hi (x := 208 + j) hs hk (by omega), b1, b2, b3, b5, nI_clamp (n := s) (by omega), nI_clamp (n := k) (by omega), told s hs, told k hk]
      refine ⟨rfl, nI_isN (by omega) (by omega), rfl, nI_isN (by omega) (by omega), fun z => hsk ((nI_eq (by omega) (by omega)).mp z), ts, tk, rfl, ?_, ?_, rfl, nI_isN hT (by omega), fun x hx => ?_, fun x hx => ?_, ?_, ?_⟩
      · rcases hpv with z | z <;> rw [z] <;> exact nI_isN (by omega) (by omega)
      · rcases hpv with z | z
        · rw [show pv.toNatClampNeg = s by rw [z, nI_clamp (by omega)], told s hs]; exact ts
        · rw [show pv.toNatClampNeg = k by rw [z, nI_clamp (by omega)], told k hk]; exact tk
      · rw [nI_toInt (by omega)] at hx
        rw [g11i x (by omega), begR_hi hs hk (by omega), b6 x (by omega)]
        exact ⟨rfl, nI_isN (by have := hp8 x (by omega); omega) (by omega)⟩
      · rw [nI_toInt (by omega)] at hx
        have e1 := g11i (x + 1) (by omega)
        have e1 : g (w + 11) (8 * j + x + 1) = nI (p (x + 1)) := e1
        rw [g11i x (by omega), e1]
        have h8 := hp8 x (by omega)
        have h9 := hp8 (x + 1) (by omega)
        intro z
        exact hpn x (by omega) ((nI_eq (by omega) (by omega)).mp z)
      · rw [pk_un hsk, pk_us]
      · rw [pk_us]
    · obtain ⟨l1, l2, l3⟩ := q3 j hj
      rw [pk_un y, begR_hi hs hk (by omega), begA_off hi (by omega) hT]
      refine ⟨l1, l2, fun z => ?_⟩
      have c := l3 z
      have cn : ∀ x : Nat, x < 16 → frM a x → f (w + 6) j ≠ nI x ∧ f (w + 7) j ≠ nI x := by
        intro x hx fx
        refine ⟨fun e => fx.2.2.2 j hj ((inW hj).mpr ⟨z, Or.inl e⟩), fun e => fx.2.2.2 j hj ((inW hj).mpr ⟨z, Or.inr e⟩)⟩
      obtain ⟨u, hu, eu⟩ := isN_nI c.2.1 (by omega)
      obtain ⟨v, hv, ev⟩ := isN_nI c.2.2.2.1 (by omega)
      have us : u ≠ s := fun z2 => (cn s hs fs).1 (by rw [← z2]; exact eu)
      have uk : u ≠ k := fun z2 => (cn k hk fk).1 (by rw [← z2]; exact eu)
      have vs : v ≠ s := fun z2 => (cn s hs fs).2 (by rw [← z2]; exact ev)
      have vk : v ≠ k := fun z2 => (cn k hk fk).2 (by rw [← z2]; exact ev)
      refine c.cg (pk_un y) (pk_un y) (pk_un y) (pk_un y) (fun x hx => g11 j x hj y hx) ?_ ?_ ?_ ?_ ?_ ?_ (fun x hx => ?_) (fun x hx hx1 => by rw [told x hx]; exact hx1)
      · rw [eu, nI_clamp (by omega), pk_un uk, pk_un us]
      · rw [ev, nI_clamp (by omega), pk_un vk, pk_un vs]
      · rw [begR_hi hs hk (by omega), begA_off hi (by omega) hT]
      · rw [begR_hi hs hk (by omega), begA_off hi (by omega) hT]
      · rw [begR_hi hs hk (by omega), begA_off hi (by omega) hT]
      · rw [begR_hi hs hk (by omega), begA_off hi (by omega) hT]
      · rw [begR_hi hs hk (by omega), begA_off hi (by omega) hT]
  · rw [g4 x, q4 x hx]
    constructor
    · rintro (⟨j, hj, z1, z2⟩ | z | z)
      · have y : j ≠ i := fun e => z1 (by rw [e]; exact fle)
        exact ⟨j, hj, by rw [pk_un y]; exact z1, by rw [pk_un y, pk_un y]; exact z2⟩
      · subst z; exact ⟨i, hi, by rw [pk_us]; exact hm0, Or.inl pk_us⟩
      · subst z; exact ⟨i, hi, by rw [pk_us]; exact hm0, Or.inr pk_us⟩
    · rintro ⟨j, hj, z1, z2⟩
      by_cases y : j = i
      · subst y
        rw [pk_us, pk_us, nI_eq (by omega) (by omega), nI_eq (by omega) (by omega)] at z2
        exact Or.inr (z2.elim (fun z => Or.inl z.symm) (fun z => Or.inr z.symm))
      · rw [pk_un y] at z1
        rw [pk_un y, pk_un y] at z2
        exact Or.inl ⟨j, hj, z1, z2⟩
  · have cb := cntU_beg (le := f (w + 9)) (tr := f (w + 10)) (ro := f (w + 11)) (le' := upd (f (w + 9)) i m) (tr' := upd (f (w + 10)) i (nI T)) (ro' := g (w + 11)) hi fle (by rw [pk_us]; exact hm0) (fun j hj => pk_un hj) (fun j hj => pk_un hj) (fun j x hj hji hx => g11 j x hj hji hx) (fun j hj z => ((q3 j hj).2.2 z).2.2.2.2.2.2.2.2.2.2.2.1) e q
    rw [pk_us, nI_clamp (by omega)] at cb
    rw [g12 e q he hq, q5 e q he hq, addN_1, cb]
  · rw [g0 5 (by omega), begR_hi hs hk (by omega), begA_off hi (by omega) hT]; exact q6
  · rw [g0 5 (by omega)]; exact q7
  · rw [g0 6 (by omega), begR_hi hs hk (by omega), begA_off hi (by omega) hT]; exact q8
  · rw [g0 6 (by omega)]; exact q9
  · rw [g0 7 (by omega), begR_hi hs hk (by omega), begA_off hi (by omega) hT]; exact q10
  · rw [g0 7 (by omega)]; exact q11
