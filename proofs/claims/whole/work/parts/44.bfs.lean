/-! ===== spreading over exchanges, as both do it ===== -/
def updN (f : Nat → Nat) (k x : Nat) : Nat → Nat := fun j => if j = k then x else f j
theorem updN_s {f : Nat → Nat} {k x : Nat} : updN f k x k = x := if_pos rfl
theorem updN_n {f : Nat → Nat} {k x j : Nat} (h : j ≠ k) : updN f k x j = f j := if_neg h
/-- how far (0: not reached, else one more), from which, the queue, how many -/
abbrev BS : Type := (Nat → Nat) × (Nat → Nat) × (Nat → Nat) × Nat
def bfX (t : BS) (u q : Nat) : BS := (updN t.1 q (t.1 u + 1), updN t.2.1 q u, updN t.2.2.1 t.2.2.2 q, t.2.2.2 + 1)
def bfI (adj : Nat → Nat → Bool) (u : Nat) : Nat → BS → BS
  | 0, t => t
  | q + 1, t => if (bfI adj u q t).1 q = 0 ∧ adj u q = true then bfX (bfI adj u q t) u q else bfI adj u q t
def bfO (adj : Nat → Nat → Bool) : Nat → BS → BS
  | 0, t => t
  | i + 1, t => if i < (bfO adj i t).2.2.2 then bfI adj ((bfO adj i t).2.2.1 i) 8 (bfO adj i t) else bfO adj i t
def bf0 (s : Nat) : BS := (fun v => if v = s then 1 else 0, fun _ => s, fun _ => s, 1)
def bfs (adj : Nat → Nat → Bool) (s : Nat) : BS := bfO adj 8 (bf0 s)
theorem bfs_eq (adj : Nat → Nat → Bool) (s : Nat) : bfs adj s = bfO adj 8 (bf0 s) := by unfold bfs; rfl
def cntF (far : Nat → Nat) : Nat := cntP (fun v => decide (far v ≠ 0)) 8
theorem cntP_flip {p p' : Nat → Bool} {q : Nat} (h0 : p q = false) (h1 : p' q = true) (h : ∀ j, j ≠ q → p' j = p j) : ∀ n, q < n → cntP p' n = cntP p n + 1 := by
  intro n
  induction n with
  | zero => intro hq; omega
  | succ n ih =>
    intro hq
    show cntP p' n + _ = cntP p n + _ + 1
    by_cases y : q = n
    · subst y
      rw [h0, h1, cntP_cg q (fun i hi => h i (by omega))]
      simp
    · rw [ih (by omega), h n (by omega)]
      omega
theorem cntP_lt {p : Nat → Bool} {q : Nat} (h0 : p q = false) : ∀ n, q < n → cntP p n < n := by
  intro n
  induction n with
  | zero => intro hq; omega
  | succ n ih =>
    intro hq
    show cntP p n + _ < _
    by_cases y : q = n
    · subst y
      rw [h0]
      have := cntP_le p q
      simp
      omega
    · have := ih (by omega)
      split <;> omega
/-- what a spreading keeps -/
def BI (adj : Nat → Nat → Bool) (s : Nat) (t : BS) : Prop := t.1 s = 1 ∧ (∀ v, t.1 v ≠ 0 → v < 8 ∧ t.1 v ≤ t.2.2.2) ∧ cntF t.1 = t.2.2.2 ∧ (∀ i, i < t.2.2.2 → t.2.2.1 i < 8 ∧ t.1 (t.2.2.1 i) ≠ 0) ∧ (∀ v, t.1 v ≠ 0 → ∃ i, i < t.2.2.2 ∧ t.2.2.1 i = v) ∧ (∀ v, t.1 v ≠ 0 → (v = s ∧ t.2.1 v = s) ∨ (v ≠ s ∧ t.2.1 v < 8 ∧ t.1 (t.2.1 v) ≠ 0 ∧ t.1 v = t.1 (t.2.1 v) + 1 ∧ adj (t.2.1 v) v = true))
def Mo (t t' : BS) : Prop := (∀ v, t.1 v ≠ 0 → t'.1 v = t.1 v ∧ t'.2.1 v = t.2.1 v) ∧ (∀ i, i < t.2.2.2 → t'.2.2.1 i = t.2.2.1 i) ∧ t.2.2.2 ≤ t'.2.2.2
theorem Mo.rf (t : BS) : Mo t t := ⟨fun _ _ => ⟨rfl, rfl⟩, fun _ _ => rfl, Nat.le_refl _⟩
theorem Mo.tr {t u v : BS} (a : Mo t u) (b : Mo u v) : Mo t v := by
  refine ⟨fun x hx => ?_, fun i hi => ?_, Nat.le_trans a.2.2 b.2.2⟩
  · have h1 := a.1 x hx
    have h2 := b.1 x (by rw [h1.1]; exact hx)
    exact ⟨h2.1.trans h1.1, h2.2.trans h1.2⟩
  · rw [b.2.1 i (Nat.lt_of_lt_of_le hi a.2.2), a.2.1 i hi]
theorem BI.m8 {adj : Nat → Nat → Bool} {s : Nat} {t : BS} (h : BI adj s t) : t.2.2.2 ≤ 8 := by rw [← h.2.2.1]; exact cntP_le _ _
theorem BI.lt8 {adj : Nat → Nat → Bool} {s : Nat} {t : BS} (h : BI adj s t) {q : Nat} (hq : q < 8) (hz : t.1 q = 0) : t.2.2.2 < 8 := by
  rw [← h.2.2.1]
  exact cntP_lt (q := q) (by simp [hz]) 8 hq
theorem BI.ext {adj : Nat → Nat → Bool} {s : Nat} {t : BS} (h : BI adj s t) {u q : Nat} (hu : t.1 u ≠ 0) (hq : q < 8) (hz : t.1 q = 0) (ha : adj u q = true) : BI adj s (bfX t u q) ∧ Mo t (bfX t u q) := by
  obtain ⟨b1, b2, b3, b4, b5, b6⟩ := h
  have n1 : ∀ v, t.1 v ≠ 0 → v ≠ q := fun v hv e => hv (by rw [e]; exact hz)
  have f1 : ∀ v, t.1 v ≠ 0 → (bfX t u q).1 v = t.1 v := fun v hv => updN_n (n1 v hv)
  have f2 : (bfX t u q).1 q = t.1 u + 1 := updN_s
  have f3 : ∀ v, v ≠ q → (bfX t u q).1 v = t.1 v := fun v hv => updN_n hv
  have hs : t.1 s ≠ 0 := by omega
  have g1 : ∀ v, v ≠ q → (bfX t u q).2.1 v = t.2.1 v := fun v hv => updN_n hv
  have q1 : ∀ i, i < t.2.2.2 → (bfX t u q).2.2.1 i = t.2.2.1 i := fun i hi => updN_n (by omega)
  refine ⟨⟨by rw [f1 s hs]; exact b1, fun v hv => ?_, ?_, fun i hi => ?_, fun v hv => ?_, fun v hv => ?_⟩, fun v hv => ⟨f1 v hv, g1 v (n1 v hv)⟩, q1, Nat.le_succ _⟩
  · show _ ∧ _ ≤ t.2.2.2 + 1
    by_cases y : v = q
    · subst y
      have := (b2 u hu).2
      rw [f2]
      exact ⟨hq, by omega⟩
    · rw [f3 v y] at hv ⊢
      have := b2 v hv
      exact ⟨this.1, by omega⟩
  · show cntF _ = t.2.2.2 + 1
    rw [← b3]
    refine cntP_flip (q := q) (by simp [hz]) ?_ (fun j hj => ?_) 8 hq
    · have : (bfX t u q).1 q ≠ 0 := by rw [f2]; omega
      exact decide_eq_true this
    · simp only [f3 j hj]
  · have hi : i < t.2.2.2 + 1 := hi
    by_cases y : i = t.2.2.2
    · subst y
      have : (bfX t u q).2.2.1 t.2.2.2 = q := updN_s
      rw [this, f2]
      exact ⟨hq, by omega⟩
    · have h4 := b4 i (by omega)
      rw [q1 i (by omega), f1 _ h4.2]
      exact h4
  · by_cases y : v = q
    · subst y
      exact ⟨t.2.2.2, Nat.lt_succ_self _, updN_s⟩
    · rw [f3 v y] at hv
      obtain ⟨i, hi, e⟩ := b5 v hv
      exact ⟨i, Nat.lt_succ_of_lt hi, by rw [q1 i hi, e]⟩
  · by_cases y : v = q
    · subst y
      have e1 : (bfX t u v).2.1 v = u := updN_s
      right
      rw [e1, f2, f1 u hu]
      exact ⟨fun e => hs (by rw [← e]; exact hz), (b2 u hu).1, hu, rfl, ha⟩
    · rw [f3 v y] at hv
      rw [f3 v y, g1 v y]
      rcases b6 v hv with h6 | ⟨c0, c1, c2, c3, c4⟩
      · exact Or.inl h6
      · right
        rw [f1 _ c2]
        exact ⟨c0, c1, c2, c3, c4⟩
theorem bfI_ok {adj : Nat → Nat → Bool} {s : Nat} {t : BS} (h : BI adj s t) {u : Nat} (hu : t.1 u ≠ 0) : ∀ q, q ≤ 8 → BI adj s (bfI adj u q t) ∧ Mo t (bfI adj u q t) ∧ ∀ v, v < q → adj u v = true → (bfI adj u q t).1 v ≠ 0 := by
  intro q
  induction q with
  | zero => intro _; exact ⟨h, Mo.rf _, fun v hv => absurd hv (by omega)⟩
  | succ q ih =>
    intro hq
    obtain ⟨i1, i2, i3⟩ := ih (by omega)
    by_cases c : (bfI adj u q t).1 q = 0 ∧ adj u q = true
    · have e : bfI adj u (q + 1) t = bfX (bfI adj u q t) u q := if_pos c
      rw [e]
      have hu2 : (bfI adj u q t).1 u ≠ 0 := by rw [(i2.1 u hu).1]; exact hu
      obtain ⟨j1, j2⟩ := i1.ext hu2 (by omega) c.1 c.2
      refine ⟨j1, i2.tr j2, fun v hv ha => ?_⟩
      by_cases y : v = q
      · subst y
        show updN _ _ _ _ ≠ 0
        rw [updN_s]
        omega
      · have := i3 v (by omega) ha
        rw [(j2.1 v this).1]
        exact this
    · have e : bfI adj u (q + 1) t = bfI adj u q t := if_neg c
      rw [e]
      refine ⟨i1, i2, fun v hv ha => ?_⟩
      by_cases y : v = q
      · subst y
        exact fun z => c ⟨z, ha⟩
      · exact i3 v (by omega) ha
theorem bf0_ok {adj : Nat → Nat → Bool} {s : Nat} (hs : s < 8) : BI adj s (bf0 s) := by
  have z : ∀ v, (bf0 s).1 v ≠ 0 → v = s := fun v hv => by
    by_cases y : v = s
    · exact y
    · exact absurd (if_neg y) hv
  have f1 : (bf0 s).1 s = 1 := if_pos rfl
  refine ⟨f1, fun v hv => ?_, ?_, fun i hi => ?_, fun v hv => ?_, fun v hv => ?_⟩
  · rw [z v hv, f1]; exact ⟨hs, Nat.le_refl _⟩
  · show cntF _ = 1
    unfold cntF
    rw [cntP_sum, sumN_one (k := s) 8 hs (fun i _ hne => if_neg (by rw [decide_eq_true_iff]; exact fun h => h (if_neg hne))), if_pos (decide_eq_true (by rw [f1]; omega))]
  · exact ⟨hs, by show (bf0 s).1 s ≠ 0; rw [f1]; omega⟩
  · exact ⟨0, Nat.zero_lt_one, (z v hv).symm⟩
  · exact Or.inl ⟨z v hv, rfl⟩
theorem bfO_ok {adj : Nat → Nat → Bool} {s : Nat} {t : BS} (h : BI adj s t) : ∀ i, BI adj s (bfO adj i t) ∧ Mo t (bfO adj i t) ∧ ∀ k, k < i → k < (bfO adj i t).2.2.2 → ∀ v, v < 8 → adj ((bfO adj i t).2.2.1 k) v = true → (bfO adj i t).1 v ≠ 0 := by
  intro i
  induction i with
  | zero => exact ⟨h, Mo.rf _, fun k hk => absurd hk (by omega)⟩
  | succ i ih =>
    obtain ⟨i1, i2, i3⟩ := ih
    by_cases c : i < (bfO adj i t).2.2.2
    · have e : bfO adj (i + 1) t = bfI adj ((bfO adj i t).2.2.1 i) 8 (bfO adj i t) := if_pos c
      rw [e]
      obtain ⟨j1, j2, j3⟩ := bfI_ok i1 (i1.2.2.2.1 i c).2 8 (Nat.le_refl _)
      refine ⟨j1, i2.tr j2, fun k hk hk2 v hv ha => ?_⟩
      by_cases y : k = i
      · subst y
        rw [j2.2.1 k c] at ha
        exact j3 v hv ha
      · have hk3 : k < (bfO adj i t).2.2.2 := by omega
        rw [j2.2.1 k hk3] at ha
        have := i3 k (by omega) hk3 v hv ha
        rw [(j2.1 v this).1]
        exact this
    · have e : bfO adj (i + 1) t = bfO adj i t := if_neg c
      rw [e]
      exact ⟨i1, i2, fun k hk hk2 v hv ha => i3 k (by omega) hk2 v hv ha⟩
theorem bfO_st {adj : Nat → Nat → Bool} {t : BS} {i : Nat} (h : (bfO adj i t).2.2.2 ≤ i) : ∀ j, bfO adj (i + j) t = bfO adj i t := by
  intro j
  induction j with
  | zero => rfl
  | succ j ih =>
    show bfO adj ((i + j) + 1) t = _
    have : bfO adj ((i + j) + 1) t = bfO adj (i + j) t := if_neg (by rw [ih]; omega)
    rw [this, ih]
theorem bfs_stop {adj : Nat → Nat → Bool} {s i : Nat} (hi : i ≤ 8) (h : (bfO adj i (bf0 s)).2.2.2 ≤ i) : bfs adj s = bfO adj i (bf0 s) := by
  have := bfO_st h (8 - i)
  rw [show i + (8 - i) = 8 by omega] at this
  exact this
theorem bfs_ok (adj : Nat → Nat → Bool) {s : Nat} (hs : s < 8) : BI adj s (bfs adj s) ∧ ∀ u v, (bfs adj s).1 u ≠ 0 → v < 8 → adj u v = true → (bfs adj s).1 v ≠ 0 := by
  have H := bfO_ok (bf0_ok (adj := adj) hs) 8
  unfold bfs
  generalize bfO adj 8 (bf0 s) = t at H ⊢
  obtain ⟨h1, h2, h3⟩ := H
  refine ⟨h1, fun u v hu hv ha => ?_⟩
  obtain ⟨k, hk, e⟩ := h1.2.2.2.2.1 u hu
  exact h3 k (Nat.lt_of_lt_of_le hk h1.m8) hk v hv (by rw [e]; exact ha)
theorem bfI_cg {a b : Nat → Nat → Bool} {u : Nat} (h : ∀ v, v < 8 → a u v = b u v) (t : BS) : ∀ q, q ≤ 8 → bfI a u q t = bfI b u q t := by
  intro q
  induction q with
  | zero => intro _; rfl
  | succ q ih =>
    intro hq
    show (if (bfI a u q t).1 q = 0 ∧ a u q = true then bfX (bfI a u q t) u q else bfI a u q t) = (if (bfI b u q t).1 q = 0 ∧ b u q = true then bfX (bfI b u q t) u q else bfI b u q t)
    rw [ih (by omega), h q (by omega)]
theorem bfs_cg {a b : Nat → Nat → Bool} {s : Nat} (hs : s < 8) (h : ∀ u v, u < 8 → v < 8 → a u v = b u v) : bfs a s = bfs b s := by
  have : ∀ i, bfO a i (bf0 s) = bfO b i (bf0 s) := by
    intro i
    induction i with
    | zero => rfl
    | succ i ih =>
      show (if i < (bfO a i (bf0 s)).2.2.2 then bfI a ((bfO a i (bf0 s)).2.2.1 i) 8 (bfO a i (bf0 s)) else bfO a i (bf0 s)) = (if i < (bfO b i (bf0 s)).2.2.2 then bfI b ((bfO b i (bf0 s)).2.2.1 i) 8 (bfO b i (bf0 s)) else bfO b i (bf0 s))
      rw [ih]
      by_cases c : i < (bfO b i (bf0 s)).2.2.2
      · rw [if_pos c, if_pos c]
        have hu := ((bfO_ok (bf0_ok (adj := b) hs) i).1.2.2.2.1 i c).1
        exact bfI_cg (fun v hv => h _ v hu hv) _ 8 (Nat.le_refl _)
      · rw [if_neg c, if_neg c]
  exact this 8
/-- a distance as it is written -/
def eF (x : Nat) : Int32 := nI x - 1
theorem eF_0 : eF 0 = -1 := by decide
theorem eF_s (x : Nat) : eF (x + 1) = nI x := nI_pred x
theorem eF_add (x : Nat) : eF x + 1 = eF (x + 1) := by rw [eF_s]; unfold eF; simp
theorem eF_m1 {x : Nat} (hx : x < 2 ^ 30) : eF x = -1 ↔ x = 0 := by
  cases x with
  | zero => exact ⟨fun _ => rfl, fun _ => eF_0⟩
  | succ x => rw [eF_s]; exact ⟨fun h => absurd h (nI_ne_m1 (by omega)), fun h => absurd h (by omega)⟩
