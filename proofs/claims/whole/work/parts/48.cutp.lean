/-! ===== cuts, and pushing along a way ===== -/
theorem sumN_upd {g : Nat → Nat} {k x : Nat} : ∀ n, k < n → sumN (updN g k x) n + g k = sumN g n + x := by
  intro n
  induction n with
  | zero => intro h; omega
  | succ n ih =>
    intro h
    show sumN (updN g k x) n + updN g k x n + g k = sumN g n + g n + x
    by_cases y : k = n
    · subst y
      rw [updN_s, sumN_cg (g := updN g k x) (h := g) k (fun i hi => updN_n (by omega))]
      omega
    · have := ih (by omega)
      rw [updN_n (show n ≠ k from fun z => y z.symm)]
      omega
def wS (S : Nat → Bool) (i : Nat) : Bool := S (i / 8) && !S (i % 8)
def cutW (R : Nat → Nat) (S : Nat → Bool) : Nat := sumN (fun i => if wS S i = true then R i else 0) 64
theorem cutW_upd {R : Nat → Nat} {S : Nat → Bool} {k x : Nat} (hk : k < 64) : cutW (updN R k x) S + (if wS S k = true then R k else 0) = cutW R S + (if wS S k = true then x else 0) := by
  have e : (fun i => if wS S i = true then updN R k x i else 0) = updN (fun i => if wS S i = true then R i else 0) k (if wS S k = true then x else 0) := by
    funext i
    by_cases y : i = k
    · subst y; rw [updN_s, updN_s]
    · rw [updN_n y, updN_n y]
  unfold cutW
  rw [e]
  exact sumN_upd (g := fun i => if wS S i = true then R i else 0) 64 hk
def pushE (R : Nat → Nat) (b p m : Nat) : Nat → Nat := updN (updN R (8 * b + p) (R (8 * b + p) - m)) (8 * p + b) (R (8 * p + b) + m)
theorem wS_bp (S : Nat → Bool) {b p : Nat} (hp : p < 8) : wS S (8 * b + p) = (S b && !S p) := by
  unfold wS
  rw [show (8 * b + p) / 8 = b by omega, show (8 * b + p) % 8 = p by omega]
theorem cut_push {R : Nat → Nat} {S : Nat → Bool} {b p m : Nat} (hb : b < 8) (hp : p < 8) (hne : b ≠ p) (hm : m ≤ R (8 * b + p)) : cutW (pushE R b p m) S + (if S b = true then m else 0) = cutW R S + (if S p = true then m else 0) := by
  have h1 := cutW_upd (R := R) (S := S) (k := 8 * b + p) (x := R (8 * b + p) - m) (by omega)
  have h2 := cutW_upd (R := updN R (8 * b + p) (R (8 * b + p) - m)) (S := S) (k := 8 * p + b) (x := R (8 * p + b) + m) (by omega)
  rw [updN_n (show 8 * p + b ≠ 8 * b + p by omega)] at h2
  rw [wS_bp S hp] at h1
  rw [wS_bp S hb] at h2
  unfold pushE
  cases hSb : S b <;> cases hSp : S p <;> simp [hSb, hSp] at h1 h2 ⊢ <;> omega
theorem pushE_sum {R : Nat → Nat} {b p m : Nat} (hb : b < 8) (hp : p < 8) (hne : b ≠ p) (hm : m ≤ R (8 * b + p)) {u v : Nat} (hu : u < 8) (hv : v < 8) : pushE R b p m (8 * u + v) + pushE R b p m (8 * v + u) = R (8 * u + v) + R (8 * v + u) := by
  unfold pushE updN
  repeat' split
  all_goals (first | omega | skip)
  · rename_i c0 c1 c2
    rw [c0, c2]
    omega
  · rename_i c0 c1 c2
    rw [c1, c2]
    omega
/-- a way without a place twice -/
def PO (adj : Nat → Nat → Bool) (x : Nat → Nat) (D s q : Nat) : Prop := x 0 = q ∧ x D = s ∧ (∀ j, j ≤ D → x j < 8) ∧ (∀ i j, i < j → j ≤ D → x i ≠ x j) ∧ ∀ j, j < D → adj (x (j + 1)) (x j) = true
def pushP (R : Nat → Nat) (x : Nat → Nat) (m : Nat) : Nat → Nat → Nat
  | 0 => R
  | j + 1 => pushE (pushP R x m j) (x (j + 1)) (x j) m
theorem pushP_keep {adj : Nat → Nat → Bool} {R x : Nat → Nat} {D s q m : Nat} (h : PO adj x D s q) {i : Nat} (hi : i < D) : ∀ j, j ≤ i → pushP R x m j (8 * x (i + 1) + x i) = R (8 * x (i + 1) + x i) := by
  intro j
  induction j with
  | zero => intro _; rfl
  | succ j ih =>
    intro hj
    have a1 := h.2.2.1 i (by omega)
    have a2 := h.2.2.1 j (by omega)
    have a3 := h.2.2.1 (i + 1) (by omega)
    have a4 := h.2.2.1 (j + 1) (by omega)
    have b1 := h.2.2.2.1 j i (by omega) (by omega)
    have b2 := h.2.2.2.1 j (i + 1) (by omega) (by omega)
    show updN (updN _ _ _) _ _ _ = _
    rw [updN_n (by omega), updN_n (by omega)]
    exact ih (by omega)
theorem pushP_cut {adj : Nat → Nat → Bool} {R x : Nat → Nat} {D s q m : Nat} (h : PO adj x D s q) (hm : ∀ j, j < D → m ≤ R (8 * x (j + 1) + x j)) (S : Nat → Bool) : ∀ j, j ≤ D → cutW (pushP R x m j) S + (if S (x j) = true then m else 0) = cutW R S + (if S (x 0) = true then m else 0) := by
  intro j
  induction j with
  | zero => intro _; rfl
  | succ j ih =>
    intro hj
    have h1 := ih (by omega)
    have h2 := cut_push (R := pushP R x m j) (S := S) (b := x (j + 1)) (p := x j) (m := m) (h.2.2.1 _ (by omega)) (h.2.2.1 _ (by omega)) (fun z => h.2.2.2.1 j (j + 1) (by omega) (by omega) z.symm) (by rw [pushP_keep h (by omega) j (Nat.le_refl _)]; exact hm j (by omega))
    show cutW (pushE _ _ _ _) S + _ = _
    omega
theorem pushP_sum {adj : Nat → Nat → Bool} {R x : Nat → Nat} {D s q m : Nat} (h : PO adj x D s q) (hm : ∀ j, j < D → m ≤ R (8 * x (j + 1) + x j)) : ∀ j, j ≤ D → ∀ u v, u < 8 → v < 8 → pushP R x m j (8 * u + v) + pushP R x m j (8 * v + u) = R (8 * u + v) + R (8 * v + u) := by
  intro j
  induction j with
  | zero => intro _ u v _ _; rfl
  | succ j ih =>
    intro hj u v hu hv
    rw [← ih (by omega) u v hu hv]
    exact pushE_sum (h.2.2.1 _ (by omega)) (h.2.2.1 _ (by omega)) (fun z => h.2.2.2.1 j (j + 1) (by omega) (by omega) z.symm) (by rw [pushP_keep h (by omega) j (Nat.le_refl _)]; exact hm j (by omega)) hu hv
/-- what is left of the room, n having gone -/
def FI (C : Nat → Nat) (e q : Nat) (R : Nat → Nat) (n : Nat) : Prop := (∀ u v, u < 8 → v < 8 → R (8 * u + v) + R (8 * v + u) ≤ 18) ∧ ∀ S : Nat → Bool, S e = true → S q = false → cutW R S + n = cutW C S
theorem FI.le {C R : Nat → Nat} {e q n : Nat} (h : FI C e q R n) {i : Nat} (hi : i < 64) : R i ≤ 18 := by
  have := h.1 (i / 8) (i % 8) (by omega) (by omega)
  rw [show 8 * (i / 8) + i % 8 = i by omega] at this
  omega
theorem FI.push {adj : Nat → Nat → Bool} {C R x : Nat → Nat} {D e q n m : Nat} (h : FI C e q R n) (hp : PO adj x D e q) (hm : ∀ j, j < D → m ≤ R (8 * x (j + 1) + x j)) : FI C e q (pushP R x m D) (n + m) := by
  refine ⟨fun u v hu hv => by rw [pushP_sum hp hm D (Nat.le_refl _) u v hu hv]; exact h.1 u v hu hv, fun S hs hq => ?_⟩
  have h1 := pushP_cut hp hm S D (Nat.le_refl _)
  rw [hp.1, hp.2.1, hs, hq, if_pos rfl, if_neg (by decide)] at h1
  have h2 := h.2 S hs hq
  omega
theorem cut_one : ∀ e, e < 8 → cntP (wS (fun v => decide (v = e))) 64 = 7 := by decide +kernel
theorem cutW_le {C : Nat → Nat} (hC : ∀ i, i < 64 → C i ≤ 9) (S : Nat → Bool) : ∀ n, n ≤ 64 → sumN (fun i => if wS S i = true then C i else 0) n ≤ 9 * cntP (wS S) n := by
  intro n
  induction n with
  | zero => intro _; exact Nat.le_refl _
  | succ n ih =>
    intro hn
    have h1 := ih (by omega)
    have h2 := hC n (by omega)
    show sumN _ n + (if wS S n = true then C n else 0) ≤ 9 * (cntP (wS S) n + (if wS S n = true then 1 else 0))
    split <;> omega
theorem FI.n63 {C R : Nat → Nat} {e q n : Nat} (h : FI C e q R n) (hC : ∀ i, i < 64 → C i ≤ 9) (he : e < 8) (hq : q < 8) (hne : e ≠ q) : n ≤ 63 := by
  have h1 := h.2 (fun v => decide (v = e)) (by simp) (by simp [Ne.symm hne])
  have h2 := cutW_le hC (fun v => decide (v = e)) 64 (Nat.le_refl _)
  have h3 : cutW C (fun v => decide (v = e)) ≤ 9 * cntP (wS (fun v => decide (v = e))) 64 := h2
  rw [cut_one e he] at h3
  omega
def isFl (C : Nat → Nat) (e q n : Nat) : Prop := (∃ S : Nat → Bool, S e = true ∧ S q = false ∧ cutW C S = n) ∧ ∀ S : Nat → Bool, S e = true → S q = false → n ≤ cutW C S
theorem isFl.uq {C : Nat → Nat} {e q n m : Nat} (h : isFl C e q n) (h' : isFl C e q m) : n = m := by
  obtain ⟨⟨S, a1, a2, a3⟩, a4⟩ := h
  obtain ⟨⟨T, b1, b2, b3⟩, b4⟩ := h'
  have := a4 T b1 b2
  have := b4 S a1 a2
  omega
def adjR (R : Nat → Nat) (u v : Nat) : Bool := decide (R (8 * u + v) ≠ 0)
theorem FI.done {C R : Nat → Nat} {e q n : Nat} (h : FI C e q R n) {t : BS} (hB : BI (adjR R) e t) (hc : ∀ u v, t.1 u ≠ 0 → v < 8 → adjR R u v = true → t.1 v ≠ 0) (hz : t.1 q = 0) : isFl C e q n := by
  refine ⟨⟨fun v => decide (t.1 v ≠ 0), ?_, ?_, ?_⟩, fun S hs hq => ?_⟩
  · rw [decide_eq_true_iff, hB.1]; omega
  · rw [decide_eq_false_iff_not]; exact fun z => z hz
  · have h2 := h.2 (fun v => decide (t.1 v ≠ 0)) (by rw [decide_eq_true_iff, hB.1]; omega) (by rw [decide_eq_false_iff_not]; exact fun z => z hz)
    have h3 : cutW R (fun v => decide (t.1 v ≠ 0)) = 0 := by
      unfold cutW
      rw [sumN_cg (h := fun _ => 0) 64 (fun i hi => ?_), sumN_zero]
      by_cases c : wS (fun v => decide (t.1 v ≠ 0)) i = true
      · rw [if_pos c]
        unfold wS at c
        rw [Bool.and_eq_true, decide_eq_true_iff, Bool.not_eq_true', decide_eq_false_iff_not, Classical.not_not] at c
        have := hc (i / 8) (i % 8) c.1 (by omega)
        by_cases z : R i = 0
        · exact z
        · exact absurd c.2 (this (by unfold adjR; rw [show 8 * (i / 8) + i % 8 = i by omega]; exact decide_eq_true z))
      · rw [if_neg c]
    omega
  · have := h.2 S hs hq
    omega
def itN (b : Nat → Nat) (q : Nat) : Nat → Nat
  | 0 => q
  | j + 1 => b (itN b q j)
theorem bi_PO {adj : Nat → Nat → Bool} {s q D : Nat} {t : BS} (hB : BI adj s t) (hf : t.1 q = D + 1) : PO adj (itN t.2.1 q) D s q ∧ ∀ j, j ≤ D → t.1 (itN t.2.1 q j) + j = D + 1 := by
  obtain ⟨b1, b2, b3, b4, b5, b6⟩ := hB
  have lv : ∀ j, j ≤ D → t.1 (itN t.2.1 q j) + j = D + 1 := by
    intro j
    induction j with
    | zero => intro _; exact hf
    | succ j ih =>
      intro hj
      have h1 := ih (by omega)
      rcases b6 (itN t.2.1 q j) (by omega) with c | ⟨c0, c1, c2, c3, c4⟩
      · rw [c.1, b1] at h1; omega
      · show t.1 (t.2.1 (itN t.2.1 q j)) + (j + 1) = D + 1
        omega
  refine ⟨⟨rfl, ?_, fun j hj => (b2 _ (by have := lv j hj; omega)).1, fun i j hij hj z => ?_, fun j hj => ?_⟩, lv⟩
  · have h1 := lv D (Nat.le_refl _)
    rcases b6 (itN t.2.1 q D) (by omega) with c | ⟨c0, c1, c2, c3, c4⟩
    · exact c.1
    · omega
  · have h1 := lv i (by omega)
    have h2 := lv j hj
    rw [z] at h1
    omega
  · have h1 := lv j (by omega)
    rcases b6 (itN t.2.1 q j) (by omega) with c | ⟨c0, c1, c2, c3, c4⟩
    · rw [c.1, b1] at h1; omega
    · exact c4
