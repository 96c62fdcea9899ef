/-! ===== the cheapest way ===== -/
def mnN (a b : Nat) : Nat := if a < b then a else b
theorem mnN_l (a b : Nat) : mnN a b ≤ a := by unfold mnN; split <;> omega
theorem mnN_r (a b : Nat) : mnN a b ≤ b := by unfold mnN; split <;> omega
theorem mnN_or (a b : Nat) : mnN a b = a ∨ mnN a b = b := by unfold mnN; split; exact Or.inl rfl; exact Or.inr rfl
theorem mnN_comm (a b : Nat) : mnN a b = mnN b a := by unfold mnN; split <;> split <;> omega
def lpI (F P A : Nat → Nat) (fr m : Nat) : Nat → Nat
  | 0 => 1000000
  | i + 1 => if fr ≤ i then mnN (A (m - F i) + P i) (lpI F P A fr m i) else lpI F P A fr m i
def lpA (F P : Nat → Nat) (n fr : Nat) : Nat → Nat → Nat
  | 0 => fun _ => 0
  | m + 1 => fun j => if j = m + 1 then lpI F P (lpA F P n fr m) fr (m + 1) n else lpA F P n fr m j
def L (F P : Nat → Nat) (n k m : Nat) : Nat := lpA F P n k m m
theorem lpA_le (F P : Nat → Nat) (n k : Nat) : ∀ M j, j ≤ M → lpA F P n k M j = L F P n k j := by
  intro M
  induction M with
  | zero => intro j hj; rw [show j = 0 by omega]; rfl
  | succ M ih =>
    intro j hj
    by_cases y : j = M + 1
    · rw [y]; rfl
    · have e : lpA F P n k (M + 1) j = lpA F P n k M j := if_neg y
      rw [e]
      exact ih j (by omega)
theorem lpI_cg {F P A B : Nat → Nat} {fr m : Nat} : ∀ n, (∀ i, i < n → A (m - F i) = B (m - F i)) → lpI F P A fr m n = lpI F P B fr m n := by
  intro n
  induction n with
  | zero => intro _; rfl
  | succ n ih =>
    intro h
    show (if fr ≤ n then mnN (A (m - F n) + P n) (lpI F P A fr m n) else lpI F P A fr m n) = (if fr ≤ n then mnN (B (m - F n) + P n) (lpI F P B fr m n) else lpI F P B fr m n)
    rw [ih (fun i hi => h i (by omega)), h n (by omega)]
theorem L_0 (F P : Nat → Nat) (n k : Nat) : L F P n k 0 = 0 := rfl
theorem L_succ {F P : Nat → Nat} {n k : Nat} (hF : ∀ i, i < n → 1 ≤ F i) (m : Nat) : L F P n k (m + 1) = lpI F P (L F P n k) k (m + 1) n := by
  show (if m + 1 = m + 1 then lpI F P (lpA F P n k m) k (m + 1) n else lpA F P n k m (m + 1)) = _
  rw [if_pos rfl]
  exact lpI_cg n (fun i hi => lpA_le F P n k m _ (by have := hF i hi; omega))
theorem lpI_far (F P A : Nat → Nat) (fr m : Nat) : ∀ n, lpI F P A fr m n ≤ 1000000 := by
  intro n
  induction n with
  | zero => exact Nat.le_refl _
  | succ n ih =>
    show (if fr ≤ n then mnN (A (m - F n) + P n) (lpI F P A fr m n) else lpI F P A fr m n) ≤ _
    split
    · exact Nat.le_trans (mnN_r _ _) ih
    · exact ih
theorem lpI_le {F P A : Nat → Nat} {fr m : Nat} : ∀ n j, fr ≤ j → j < n → lpI F P A fr m n ≤ A (m - F j) + P j := by
  intro n
  induction n with
  | zero => intro j _ h; omega
  | succ n ih =>
    intro j hj hn
    show (if fr ≤ n then mnN (A (m - F n) + P n) (lpI F P A fr m n) else lpI F P A fr m n) ≤ _
    by_cases y : j = n
    · subst y
      rw [if_pos hj]
      exact mnN_l _ _
    · rw [if_pos (by omega)]
      exact Nat.le_trans (mnN_r _ _) (ih j hj (by omega))
theorem lpI_or {F P A : Nat → Nat} {fr m : Nat} : ∀ n, lpI F P A fr m n = 1000000 ∨ ∃ j, fr ≤ j ∧ j < n ∧ lpI F P A fr m n = A (m - F j) + P j := by
  intro n
  induction n with
  | zero => exact Or.inl rfl
  | succ n ih =>
    by_cases y : fr ≤ n
    · have e : lpI F P A fr m (n + 1) = mnN (A (m - F n) + P n) (lpI F P A fr m n) := if_pos y
      rw [e]
      rcases mnN_or (A (m - F n) + P n) (lpI F P A fr m n) with h | h
      · exact Or.inr ⟨n, y, by omega, h⟩
      · rw [h]
        rcases ih with z | ⟨j, j1, j2, j3⟩
        · exact Or.inl z
        · exact Or.inr ⟨j, j1, by omega, j3⟩
    · have e : lpI F P A fr m (n + 1) = lpI F P A fr m n := if_neg y
      rw [e]
      rcases ih with z | ⟨j, j1, j2, j3⟩
      · exact Or.inl z
      · exact Or.inr ⟨j, j1, by omega, j3⟩
theorem L_far {F P : Nat → Nat} {n k : Nat} (hF : ∀ i, i < n → 1 ≤ F i) (m : Nat) : L F P n k m ≤ 1000000 := by
  cases m with
  | zero => rw [L_0]; omega
  | succ m => rw [L_succ hF]; exact lpI_far _ _ _ _ _ _
theorem L_le {F P : Nat → Nat} {n k : Nat} (hF : ∀ i, i < n → 1 ≤ F i) (m : Nat) {j : Nat} (h1 : k ≤ j) (h2 : j < n) : L F P n k (m + 1) ≤ L F P n k (m + 1 - F j) + P j := by
  rw [L_succ hF]
  exact lpI_le n j h1 h2
theorem L_or {F P : Nat → Nat} {n k : Nat} (hF : ∀ i, i < n → 1 ≤ F i) (m : Nat) : L F P n k (m + 1) = 1000000 ∨ ∃ j, k ≤ j ∧ j < n ∧ L F P n k (m + 1) = L F P n k (m + 1 - F j) + P j := by
  rw [L_succ hF]
  exact lpI_or n
theorem L_mono {F P : Nat → Nat} {n k : Nat} (hF : ∀ i, i < n → 1 ≤ F i) : ∀ m, L F P n k m ≤ L F P n (k + 1) m := by
  intro m
  induction m using Nat.strongRecOn with
  | _ m ih =>
    cases m with
    | zero => exact Nat.le_refl _
    | succ m =>
      rcases L_or (k := k + 1) hF m (P := P) with z | ⟨j, j1, j2, j3⟩
      · rw [z]; exact L_far hF _
      · have f1 := hF j j2
        have a := ih (m + 1 - F j) (by omega)
        have b := L_le (P := P) hF m (k := k) (j := j) (by omega) j2
        omega
theorem L_rec {F P : Nat → Nat} {n k : Nat} (hF : ∀ i, i < n → 1 ≤ F i) (hk : k < n) : ∀ m, L F P n k (m + 1) = mnN (L F P n (k + 1) (m + 1)) (P k + L F P n k (m + 1 - F k)) := by
  intro m
  induction m using Nat.strongRecOn with
  | _ m ih =>
    have up1 : L F P n k (m + 1) ≤ L F P n (k + 1) (m + 1) := L_mono hF _
    have up2 : L F P n k (m + 1) ≤ P k + L F P n k (m + 1 - F k) := by
      have := L_le (P := P) hF m (k := k) (Nat.le_refl _) hk
      omega
    have low : L F P n (k + 1) (m + 1) ≤ L F P n k (m + 1) ∨ P k + L F P n k (m + 1 - F k) ≤ L F P n k (m + 1) := by
      rcases L_or (k := k) hF m (P := P) with z | ⟨j, j1, j2, j3⟩
      · rw [z]; exact Or.inl (L_far hF _)
      · by_cases y : j = k
        · subst y; exact Or.inr (by omega)
        · have f1 := hF j j2
          have fk := hF k hk
          have b := L_le (P := P) hF m (k := k + 1) (j := j) (by omega) j2
          rcases Nat.eq_zero_or_pos (m + 1 - F j) with w | w
          · rw [w, L_0] at j3 b
            exact Or.inl (by omega)
          · obtain ⟨m', hm'⟩ : ∃ m', m + 1 - F j = m' + 1 := ⟨m + 1 - F j - 1, by omega⟩
            have r := ih m' (by omega)
            rw [hm'] at j3 b
            rcases mnN_or (L F P n (k + 1) (m' + 1)) (P k + L F P n k (m' + 1 - F k)) with h | h
            · rw [h] at r
              exact Or.inl (by omega)
            · rw [h] at r
              have e : m' + 1 - F k = m + 1 - F k - F j := by omega
              rw [e] at r
              rcases Nat.eq_zero_or_pos (m + 1 - F k) with u | u
              · exact Or.inr (by rw [u, L_0]; omega)
              · obtain ⟨m2, hm2⟩ : ∃ m2, m + 1 - F k = m2 + 1 := ⟨m + 1 - F k - 1, by omega⟩
                have c := L_le (P := P) hF m2 (k := k) (j := j) (by omega) j2
                rw [hm2] at r ⊢
                exact Or.inr (by omega)
    have a := mnN_l (L F P n (k + 1) (m + 1)) (P k + L F P n k (m + 1 - F k))
    have b := mnN_r (L F P n (k + 1) (m + 1)) (P k + L F P n k (m + 1 - F k))
    rcases mnN_or (L F P n (k + 1) (m + 1)) (P k + L F P n k (m + 1 - F k)) with h | h <;> rw [h] at a b ⊢ <;> omega
theorem L_none {F P : Nat → Nat} {n : Nat} (hF : ∀ i, i < n → 1 ≤ F i) (m : Nat) : L F P n n (m + 1) = 1000000 := by
  rcases L_or (k := n) hF m (P := P) with z | ⟨j, j1, j2, _⟩
  · exact z
  · omega
/-- how often the k-th, as long as it stays cheapest -/
def grT (F P : Nat → Nat) (n k : Nat) : Nat → Nat → Nat
  | 0, _ => 0
  | fu + 1, x => if 0 < x ∧ P k + L F P n k (x - F k) = L F P n k x then grT F P n k fu (x - F k) + 1 else 0
theorem grT_inv {F P : Nat → Nat} {n k : Nat} (hF : 1 ≤ F k) : ∀ fu x, x ≤ fu → grT F P n k fu x ≤ x ∧ L F P n k x = grT F P n k fu x * P k + L F P n k (x - grT F P n k fu x * F k) ∧ (x - grT F P n k fu x * F k = 0 ∨ P k + L F P n k (x - grT F P n k fu x * F k - F k) ≠ L F P n k (x - grT F P n k fu x * F k)) := by
  intro fu
  induction fu with
  | zero =>
    intro x hx
    have : x = 0 := by omega
    subst this
    exact ⟨Nat.le_refl _, by simp [grT], Or.inl (by simp)⟩
  | succ fu ih =>
    intro x hx
    by_cases y : 0 < x ∧ P k + L F P n k (x - F k) = L F P n k x
    · have e : grT F P n k (fu + 1) x = grT F P n k fu (x - F k) + 1 := if_pos y
      rw [e]
      obtain ⟨q1, q2, q3⟩ := ih (x - F k) (by omega)
      have e2 : x - (grT F P n k fu (x - F k) + 1) * F k = x - F k - grT F P n k fu (x - F k) * F k := by rw [Nat.succ_mul]; omega
      rw [e2]
      refine ⟨by omega, ?_, q3⟩
      rw [Nat.succ_mul, ← y.2]
      omega
    · have e : grT F P n k (fu + 1) x = 0 := if_neg y
      rw [e, Nat.zero_mul, Nat.zero_mul, Nat.sub_zero]
      refine ⟨Nat.zero_le _, by omega, ?_⟩
      rcases Nat.eq_zero_or_pos x with z | z
      · exact Or.inl z
      · exact Or.inr (fun h => y ⟨z, h⟩)
theorem L_many {F P : Nat → Nat} {n k : Nat} (hF : ∀ i, i < n → 1 ≤ F i) (hk : k < n) : ∀ q x, L F P n k x ≤ q * P k + L F P n k (x - q * F k) := by
  intro q
  induction q with
  | zero => intro x; simp
  | succ q ih =>
    intro x
    cases x with
    | zero => rw [L_0]; omega
    | succ x =>
      have a := L_le (P := P) hF x (k := k) (Nat.le_refl _) hk
      have b := ih (x + 1 - F k)
      have e : x + 1 - (q + 1) * F k = x + 1 - F k - q * F k := by rw [Nat.succ_mul]; omega
      rw [e, Nat.succ_mul]
      omega
theorem grT_eq {F P : Nat → Nat} {n k x : Nat} (hF : ∀ i, i < n → 1 ≤ F i) (hk : k < n) : L F P n k (x - grT F P n k x x * F k) = L F P n (k + 1) (x - grT F P n k x x * F k) := by
  obtain ⟨q1, q2, q3⟩ := grT_inv (P := P) (n := n) (hF k hk) x x (Nat.le_refl _)
  generalize x - grT F P n k x x * F k = y at q3
  cases y with
  | zero => rfl
  | succ y =>
    have r := L_rec (P := P) hF hk y
    rcases mnN_or (L F P n (k + 1) (y + 1)) (P k + L F P n k (y + 1 - F k)) with h | h
    · rw [h] at r; exact r
    · rw [h] at r
      rcases q3 with z | z
      · omega
      · exact absurd r.symm z
theorem grT_most {F P : Nat → Nat} {n k x : Nat} (hF : ∀ i, i < n → 1 ≤ F i) (hP : 1 ≤ P k) (hk : k < n) {o : Nat} (ho : grT F P n k x x < o) : o * P k + L F P n (k + 1) (x - o * F k) ≠ L F P n k x := by
  obtain ⟨q1, q2, q3⟩ := grT_inv (P := P) (n := n) (hF k hk) x x (Nat.le_refl _)
  intro h
  generalize ht : grT F P n k x x = t at *
  obtain ⟨q, hq⟩ : ∃ q, o = t + 1 + q := ⟨o - t - 1, by omega⟩
  subst hq
  have e : x - (t + 1 + q) * F k = x - t * F k - F k - q * F k := by rw [Nat.add_mul, Nat.succ_mul]; omega
  have e2 : (t + 1 + q) * P k = t * P k + P k + q * P k := by rw [Nat.add_mul, Nat.succ_mul]
  rw [e, e2] at h
  have mo := L_mono (F := F) (P := P) (n := n) (k := k) hF (x - t * F k - F k - q * F k)
  have ma := L_many (P := P) hF hk q (x - t * F k - F k)
  rcases q3 with z | z
  · rw [z, L_0] at q2
    omega
  · apply z
    generalize hy : x - t * F k = y at *
    cases y with
    | zero =>
      rw [L_0] at q2
      omega
    | succ y =>
      have a := L_le (P := P) hF y (k := k) (Nat.le_refl _) hk
      omega
theorem grT_hit {F P : Nat → Nat} {n k x : Nat} (hF : ∀ i, i < n → 1 ≤ F i) (hk : k < n) : grT F P n k x x * P k + L F P n (k + 1) (x - grT F P n k x x * F k) = L F P n k x := by
  have := (grT_inv (P := P) (n := n) (hF k hk) x x (Nat.le_refl _)).2.1
  rw [grT_eq hF hk] at this
  exact this.symm
/-- what is left before the k-th -/
def lft (F P : Nat → Nat) (n mi : Nat) : Nat → Nat
  | 0 => mi
  | k + 1 => lft F P n mi k - grT F P n k (lft F P n mi k) (lft F P n mi k) * F k
theorem lft_le (F P : Nat → Nat) (n mi : Nat) : ∀ k, lft F P n mi k ≤ mi := by
  intro k
  induction k with
  | zero => exact Nat.le_refl _
  | succ k ih =>
    show lft F P n mi k - _ ≤ mi
    omega
/-! words -/
theorem mx0 {a b : Nat} (ha : a < 2 ^ 30) (hb : b < 2 ^ 30) : (if 0 < nI a - nI b then nI a - nI b else 0) = nI (a - b) := by
  rcases Nat.lt_or_ge b a with y | y
  · rw [pk_sub (by omega), if_pos (show (0 : Int32) < nI (a - b) from nI_lt (a := 0) (b := a - b) (by omega) (by omega))]
  · rw [show a - b = 0 by omega]
    rcases Nat.lt_or_ge a b with z | z
    · rw [if_neg]
      · rfl
      · intro h
        have h1 := Int32.lt_iff_toInt_lt.mp h
        have h2 := Int32.lt_iff_toInt_lt.mp (pk_sneg hb z)
        omega
    · rw [pk_sub (by omega), show a - b = 0 by omega]
      rfl
theorem mx0' {a b : Nat} (ha : a < 2 ^ 30) (hb : b < 2 ^ 30) : mxI 0 (nI a - nI b) = nI (a - b) := by
  unfold mxI
  rcases Nat.lt_or_ge a b with y | y
  · rw [if_pos (pk_sneg hb y), show a - b = 0 by omega]; rfl
  · rw [pk_sub y, if_neg (nI_pos (by omega))]
theorem mn_if {a b : Nat} (ha : a < 2 ^ 31) (hb : b < 2 ^ 31) : (if nI a < nI b then nI a else nI b) = nI (mnN a b) := by
  unfold mnN
  by_cases y : a < b
  · rw [if_pos y, if_pos (nI_lt y hb)]
  · rw [if_neg y, if_neg (nI_nlt (by omega) ha)]
theorem mn_mn {a b : Nat} (ha : a < 2 ^ 31) (hb : b < 2 ^ 31) : mnI (nI a) (nI b) = nI (mnN a b) := mn_if ha hb
