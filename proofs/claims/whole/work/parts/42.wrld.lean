/-! ===== counting ===== -/
def sumN (g : Nat → Nat) : Nat → Nat
  | 0 => 0
  | n + 1 => sumN g n + g n
theorem sumN_cg {g h : Nat → Nat} : ∀ n, (∀ i, i < n → g i = h i) → sumN g n = sumN h n := by
  intro n
  induction n with
  | zero => intro _; rfl
  | succ n ih => intro H; show sumN g n + g n = sumN h n + h n; rw [ih (fun i hi => H i (by omega)), H n (by omega)]
theorem sumN_list (g : Nat → Nat) : ∀ n, ((List.range n).map g).sum = sumN g n := by
  intro n
  induction n with
  | zero => rfl
  | succ n ih => rw [List.range_succ, List.map_append, List.sum_append, ih]; simp [sumN]
theorem sumN_le {g : Nat → Nat} {B : Nat} : ∀ n, (∀ i, i < n → g i ≤ B) → sumN g n ≤ B * n := by
  intro n
  induction n with
  | zero => intro _; exact Nat.le_refl _
  | succ n ih =>
    intro H
    have h1 := ih (fun i hi => H i (by omega))
    have h2 := H n (by omega)
    show sumN g n + g n ≤ _
    rw [Nat.mul_succ]
    omega
theorem sumN_add (g h : Nat → Nat) : ∀ n, sumN (fun i => g i + h i) n = sumN g n + sumN h n := by
  intro n
  induction n with
  | zero => rfl
  | succ n ih => show sumN _ n + (g n + h n) = (sumN g n + g n) + (sumN h n + h n); rw [ih]; omega
theorem sumN_zero : ∀ n, sumN (fun _ => 0) n = 0 := by
  intro n
  induction n with
  | zero => rfl
  | succ n ih => show sumN _ n + 0 = 0; rw [ih]
theorem sumN_swap (g : Nat → Nat → Nat) (m : Nat) : ∀ n, sumN (fun i => sumN (fun j => g i j) m) n = sumN (fun j => sumN (fun i => g i j) n) m := by
  intro n
  induction n with
  | zero => exact (sumN_zero m).symm
  | succ n ih =>
    show sumN _ n + sumN (fun j => g n j) m = sumN (fun j => sumN (fun i => g i j) n + g n j) m
    rw [sumN_add, ih]
/-- one place alone counts -/
theorem sumN_one {g : Nat → Nat} {k : Nat} : ∀ n, k < n → (∀ i, i < n → i ≠ k → g i = 0) → sumN g n = g k := by
  intro n
  induction n with
  | zero => intro h; omega
  | succ n ih =>
    intro h H
    show sumN g n + g n = g k
    by_cases y : k = n
    · subst y
      rw [sumN_cg k (h := fun _ => 0) (fun i hi => H i (by omega) (by omega)), sumN_zero]
      omega
    · rw [ih (by omega) (fun i hi hk => H i (by omega) hk), H n (by omega) (by omega), Nat.add_zero]
def cntP (p : Nat → Bool) : Nat → Nat
  | 0 => 0
  | n + 1 => cntP p n + (if p n = true then 1 else 0)
theorem cntP_list (p : Nat → Bool) : ∀ n, ((List.range n).filter p).length = cntP p n := by
  intro n
  induction n with
  | zero => rfl
  | succ n ih => rw [List.range_succ, List.filter_append, List.length_append, ih]; by_cases h : p n = true <;> simp [cntP, h]
theorem cntP_cg {p q : Nat → Bool} : ∀ n, (∀ i, i < n → p i = q i) → cntP p n = cntP q n := by
  intro n
  induction n with
  | zero => intro _; rfl
  | succ n ih => intro H; show cntP p n + _ = cntP q n + _; rw [ih (fun i hi => H i (by omega)), H n (by omega)]
theorem cntP_le (p : Nat → Bool) : ∀ n, cntP p n ≤ n := by
  intro n
  induction n with
  | zero => exact Nat.le_refl _
  | succ n ih => show cntP p n + _ ≤ _; split <;> omega
theorem cntP_sum (p : Nat → Bool) : ∀ n, cntP p n = sumN (fun i => if p i = true then 1 else 0) n := by
  intro n
  induction n with
  | zero => rfl
  | succ n ih => show cntP p n + _ = sumN _ n + _; rw [ih]
/-! ===== circuits in use ===== -/
def edg (ro : Nat → Int32) (e q i k : Nat) : Bool := decide ((ro (8 * i + k) = nI e ∧ ro (8 * i + k + 1) = nI q) ∨ (ro (8 * i + k) = nI q ∧ ro (8 * i + k + 1) = nI e))
def cuI (le tr ro : Nat → Int32) (e q i : Nat) : Nat := if le i = 0 then 0 else cntP (edg ro e q i) (tr i).toNatClampNeg
theorem cntU_eq (le tr ro : Nat → Int32) (e q : Nat) : cntU le tr ro e q = sumN (cuI le tr ro e q) 20 := by
  unfold cntU
  rw [sumN_list]
  apply sumN_cg
  intro i _
  unfold cuI
  split
  · rfl
  · exact cntP_list _ _
def leR (a : Nat → Int32) (i : Nat) : Int32 := a (188 + i)
def trR (a : Nat → Int32) (i : Nat) : Int32 := a (208 + i)
def roR (a : Nat → Int32) (k : Nat) : Int32 := a (228 + k)
def cntR (a : Nat → Int32) (e q : Nat) : Nat := cntU (leR a) (trR a) (roR a) e q
/-- what a row of the reference keeps to -/
def rOk (a : Nat → Int32) : Prop := ∀ i, i < 20 → isN (a (188 + i)) 99 ∧ (a (188 + i) ≠ 0 → isN (a (208 + i)) 7 ∧ isN (a (128 + i)) 15 ∧ isN (a (148 + i)) 15 ∧ a (128 + i) ≠ a (148 + i))
theorem RW.rOk {f : FF} {w a : Nat} (h : RW f w a) : rOk (f a) := by
  intro i hi
  obtain ⟨h1, h2, h3⟩ := h.2.2.1 i hi
  refine ⟨by rw [← h1]; exact h2, fun hz => ?_⟩
  rw [← h1] at hz
  obtain ⟨c1, c2, c3, c4, c5, c6, c7, c8, c9, c10, c11, c12, c13, c14, c15, c16⟩ := h3 hz
  rw [← c1, ← c3, ← c11]
  exact ⟨c12, c2, c4, c5⟩
theorem RW.cnt {f : FF} {w a : Nat} (h : RW f w a) (e q : Nat) : cntU (f (w + 9)) (f (w + 10)) (f (w + 11)) e q = cntR (f a) e q := by
  unfold cntR
  rw [cntU_eq, cntU_eq]
  apply sumN_cg
  intro i hi
  obtain ⟨h1, h2, h3⟩ := h.2.2.1 i hi
  have h1 : f (w + 9) i = leR (f a) i := h1
  unfold cuI
  rw [← h1]
  by_cases hz : f (w + 9) i = 0
  · rw [if_pos hz, if_pos hz]
  · rw [if_neg hz, if_neg hz]
    obtain ⟨c1, c2, c3, c4, c5, c6, c7, c8, c9, c10, c11, c12, c13, c14, c15, c16⟩ := h3 hz
    have c11 : f (w + 10) i = trR (f a) i := c11
    have c13 : ∀ k : Nat, (k : Int) ≤ (f (w + 10) i).toInt → f (w + 11) (8 * i + k) = f a (228 + 8 * i + k) ∧ isN (f (w + 11) (8 * i + k)) 7 := c13
    rw [← c11]
    apply cntP_cg
    intro k hk
    obtain ⟨t, ht, et⟩ := isN_nI c12 (by omega)
    have et : f (w + 10) i = nI t := et
    rw [et, nI_clamp (by omega)] at hk
    have e1 : f (w + 11) (8 * i + k) = roR (f a) (8 * i + k) := by
      rw [(c13 k (by rw [et, nI_toInt (by omega)]; omega)).1]
      unfold roR
      rw [Nat.add_assoc]
    have e2 : f (w + 11) (8 * i + k + 1) = roR (f a) (8 * i + k + 1) := by
      have := (c13 (k + 1) (by rw [et, nI_toInt (by omega)]; omega)).1
      rw [show 8 * i + k + 1 = 8 * i + (k + 1) by omega, this]
      unfold roR
      rw [Nat.add_assoc]
    unfold edg
    rw [e1, e2]
theorem cuI_le {a : Nat → Int32} (h : rOk a) (e q : Nat) {i : Nat} (hi : i < 20) : cuI (leR a) (trR a) (roR a) e q i ≤ 7 := by
  unfold cuI
  split
  · omega
  · rename_i hz
    have := cnN ((h i hi).2 hz).1
    exact Nat.le_trans (cntP_le _ _) this
theorem cntR_le {a : Nat → Int32} (h : rOk a) (e q : Nat) : cntR a e q ≤ 140 := by
  unfold cntR
  rw [cntU_eq]
  exact sumN_le 20 (fun i hi => cuI_le h e q hi)
theorem sp_usedBetween {G : GC} {d : Nat} {sw : Bool} {f : FF} {Q : QQ} {e q : Nat} (hr : rOk (f 83)) (hQ : Q (some (.int (nI (cntR (f 83) e q)))) sw f) : XP G mX11_usedBetween d 0 [.ref 82, .int (nI e), .int (nI q), .null, .null, .null, .null, .null] [] sw f Q := by
  have cS : cntR (f 83) e q = sumN (cuI (leR (f 83)) (trR (f 83)) (roR (f 83)) e q) 20 := cntU_eq _ _ _ _ _
  have outer : ∀ (l i : Nat) (v5 v6 v7 : Value), i + l = 20 → XP G mX11_usedBetween d 5 [.ref 82, .int (nI e), .int (nI q), .int (nI (sumN (cuI (leR (f 83)) (trR (f 83)) (roR (f 83)) e q) i)), .int (nI i), v5, v6, v7] [] sw f Q := by
    intro l
    induction l with
    | zero =>
      intro i v5 v6 v7 hi
      have e1 : i = 20 := by omega
      subst e1
      exact bX11_usedBetween_5 (fun _ => by rw [← cS]; exact hQ) (fun h => absurd (by decide) h)
    | succ l ih =>
      intro i v5 v6 v7 hi
      refine bX11_usedBetween_5 (fun h => absurd h (nI_ge (a := i) (b := 20) (by omega) (by omega))) (fun _ => ?_)
      have e188 : (188 : Int32) + nI i = nI (188 + i) := by rw [n_188, nI_add]
      have e208 : (208 : Int32) + nI i = nI (208 + i) := by rw [n_208, nI_add]
      have b208 : vp_in ((208 : Int32) + nI i) 391 := by rw [e208]; exact vp_in_nI (by omega) (by omega)
      have b188 : vp_in ((188 : Int32) + nI i) 391 := by rw [e188]; exact vp_in_nI (by omega) (by omega)
      obtain ⟨r1, r2⟩ := hr i (by omega)
      obtain ⟨L, hL, eL⟩ := isN_nI r1 (by omega)
      by_cases hz : f 83 (188 + i) = 0
      · have hc : sumN (cuI (leR (f 83)) (trR (f 83)) (roR (f 83)) e q) i = sumN (cuI (leR (f 83)) (trR (f 83)) (roR (f 83)) e q) (i + 1) := by
          show _ = sumN _ i + cuI _ _ _ e q i
          rw [show cuI (leR (f 83)) (trR (f 83)) (roR (f 83)) e q i = 0 from if_pos hz]
          omega
        have nx : ∀ v5 v6 v7 : Value, XP G mX11_usedBetween d 5 [.ref 82, .int (nI e), .int (nI q), .int (nI (sumN (cuI (leR (f 83)) (trR (f 83)) (roR (f 83)) e q) i)), .int (nI i + 1), v5, v6, v7] [] sw f Q := fun v5 v6 v7 => by
          rw [nI_1, hc]
          exact ih (i + 1) v5 v6 v7 (by omega)
        have hz2 : f 83 ((188 : Int32) + nI i).toNatClampNeg ≤ 0 := by rw [e188, nI_clamp (by omega), hz]; decide
        exact bX11_usedBetween_15 b208 (fun _ => nx _ _ _) (fun _ => b188) (fun _ _ => nx _ _ _) (fun _ h => absurd hz2 h) (fun _ h => absurd hz2 h) (fun _ h => absurd hz2 h) (fun _ h => absurd hz2 h) (fun _ h => absurd hz2 h) (fun _ h => absurd hz2 h) (fun _ h => absurd hz2 h) (fun _ h => absurd hz2 h) (fun _ h => absurd hz2 h)
      · obtain ⟨T, hT, eT⟩ := isN_nI (r2 hz).1 (by omega)
        have cT : cuI (leR (f 83)) (trR (f 83)) (roR (f 83)) e q i = cntP (edg (roR (f 83)) e q i) T := by
          unfold cuI
          rw [if_neg (show ¬ leR (f 83) i = 0 from hz)]
          show cntP _ (f 83 (208 + i)).toNatClampNeg = _
          rw [eT, nI_clamp (by omega)]
        have hz2 : ¬ f 83 ((188 : Int32) + nI i).toNatClampNeg ≤ 0 := by
          rw [e188, nI_clamp (by omega), eL]
          have : L ≠ 0 := fun z => hz (by rw [eL, z]; rfl)
          exact nI_nle (by omega) (by omega)
        have inner : ∀ (l2 k : Nat) (v6 v7 : Value), k + l2 = T → XP G mX11_usedBetween d 15 [.ref 82, .int (nI e), .int (nI q), .int (nI (sumN (cuI (leR (f 83)) (trR (f 83)) (roR (f 83)) e q) i + cntP (edg (roR (f 83)) e q i) k)), .int (nI i), .int (nI k), v6, v7] [] sw f Q := by
          intro l2
          induction l2 with
          | zero =>
            intro k v6 v7 hk
            have e1 : k = T := by omega
            subst e1
            have hle : f 83 ((208 : Int32) + nI i).toNatClampNeg ≤ nI k := by rw [e208, nI_clamp (by omega), eT]; exact nI_le (Nat.le_refl _) (by omega)
            refine bX11_usedBetween_15 b208 (fun _ => ?_) (fun h => absurd hle h) (fun h => absurd hle h) (fun h => absurd hle h) (fun h => absurd hle h) (fun h => absurd hle h) (fun h => absurd hle h) (fun h => absurd hle h) (fun h => absurd hle h) (fun h => absurd hle h) (fun h => absurd hle h) (fun h => absurd hle h)
            rw [nI_1, ← cT]
            exact ih (i + 1) _ v6 v7 (by omega)
          | succ l2 ih2 =>
            intro k v6 v7 hk
            have hle : ¬ f 83 ((208 : Int32) + nI i).toNatClampNeg ≤ nI k := by rw [e208, nI_clamp (by omega), eT]; exact nI_ge (by omega) (by omega)
            have eA : ((228 : Int32) + 8 * nI i) + nI k = nI (228 + (8 * i + k)) := by rw [n_228, n_8, pk_mul, nI_add, nI_add, Nat.add_assoc]
            have eB : (((228 : Int32) + 8 * nI i) + nI k) + 1 = nI (228 + (8 * i + k + 1)) := by rw [eA, nI_1]; rfl
            have bA : vp_in (((228 : Int32) + 8 * nI i) + nI k) 391 := by rw [eA]; exact vp_in_nI (by omega) (by omega)
            have bB : vp_in ((((228 : Int32) + 8 * nI i) + nI k) + 1) 391 := by rw [eB]; exact vp_in_nI (by omega) (by omega)
            have vA : f 83 (((228 : Int32) + 8 * nI i) + nI k).toNatClampNeg = roR (f 83) (8 * i + k) := by rw [eA, nI_clamp (by omega)]; rfl
            have vB : f 83 ((((228 : Int32) + 8 * nI i) + nI k) + 1).toNatClampNeg = roR (f 83) (8 * i + k + 1) := by rw [eB, nI_clamp (by omega)]; rfl
            have goY : ((f 83 (((228 : Int32) + 8 * nI i) + nI k).toNatClampNeg = nI e ∧ f 83 ((((228 : Int32) + 8 * nI i) + nI k) + 1).toNatClampNeg = nI q) ∨ (f 83 (((228 : Int32) + 8 * nI i) + nI k).toNatClampNeg = nI q ∧ f 83 ((((228 : Int32) + 8 * nI i) + nI k) + 1).toNatClampNeg = nI e)) → ∀ v v' : Value, XP G mX11_usedBetween d 15 [.ref 82, .int (nI e), .int (nI q), .int (nI (sumN (cuI (leR (f 83)) (trR (f 83)) (roR (f 83)) e q) i + cntP (edg (roR (f 83)) e q i) k) + 1), .int (nI i), .int (nI k + 1), v, v'] [] sw f Q := by
              intro h v v'
              rw [vA, vB] at h
              have : cntP (edg (roR (f 83)) e q i) (k + 1) = cntP (edg (roR (f 83)) e q i) k + 1 := by
                show _ + _ = _
                rw [if_pos (show edg (roR (f 83)) e q i k = true from decide_eq_true h)]
              rw [nI_1, nI_1, Nat.add_assoc, ← this]
              exact ih2 (k + 1) v v' (by omega)
            have goN : ¬ ((f 83 (((228 : Int32) + 8 * nI i) + nI k).toNatClampNeg = nI e ∧ f 83 ((((228 : Int32) + 8 * nI i) + nI k) + 1).toNatClampNeg = nI q) ∨ (f 83 (((228 : Int32) + 8 * nI i) + nI k).toNatClampNeg = nI q ∧ f 83 ((((228 : Int32) + 8 * nI i) + nI k) + 1).toNatClampNeg = nI e)) → ∀ v v' : Value, XP G mX11_usedBetween d 15 [.ref 82, .int (nI e), .int (nI q), .int (nI (sumN (cuI (leR (f 83)) (trR (f 83)) (roR (f 83)) e q) i + cntP (edg (roR (f 83)) e q i) k)), .int (nI i), .int (nI k + 1), v, v'] [] sw f Q := by
              intro h v v'
              rw [vA, vB] at h
              have : cntP (edg (roR (f 83)) e q i) (k + 1) = cntP (edg (roR (f 83)) e q i) k := by
                show _ + _ = _
                rw [if_neg (show ¬ edg (roR (f 83)) e q i k = true from fun z => h (of_decide_eq_true z))]
                rfl
              rw [nI_1, ← this]
              exact ih2 (k + 1) v v' (by omega)
            exact bX11_usedBetween_15 b208 (fun h => absurd h hle) (fun _ => b188) (fun _ h => absurd h hz2) (fun _ _ => bA) (fun _ _ => bB)
              (fun _ _ h1 h2 => goN (fun z => z.elim (fun y => h1 y.1) (fun y => h2 y.1)) _ _)
              (fun _ _ h1 h2 h3 => goN (fun z => z.elim (fun y => h1 y.1) (fun y => h3 y.2)) _ _)
              (fun _ _ h1 h2 h3 => goY (Or.inr ⟨h2, h3⟩) _ _)
              (fun _ _ h1 h2 => goY (Or.inl ⟨h1, h2⟩) _ _)
              (fun _ _ h1 h2 h3 => goN (fun z => z.elim (fun y => h2 y.2) (fun y => h3 y.1)) _ _)
              (fun _ _ h1 h2 h3 h4 => goN (fun z => z.elim (fun y => h2 y.2) (fun y => h4 y.2)) _ _)
              (fun _ _ h1 h2 h3 h4 => goY (Or.inr ⟨h3, h4⟩) _ _)
        exact inner T 0 v6 v7 (by omega)
  exact bX11_usedBetween_0 (outer 20 0 .null .null .null (by omega))
/-- free circuits -/
def frB (c : Int32) (n : Nat) : Int32 := if 0 < c - nI n then c - nI n else 0
theorem mxI_0 (x : Int32) : mxI 0 x = if 0 < x then x else 0 := by
  unfold mxI
  by_cases h : x < 0
  · rw [if_pos h, if_neg (fun z => absurd (Int32.lt_trans h z) (by simp))]
  · rw [if_neg h]
    by_cases h2 : 0 < x
    · rw [if_pos h2]
    · rw [if_neg h2]
      exact Int32.le_antisymm (Int32.not_lt.mp h2) (Int32.not_lt.mp h)
theorem sp_freeBetween {G : GC} {d : Nat} {sw : Bool} {f : FF} {Q : QQ} {e q : Nat} (he : e < 8) (hq : q < 8) (hr : rOk (f 83)) (hQ : Q (some (.int (frB (f 86 (8 * e + q)) (cntR (f 83) e q)))) sw f) : XP G mX11_freeBetween (d + 1) 0 [.ref 82, .int (nI e), .int (nI q)] [] sw f Q := by
  have e1 : (8 : Int32) * nI e + nI q = nI (8 * e + q) := by rw [n_8, pk_mul, nI_add]
  refine bX11_freeBetween_0 (by rw [e1]; exact vp_in_nI (by omega) (by omega)) (sp_usedBetween hr (bX11_freeBetween_18 ?_))
  rw [mxI_0, e1, nI_clamp (by omega)]
  exact hQ
theorem op_circuits (G : GC) : OP12 G RR := by
  intro a1 a2 a3 sw f hR
  obtain ⟨h1, h2, h3, h4, h5, h6, h7⟩ := id hR
  by_cases c1 : twoE a1 a2
  · by_cases c2 : 0 ≤ a3 ∧ a3 ≤ 1
    · obtain ⟨i, j, hi, hj, hij, rfl, rfl⟩ := two_nI c1
      have e1 : nI i * 8 + nI j = nI (8 * i + j) := by rw [n_8, pk_mul, nI_add, Nat.mul_comm]
      have e2 : 8 * nI i + nI j = nI (8 * i + j) := by rw [n_8, pk_mul, nI_add]
      have w1 : vp_in (nI i * 8 + nI j) 64 := by rw [e1]; exact vp_in_nI (by omega) (by omega)
      have w2 : vp_in (8 * nI i + nI j) 64 := by rw [e2]; exact vp_in_nI (by omega) (by omega)
      have eu : f 55 (8 * i + j) = nI (cntR (f 83) i j) := by
        have := h6.2.2.2.2.1 i j hi hj
        rw [← h6.cnt]
        exact this
      refine bX10_circuits_0 (d := 996) (fun h => absurd c1 h) (fun _ _ => w1) (fun _ _ _ => w1) (fun _ _ hz => ⟨_, rfl, ?_⟩) (fun _ _ hz => ⟨_, rfl, ?_⟩) (fun _ h => absurd c2 h)
      · refine bX11_circuits_0 (d := 997) (fun h => absurd c1 h) (fun _ _ _ => sp_freeBetween hi hj h6.rOk (bX11_circuits_43 ⟨?_, hR⟩)) (fun _ _ h => absurd h hz) (fun _ _ h => absurd h hz) (fun _ h => absurd c2 h)
        rw [e1, nI_clamp (by omega), eu, (h2.1 (8 * i + j) (by omega)).1]
        rfl
      · refine bX11_circuits_0 (d := 997) (fun h => absurd c1 h) (fun _ _ h => absurd hz h) (fun _ _ _ => w2) (fun _ _ _ => ⟨?_, hR⟩) (fun _ h => absurd c2 h)
        rw [e1, e2, nI_clamp (by omega), (h2.1 (8 * i + j) (by omega)).1]
    · exact bX10_circuits_0 (d := 996) (fun h => absurd c1 h) (fun _ h => absurd h c2) (fun _ h => absurd h c2) (fun _ h => absurd h c2) (fun _ h => absurd h c2) (fun _ _ => ⟨_, rfl, bX11_circuits_0 (d := 997) (fun h => absurd c1 h) (fun _ h => absurd h c2) (fun _ h => absurd h c2) (fun _ h => absurd h c2) (fun _ _ => ⟨rfl, hR⟩)⟩)
  · exact bX10_circuits_0 (d := 996) (fun _ => ⟨_, rfl, bX11_circuits_0 (d := 997) (fun _ => ⟨rfl, hR⟩) (fun h => absurd h c1) (fun h => absurd h c1) (fun h => absurd h c1) (fun h => absurd h c1)⟩) (fun h => absurd h c1) (fun h => absurd h c1) (fun h => absurd h c1) (fun h => absurd h c1) (fun h => absurd h c1)
