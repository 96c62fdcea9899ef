/-! ===== pairs from the tape ===== -/
theorem sp_readPairs {G : GC} {d : Nat} {sw : Bool} {f : FF} {Q : QQ} {n N : Nat} (hn : n ≤ 16) (hT : TK f N) (hN : 2 * n ≤ N)
    (hq : ∀ g, OS f g → (∀ j, j < n → g 15 j = nI (byt f (2 * j)) ∧ g 16 j = nI (byt f (2 * j + 1))) → Q none sw g) : XP G mX6_readPairs (d + 1) 0 [.ref 14, .int (nI n), .null] [] sw f Q := by
  have hN260 := hT.2.1
  have loop : ∀ (k i : Nat) (g : FF), i + k = n → OS f g → (∀ j, j < i → g 15 j = nI (byt f (2 * j)) ∧ g 16 j = nI (byt f (2 * j + 1))) → XP G mX6_readPairs (d + 1) 2 [.ref 14, .int (nI n), .int (nI i)] [] sw g Q := by
    intro k
    induction k with
    | zero =>
      intro i g hi os hr
      have z : i = n := by omega
      subst z
      have hle : nI i ≤ nI i := nI_le (Nat.le_refl _) (by omega)
      exact bX6_readPairs_2 (fun _ => hq g os hr) (fun h => absurd hle h) (fun h => absurd hle h) (fun h => absurd hle h) (fun h => absurd hle h)
    | succ k ih =>
      intro i g hi os hr
      have nle : ¬ nI n ≤ nI i := nI_ge (by omega) (by omega)
      have n16 : ¬ (16 : Int32) ≤ nI i := by rw [n_16]; exact nI_ge (by omega) (by omega)
      have vi : vp_in (nI i) 16 := vp_in_nI (by omega) (by omega)
      have e1 : 2 * nI i = nI (2 * i) := by rw [n_2, pk_mul]
      have t1 : tAt g (nI (2 * i)) = nI (byt f (2 * i)) := by rw [tAt_byt (os.TK hT) (by omega), os.byt]
      have t2 : tAt (upd2 g 15 i (nI (byt f (2 * i)))) (nI (2 * i + 1)) = nI (byt f (2 * i + 1)) := by
        have o2 : OS f (upd2 g 15 i (nI (byt f (2 * i)))) := os.up (by omega)
        rw [tAt_byt (o2.TK hT) (by omega), o2.byt]
      refine bX6_readPairs_2 (fun h => absurd h nle) (fun _ h => absurd h n16) (fun _ _ => vi) (fun _ _ => vi) (fun _ _ => ?_)
      rw [nI_clamp (by omega), e1, t1, nI_1 (2 * i), t2, nI_1]
      refine ih (i + 1) _ (by omega) ((os.up (by omega)).up (by omega)) (fun j hj => ?_)
      rw [upd2_ne _ _ _ (by omega), upd2_self, upd2_self, upd2_ne _ _ _ (by omega)]
      by_cases y : j = i
      · subst y; rw [pk_us, pk_us]; exact ⟨rfl, rfl⟩
      · rw [pk_un y, pk_un y]; exact hr j (by omega)
  exact bX6_readPairs_0 (loop n 0 f (by omega) OS.rf (fun j hj => absurd hj (by omega)))
theorem sp_readHours {G : GC} {d : Nat} {sw : Bool} {f : FF} {Q : QQ} {n N : Nat} (hn : n ≤ 16) (hT : TK f N) (hN : 2 * n ≤ N)
    (hy : (∀ j, j < n → byt f (2 * j + 1) ≠ 0) → ∀ g, OS f g → (∀ j, j < n → g 15 j = nI (byt f (2 * j)) ∧ g 16 j = nI (byt f (2 * j + 1))) → Q (some (.int 1)) sw g)
    (hz : ∀ j, j < n → byt f (2 * j + 1) = 0 → (∀ m, m < j → byt f (2 * m + 1) ≠ 0) → ∀ g, OS f g → Q (some (.int 0)) sw g) : XP G mX6_readHours (d + 2) 0 [.ref 14, .int (nI n), .null] [] sw f Q := by
  refine bX6_readHours_0 (sp_readPairs hn hT hN (fun g os hr => bX6_readHours_5 ?_))
  have loop : ∀ (k i : Nat), i + k = n → (∀ m, m < i → byt f (2 * m + 1) ≠ 0) → XP G mX6_readHours (d + 2) 7 [.ref 14, .int (nI n), .int (nI i)] [] sw g Q := by
    intro k
    induction k with
    | zero =>
      intro i hi hm
      have z : i = n := by omega
      subst z
      have hle : nI i ≤ nI i := nI_le (Nat.le_refl _) (by omega)
      exact bX6_readHours_7 (fun _ => hy hm g os hr) (fun h => absurd hle h) (fun h => absurd hle h) (fun h => absurd hle h)
    | succ k ih =>
      intro i hi hm
      have nle : ¬ nI n ≤ nI i := nI_ge (by omega) (by omega)
      have bl := byt_lt f (2 * i + 1)
      have e0 : g 16 i = 0 ↔ byt f (2 * i + 1) = 0 := by rw [(hr i (by omega)).2]; exact nI_eq (b := 0) (by omega) (by omega)
      refine bX6_readHours_7 (fun h => absurd h nle) (fun _ => vp_in_nI (by omega) (by omega)) (fun _ h => ?_) (fun _ h => ?_)
      · rw [nI_clamp (by omega), e0] at h
        rw [nI_1]
        refine ih (i + 1) (by omega) (fun m hm2 => ?_)
        by_cases y : m = i
        · subst y; exact h
        · exact hm m (by omega)
      · rw [nI_clamp (by omega), e0] at h
        exact hz i (by omega) h hm g os
  exact loop n 0 (by omega) (fun m h => absurd h (by omega))
/-! ===== the busiest minute ===== -/
def atM (s dd : Nat → Nat) (m : Nat) : Nat → Nat
  | 0 => 0
  | k + 1 => atM s dd m k + (if s k ≤ m ∧ m < s k + dd k then 1 else 0)
theorem atM_le (s dd : Nat → Nat) (m : Nat) : ∀ k, atM s dd m k ≤ k := by
  intro k
  induction k with
  | zero => exact Nat.le_refl _
  | succ k ih =>
    show atM s dd m k + (if _ then 1 else 0) ≤ _
    split <;> omega
theorem atM_self {s dd : Nat → Nat} {n i : Nat} (hi : i < n) (hd : dd i ≠ 0) : 1 ≤ atM s dd (s i) n := by
  induction n with
  | zero => omega
  | succ n ih =>
    show 1 ≤ atM s dd (s i) n + (if s n ≤ s i ∧ s i < s n + dd n then 1 else 0)
    by_cases y : i = n
    · subst y
      rw [if_pos (by omega)]
      omega
    · have := ih (by omega)
      omega
theorem atM_pos {s dd : Nat → Nat} {m n : Nat} (h : atM s dd m n ≠ 0) : ∃ k, k < n ∧ s k ≤ m := by
  induction n with
  | zero => exact absurd rfl h
  | succ n ih =>
    by_cases y : s n ≤ m ∧ m < s n + dd n
    · exact ⟨n, by omega, y.1⟩
    · have e : atM s dd m (n + 1) = atM s dd m n + 0 := congrArg (_ + ·) (if_neg y)
      obtain ⟨k, h1, h2⟩ := ih (by omega)
      exact ⟨k, by omega, h2⟩
theorem atM_back {s dd : Nat → Nat} {m n : Nat} (h : ∀ k, k < n → s k ≠ m + 1) : atM s dd (m + 1) n ≤ atM s dd m n := by
  induction n with
  | zero => exact Nat.le_refl _
  | succ n ih =>
    have i1 := ih (fun k hk => h k (by omega))
    have i2 := h n (by omega)
    show atM s dd (m + 1) n + (if s n ≤ m + 1 ∧ m + 1 < s n + dd n then 1 else 0) ≤ atM s dd m n + (if s n ≤ m ∧ m < s n + dd n then 1 else 0)
    by_cases y : s n ≤ m + 1 ∧ m + 1 < s n + dd n
    · rw [if_pos y, if_pos (by omega)]; omega
    · rw [if_neg y]; omega
def rbS (c : Nat → Nat) : Nat → Nat × Nat
  | 0 => (0, 0)
  | m + 1 => if (rbS c m).1 < c m then (c m, m) else rbS c m
def cbS (c s : Nat → Nat) : Nat → Nat × Nat
  | 0 => (0, 0)
  | i + 1 => if (cbS c s i).1 < c (s i) ∨ (c (s i) = (cbS c s i).1 ∧ s i < (cbS c s i).2) then (c (s i), s i) else cbS c s i
theorem rbS_inv (c : Nat → Nat) : ∀ m, (∀ j, j < m → c j ≤ (rbS c m).1) ∧ ((rbS c m).1 ≠ 0 → (rbS c m).2 < m ∧ c (rbS c m).2 = (rbS c m).1 ∧ ∀ j, j < (rbS c m).2 → c j < (rbS c m).1) := by
  intro m
  induction m with
  | zero => exact ⟨fun j h => absurd h (by omega), fun h => absurd rfl h⟩
  | succ m ih =>
    by_cases y : (rbS c m).1 < c m
    · have e : rbS c (m + 1) = (c m, m) := if_pos y
      rw [e]
      refine ⟨fun j hj => ?_, fun _ => ⟨Nat.lt_succ_self _, rfl, fun j hj => ?_⟩⟩
      · show c j ≤ c m
        by_cases z : j = m
        · subst z; exact Nat.le_refl _
        · have := ih.1 j (by omega); omega
      · have hj' : j < m := hj
        have := ih.1 j hj'
        show c j < c m
        omega
    · have e : rbS c (m + 1) = rbS c m := if_neg y
      rw [e]
      refine ⟨fun j hj => ?_, fun h => ?_⟩
      · by_cases z : j = m
        · subst z; omega
        · exact ih.1 j (by omega)
      · obtain ⟨q1, q2, q3⟩ := ih.2 h
        exact ⟨by omega, q2, q3⟩
theorem cbS_inv (c s : Nat → Nat) : ∀ i, (∀ j, j < i → c (s j) ≤ (cbS c s i).1) ∧ ((cbS c s i).1 ≠ 0 → ∃ j, j < i ∧ s j = (cbS c s i).2 ∧ c (s j) = (cbS c s i).1) ∧ (∀ j, j < i → c (s j) = (cbS c s i).1 → (cbS c s i).2 ≤ s j) := by
  intro i
  induction i with
  | zero => exact ⟨fun j h => absurd h (by omega), fun h => absurd rfl h, fun j h => absurd h (by omega)⟩
  | succ i ih =>
    obtain ⟨i1, i2, i3⟩ := ih
    by_cases y : (cbS c s i).1 < c (s i) ∨ (c (s i) = (cbS c s i).1 ∧ s i < (cbS c s i).2)
    · have e : cbS c s (i + 1) = (c (s i), s i) := if_pos y
      rw [e]
      refine ⟨fun j hj => ?_, fun _ => ⟨i, by omega, rfl, rfl⟩, fun j hj h => ?_⟩
      · show c (s j) ≤ c (s i)
        by_cases z : j = i
        · subst z; exact Nat.le_refl _
        · have := i1 j (by omega); omega
      · have h' : c (s j) = c (s i) := h
        show s i ≤ s j
        by_cases z : j = i
        · subst z; exact Nat.le_refl _
        · have a := i1 j (by omega)
          rcases y with y | y
          · omega
          · have := i3 j (by omega) (by omega); omega
    · have e : cbS c s (i + 1) = cbS c s i := if_neg y
      rw [e]
      refine ⟨fun j hj => ?_, fun h => ?_, fun j hj h => ?_⟩
      · by_cases z : j = i
        · subst z; omega
        · exact i1 j (by omega)
      · obtain ⟨j, q1, q2, q3⟩ := i2 h
        exact ⟨j, by omega, q2, q3⟩
      · by_cases z : j = i
        · subst z; omega
        · exact i3 j (by omega) h
theorem busy_eq {s dd : Nat → Nat} {n : Nat} (hn : 1 ≤ n) (hd : ∀ i, i < n → dd i ≠ 0) (hs : ∀ i, s i < 256) : cbS (fun m => atM s dd m n) s n = rbS (fun m => atM s dd m n) 512 := by
  have R := rbS_inv (fun m => atM s dd m n) 512
  have C := cbS_inv (fun m => atM s dd m n) s n
  generalize rbS (fun m => atM s dd m n) 512 = M at R
  generalize cbS (fun m => atM s dd m n) s n = K at C
  obtain ⟨R1, R2⟩ := R
  obtain ⟨C1, C2, C3⟩ := C
  have p0 := atM_self (s := s) (dd := dd) (i := 0) hn (hd 0 hn)
  have c0 : 1 ≤ K.1 := Nat.le_trans p0 (C1 0 hn)
  have r0 : 1 ≤ M.1 := Nat.le_trans p0 (R1 (s 0) (by have := hs 0; omega))
  obtain ⟨q1, q2, q3⟩ := R2 (by omega)
  have q2' : atM s dd M.2 n = M.1 := q2
  obtain ⟨k, hk, ek⟩ : ∃ k, k < n ∧ s k = M.2 := by
    by_cases y : ∃ k, k < n ∧ s k = M.2
    · exact y
    · exfalso
      obtain ⟨k, k1, k2⟩ := atM_pos (s := s) (dd := dd) (m := M.2) (n := n) (by omega)
      have k3 : s k ≠ M.2 := fun h => y ⟨k, k1, h⟩
      obtain ⟨m, hm⟩ : ∃ m, M.2 = m + 1 := ⟨M.2 - 1, by omega⟩
      have b := atM_back (s := s) (dd := dd) (m := m) (n := n) (fun j hj h => y ⟨j, hj, by omega⟩)
      have := q3 m (by omega)
      have t : atM s dd m n < M.1 := this
      rw [hm] at q2'
      omega
  obtain ⟨j, j1, j2, j3⟩ := C2 (by omega)
  have j3' : atM s dd (s j) n = K.1 := j3
  have a1 : K.1 ≤ M.1 := by
    have := R1 (s j) (by have := hs j; omega)
    have t : atM s dd (s j) n ≤ M.1 := this
    omega
  have a2 : M.1 ≤ K.1 := by
    have := C1 k hk
    have t : atM s dd (s k) n ≤ K.1 := this
    rw [ek] at t
    omega
  have a3 : K.2 ≤ M.2 := by
    have := C3 k hk (show atM s dd (s k) n = K.1 by rw [ek]; omega)
    omega
  have a4 : ¬ K.2 < M.2 := fun h => by
    have := q3 K.2 h
    have t : atM s dd K.2 n < M.1 := this
    rw [j2] at j3'
    omega
  exact Prod.ext (by omega) (by omega)
theorem sp_busiest {G : GC} {d : Nat} {sw : Bool} {f : FF} {Q : QQ} {s dd : Nat → Nat} {n : Nat} {x : Int32} (hn : n ≤ 16) (hs : ∀ i, s i < 256) (hdd : ∀ i, dd i < 256) (hf : ∀ j, j < n → f 15 j = nI (s j) ∧ f 16 j = nI (dd j))
    (hq : Q (some (.int (if x = 0 then nI (cbS (fun m => atM s dd m n) s n).1 else nI (cbS (fun m => atM s dd m n) s n).2))) sw f) : XP G mX6_busiest d 0 [.ref 14, .int (nI n), .int x, .null, .null, .null, .null, .null] [] sw f Q := by
  have small : ∀ i, (cbS (fun m => atM s dd m n) s i).1 ≤ 16 ∧ (cbS (fun m => atM s dd m n) s i).2 ≤ 256 := by
    intro i
    induction i with
    | zero => exact ⟨Nat.zero_le _, Nat.zero_le _⟩
    | succ i ih =>
      have e : cbS (fun m => atM s dd m n) s (i + 1) = if _ then _ else _ := rfl
      rw [e]
      split
      · have a := atM_le s dd (s i) n
        have b := hs i
        exact ⟨by show atM s dd (s i) n ≤ 16; omega, by show s i ≤ 256; omega⟩
      · exact ih
  have outer : ∀ (k i : Nat) (v6 v7 : Value), i + k = n → XP G mX6_busiest d 8 [.ref 14, .int (nI n), .int x, .int (nI (cbS (fun m => atM s dd m n) s i).1), .int (nI (cbS (fun m => atM s dd m n) s i).2), .int (nI i), v6, v7] [] sw f Q := by
    intro k
    induction k with
    | zero =>
      intro i v6 v7 hi
      have z : i = n := by omega
      subst z
      have hle : nI i ≤ nI i := nI_le (Nat.le_refl _) (by omega)
      refine bX6_busiest_8 (fun _ h => ?_) (fun _ h => ?_) (fun h => absurd hle h)
      · rw [if_pos h] at hq; exact hq
      · rw [if_neg h] at hq; exact hq
    | succ k ih =>
      intro i v6 v7 hi
      have nle : ¬ nI n ≤ nI i := nI_ge (by omega) (by omega)
      have ci : (nI i).toNatClampNeg = i := nI_clamp (by omega)
      have vi : vp_in (nI i) 16 := vp_in_nI (by omega) (by omega)
      have fi := hf i (by omega)
      have si := hs i
      have sm := small i
      refine bX6_busiest_8 (fun h => absurd h nle) (fun h => absurd h nle) (fun _ => ?_)
      have inner : ∀ (l j : Nat), j + l = n → XP G mX6_busiest d 20 [.ref 14, .int (nI n), .int x, .int (nI (cbS (fun m => atM s dd m n) s i).1), .int (nI (cbS (fun m => atM s dd m n) s i).2), .int (nI i), .int (nI (atM s dd (s i) j)), .int (nI j)] [] sw f Q := by
        intro l
        induction l with
        | zero =>
          intro j hj
          have z : j = n := by omega
          subst z
          have hle : nI j ≤ nI j := nI_le (Nat.le_refl _) (by omega)
          have al := atM_le s dd (s i) j
          have I := fun v6 v7 => ih (i + 1) v6 v7 (by omega)
          have keep : ¬ ((cbS (fun m => atM s dd m j) s i).1 < atM s dd (s i) j ∨ (atM s dd (s i) j = (cbS (fun m => atM s dd m j) s i).1 ∧ s i < (cbS (fun m => atM s dd m j) s i).2)) → cbS (fun m => atM s dd m j) s (i + 1) = cbS (fun m => atM s dd m j) s i := fun h => if_neg h
          have new : ((cbS (fun m => atM s dd m j) s i).1 < atM s dd (s i) j ∨ (atM s dd (s i) j = (cbS (fun m => atM s dd m j) s i).1 ∧ s i < (cbS (fun m => atM s dd m j) s i).2)) → cbS (fun m => atM s dd m j) s (i + 1) = (atM s dd (s i) j, s i) := fun h => if_pos h
          refine bX6_busiest_20 (fun _ _ => vi) (fun _ h => ?_) (fun _ h h2 => ?_) (fun _ _ _ => vi) (fun _ h h2 h3 => ?_) (fun _ _ _ _ => vi) (fun _ h h2 h3 => ?_) (fun h => absurd hle h) (fun h => absurd hle h) (fun h => absurd hle h) (fun h => absurd hle h) (fun h => absurd hle h) (fun h => absurd hle h) (fun h => absurd hle h) (fun h => absurd hle h)
          · rw [nI_ltI (by omega) (by omega)] at h
            rw [ci, fi.1, nI_1]
            have := I (.int (nI (atM s dd (s i) j))) (.int (nI j))
            rw [new (Or.inl h)] at this
            exact this
          · rw [nI_ltI (by omega) (by omega)] at h
            rw [nI_eq (by omega) (by omega)] at h2
            rw [nI_1, ← keep (by omega)]
            exact I _ _
          · rw [nI_ltI (by omega) (by omega)] at h
            rw [ci, fi.1, nI_leI (by omega) (by omega)] at h3
            rw [nI_1, ← keep (by omega)]
            exact I _ _
          · rw [nI_eq (by omega) (by omega)] at h2
            rw [ci, fi.1, nI_leI (by omega) (by omega)] at h3
            rw [ci, fi.1, nI_1]
            have := I (.int (nI (atM s dd (s i) j))) (.int (nI j))
            rw [new (Or.inr ⟨h2, by omega⟩)] at this
            exact this
        | succ l il =>
          intro j hj
          have nle : ¬ nI n ≤ nI j := nI_ge (by omega) (by omega)
          have cj : (nI j).toNatClampNeg = j := nI_clamp (by omega)
          have vj : vp_in (nI j) 16 := vp_in_nI (by omega) (by omega)
          have fj := hf j (by omega)
          have sj := hs j
          have dj := hdd j
          have I := il (j + 1) (by omega)
          refine bX6_busiest_20 (fun h => absurd h nle) (fun h => absurd h nle) (fun h => absurd h nle) (fun h => absurd h nle) (fun h => absurd h nle) (fun h => absurd h nle) (fun h => absurd h nle) (fun _ => vj) (fun _ => vi) (fun _ h => ?_) (fun _ _ => vi) (fun _ _ => vj) (fun _ _ => vj) (fun _ h h2 => ?_) (fun _ h h2 => ?_)
          · rw [ci, cj, fi.1, fj.1, nI_ltI (by omega) (by omega)] at h
            rw [show atM s dd (s i) (j + 1) = atM s dd (s i) j + 0 from congrArg (_ + ·) (if_neg (by omega)), Nat.add_zero, ← nI_1] at I
            exact I
          · rw [ci, cj, fi.1, fj.1, nI_ltI (by omega) (by omega)] at h
            rw [ci, cj, fi.1, fj.1, fj.2, nI_add, nI_leI (by omega) (by omega)] at h2
            rw [show atM s dd (s i) (j + 1) = atM s dd (s i) j + 0 from congrArg (_ + ·) (if_neg (by omega)), Nat.add_zero, ← nI_1] at I
            exact I
          · rw [ci, cj, fi.1, fj.1, nI_ltI (by omega) (by omega)] at h
            rw [ci, cj, fi.1, fj.1, fj.2, nI_add, nI_leI (by omega) (by omega)] at h2
            rw [show atM s dd (s i) (j + 1) = atM s dd (s i) j + 1 from congrArg (_ + ·) (if_pos (by omega)), ← nI_1, ← nI_1] at I
            exact I
      exact inner n 0 (by omega)
  exact bX6_busiest_0 (outer n 0 .null .null (by omega))
theorem sp_atOnceIn {G : GC} {d : Nat} {sw : Bool} {f : FF} {Q : QQ} {n m : Nat} (hn : n ≤ 16) (hm : m < 2 ^ 30)
    (hq : Q (some (.int (nI (atM (fun k => byt f (2 * k)) (fun k => byt f (2 * k + 1)) m n)))) sw f) : XP G mX11_atOnceIn (d + 1) 0 [.ref 82, .int (nI n), .int (nI m), .null, .null] [] sw f Q := by
  have loop : ∀ (k j : Nat), j + k = n → XP G mX11_atOnceIn (d + 1) 5 [.ref 82, .int (nI n), .int (nI m), .int (nI (atM (fun k => byt f (2 * k)) (fun k => byt f (2 * k + 1)) m j)), .int (nI j)] [] sw f Q := by
    intro k
    induction k with
    | zero =>
      intro j hj
      have z : j = n := by omega
      subst z
      have hle : nI j ≤ nI j := nI_le (Nat.le_refl _) (by omega)
      exact bX11_atOnceIn_5 (fun _ => hq) (fun h => absurd hle h) (fun h => absurd hle h) (fun h => absurd hle h) (fun h => absurd hle h) (fun h => absurd hle h) (fun h => absurd hle h)
    | succ k ih =>
      intro j hj
      have nle : ¬ nI n ≤ nI j := nI_ge (by omega) (by omega)
      have e1 : 2 * nI j = nI (2 * j) := by rw [n_2, pk_mul]
      have e2 : nI (2 * j) + 1 = nI (2 * j + 1) := nI_1 _
      have v1 : vp_in (nI (2 * j)) 260 := vp_in_nI (by omega) (by omega)
      have v2 : vp_in (nI (2 * j + 1)) 260 := vp_in_nI (by omega) (by omega)
      have o1 : oct f (nI (2 * j)) = nI (byt f (2 * j)) := oct_byt (by omega)
      have o2 : oct f (nI (2 * j + 1)) = nI (byt f (2 * j + 1)) := oct_byt (by omega)
      have b1 := byt_lt f (2 * j)
      have b2 := byt_lt f (2 * j + 1)
      have I := ih (j + 1) (by omega)
      refine bX11_atOnceIn_5 (fun h => absurd h nle) (fun _ => by rw [e1]; exact v1) (fun _ h => ?_) (fun _ _ => by rw [e1]; exact v1) (fun _ _ => by rw [e1, e2]; exact v2) (fun _ h h2 => ?_) (fun _ h h2 => ?_)
      · rw [e1, o1, nI_ltI (by omega) (by omega)] at h
        rw [show atM (fun k => byt f (2 * k)) (fun k => byt f (2 * k + 1)) m (j + 1) = atM (fun k => byt f (2 * k)) (fun k => byt f (2 * k + 1)) m j + 0 from congrArg (_ + ·) (if_neg (by dsimp only; omega)), Nat.add_zero, ← nI_1] at I
        exact I
      · rw [e1, o1, nI_ltI (by omega) (by omega)] at h
        rw [e1, e2, o1, o2, nI_add, nI_leI (by omega) (by omega)] at h2
        rw [show atM (fun k => byt f (2 * k)) (fun k => byt f (2 * k + 1)) m (j + 1) = atM (fun k => byt f (2 * k)) (fun k => byt f (2 * k + 1)) m j + 0 from congrArg (_ + ·) (if_neg (by dsimp only; omega)), Nat.add_zero, ← nI_1] at I
        exact I
      · rw [e1, o1, nI_ltI (by omega) (by omega)] at h
        rw [e1, e2, o1, o2, nI_add, nI_leI (by omega) (by omega)] at h2
        rw [show atM (fun k => byt f (2 * k)) (fun k => byt f (2 * k + 1)) m (j + 1) = atM (fun k => byt f (2 * k)) (fun k => byt f (2 * k + 1)) m j + 1 from congrArg (_ + ·) (if_pos (by dsimp only; omega)), ← nI_1, ← nI_1] at I
        exact I
  exact bX11_atOnceIn_0 (loop n 0 (by omega))
