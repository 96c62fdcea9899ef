/-! ===== numbers that are small ===== -/
theorem rng {x y : Int32} {K : Nat} (hy : y.toInt = K) (h : 0 ≤ x ∧ x ≤ y) : ∃ i : Nat, i ≤ K ∧ x = nI i := nI_of2 hy (Int32.not_lt.mpr h.1) h.2
theorem n_1 : (1 : Int32) = nI 1 := rfl
theorem n_2 : (2 : Int32) = nI 2 := rfl
theorem n_3 : (3 : Int32) = nI 3 := rfl
theorem n_6 : (6 : Int32) = nI 6 := rfl
theorem n_8 : (8 : Int32) = nI 8 := rfl
theorem n_10 : (10 : Int32) = nI 10 := rfl
theorem n_11 : (11 : Int32) = nI 11 := rfl
theorem n_12 : (12 : Int32) = nI 12 := rfl
theorem n_16 : (16 : Int32) = nI 16 := rfl
theorem n_20 : (20 : Int32) = nI 20 := rfl
theorem n_31 : (31 : Int32) = nI 31 := rfl
theorem n_32 : (32 : Int32) = nI 32 := rfl
theorem n_48 : (48 : Int32) = nI 48 := rfl
theorem n_64 : (64 : Int32) = nI 64 := rfl
theorem n_80 : (80 : Int32) = nI 80 := rfl
theorem n_96 : (96 : Int32) = nI 96 := rfl
theorem n_112 : (112 : Int32) = nI 112 := rfl
theorem n_128 : (128 : Int32) = nI 128 := rfl
theorem n_148 : (148 : Int32) = nI 148 := rfl
theorem n_168 : (168 : Int32) = nI 168 := rfl
theorem n_188 : (188 : Int32) = nI 188 := rfl
theorem n_208 : (208 : Int32) = nI 208 := rfl
theorem n_228 : (228 : Int32) = nI 228 := rfl
theorem n_241 : (241 : Int32) = nI 241 := rfl
theorem n_256 : (256 : Int32) = nI 256 := rfl
theorem isN_nI {x : Int32} {K : Nat} (h : isN x K) (hK : K < 2 ^ 31) : ∃ i : Nat, i ≤ K ∧ x = nI i := by
  obtain ⟨h1, h2⟩ := h
  refine ⟨x.toInt.toNat, by omega, ?_⟩
  apply Int32.toInt_inj.mp
  rw [nI_toInt (by omega)]
  omega
theorem nI_isN {n K : Nat} (h : n ≤ K) (hK : K < 2 ^ 31) : isN (nI n) K := by
  unfold isN
  rw [nI_toInt (by omega)]
  omega
/-! ===== callIs ===== -/
theorem op_callIs (G : GC) : OP11 G RR := by
  intro a1 a2 sw f hR
  have hW := hR.2.2.2.2.2.1
  by_cases c1 : 0 ≤ a1 ∧ a1 ≤ 19
  · by_cases c2 : 0 ≤ a2 ∧ a2 ≤ 4
    · obtain ⟨i, hi, rfl⟩ := rng (K := 19) (by decide) c1
      obtain ⟨k, hk, rfl⟩ := rng (K := 4) (by decide) c2
      obtain ⟨q1, q2, q3⟩ := hW.2.2.1 i (by omega)
      have q1 : f 52 i = f 83 (188 + i) := q1
      have ref : ∀ r, r = (if f 52 i = 0 then -2 else f 83 (128 + 20 * k + i)) → XP G mX11_callIs 999 0 [.ref 82, .int (nI i), .int (nI k)] [] sw f (fun v2 sw2 f2 => v2 = some (.int r) ∧ RR sw2 f2) := by
        intro r hr
        apply bX11_callIs_0 (d := 998) <;> intros <;> (try contradiction)
        all_goals simp (disch := omega) only [n_188, n_128, n_20, nI_add, pk_mul, nI_clamp] at *
        · exact vp_in_nI (by omega) (by omega)
        · exact vp_in_nI (by omega) (by omega)
        · rename_i hz
          refine ⟨?_, hR⟩
          rw [hr, if_neg (by rw [q1]; exact hz)]
        · rename_i hz
          refine ⟨?_, hR⟩
          rw [hr, if_pos (by rw [q1]; exact hz)]
      have v1 : vp_in (nI i) 20 := vp_in_nI (by omega) (by omega)
      apply bX10_callIs_0 (d := 998) <;> intros <;> (try contradiction) <;> (try exact v1)
      all_goals simp (disch := omega) only [nI_clamp] at *
      · have hz : ¬ f 52 i = 0 := by assumption
        have hk0 : nI k = 0 := by assumption
        refine ⟨_, rfl, ref _ ?_⟩
        rw [if_neg hz]
        have e : k = 0 := (nI_eq (by omega) (by omega)).mp hk0
        subst e
        exact (q3 hz).1
      · have hz : ¬ f 52 i = 0 := by assumption
        have hk0 : nI k = 1 := by assumption
        refine ⟨_, rfl, ref _ ?_⟩
        rw [if_neg hz]
        have e : k = 1 := (nI_eq (by omega) (by omega)).mp hk0
        subst e
        exact (q3 hz).2.2.1
      · have hz : ¬ f 52 i = 0 := by assumption
        have hk0 : nI k = 2 := by assumption
        refine ⟨_, rfl, ref _ ?_⟩
        rw [if_neg hz]
        have e : k = 2 := (nI_eq (by omega) (by omega)).mp hk0
        subst e
        exact (q3 hz).2.2.2.2.2.2.2.1
      · have hz : ¬ f 52 i = 0 := by assumption
        have hk0 : nI k = 3 := by assumption
        refine ⟨_, rfl, ref _ ?_⟩
        rw [if_neg hz]
        have e : k = 3 := (nI_eq (by omega) (by omega)).mp hk0
        subst e
        exact q1
      · have hz : ¬ f 52 i = 0 := by assumption
        have n0 : ¬ nI k = 0 := by assumption
        have n1 : ¬ nI k = 1 := by assumption
        have n2 : ¬ nI k = 2 := by assumption
        have n3 : ¬ nI k = 3 := by assumption
        refine ⟨_, rfl, ref _ ?_⟩
        rw [if_neg hz]
        have e : k = 4 := by
          rcases (by omega : k = 0 ∨ k = 1 ∨ k = 2 ∨ k = 3 ∨ k = 4) with e | e | e | e | e
          · subst e; exact absurd rfl n0
          · subst e; exact absurd rfl n1
          · subst e; exact absurd rfl n2
          · subst e; exact absurd rfl n3
          · exact e
        subst e
        exact (q3 hz).2.2.2.2.2.2.2.2.2.2.1
      · rename_i hz
        refine ⟨_, rfl, ref _ ?_⟩
        rw [if_pos hz]
    · apply bX10_callIs_0 (d := 998) <;> intros <;> (try contradiction)
      refine ⟨_, rfl, ?_⟩
      apply bX11_callIs_0 (d := 998) <;> intros <;> (try contradiction)
      exact ⟨rfl, hR⟩
  · apply bX10_callIs_0 (d := 998) <;> intros <;> (try contradiction) <;> (try (rename_i h _; exact absurd h c1)) <;> (try (rename_i h _ _; exact absurd h c1))
    refine ⟨_, rfl, ?_⟩
    apply bX11_callIs_0 (d := 998) <;> intros <;> (try contradiction)
    exact ⟨rfl, hR⟩
/-! ===== trunk ===== -/
theorem two_nI {e q : Int32} (h : twoE e q) : ∃ i j : Nat, i < 8 ∧ j < 8 ∧ i ≠ j ∧ e = nI i ∧ q = nI j := by
  obtain ⟨i, hi, rfl⟩ := rng (K := 7) (by decide) h.1
  obtain ⟨j, hj, rfl⟩ := rng (K := 7) (by decide) h.2.1
  exact ⟨i, j, by omega, by omega, fun e => h.2.2 (by rw [e]), rfl, rfl⟩
theorem op_trunk (G : GC) : OP0 G RR := by
  intro a1 a2 a3 sw f hR
  by_cases c1 : twoE a1 a2
  · by_cases c2 : 0 ≤ a3 ∧ a3 ≤ 9
    · obtain ⟨i, j, hi, hj, hij, rfl, rfl⟩ := two_nI c1
      have w1 : vp_in (nI i * 8 + nI j) 64 := by rw [n_8, pk_mul, nI_add]; exact vp_in_nI (by omega) (by omega)
      have w2 : vp_in (nI j * 8 + nI i) 64 := by rw [n_8, pk_mul, nI_add]; exact vp_in_nI (by omega) (by omega)
      have w3 : vp_in (8 * nI i + nI j) 64 := by rw [n_8, pk_mul, nI_add]; exact vp_in_nI (by omega) (by omega)
      have w4 : vp_in (8 * nI j + nI i) 64 := by rw [n_8, pk_mul, nI_add]; exact vp_in_nI (by omega) (by omega)
      refine bX10_trunk_0 (d := 996) (fun h => absurd c1 h) (fun _ _ => ?_) (fun _ h => absurd c2 h)
      refine bX3_lay_0 w1 w2 (bX10_trunk_30 (d := 996) ⟨1, rfl, ?_⟩)
      refine bX11_trunk_0 (d := 997) (fun h => absurd c1 h) (fun _ _ => w3) (fun _ _ => w4) (fun _ _ => ⟨rfl, ?_⟩) (fun _ h => absurd c2 h)
      simp (disch := omega) only [n_8, pk_mul, nI_add, nI_clamp]
      rw [show i * 8 + j = 8 * i + j by omega, show j * 8 + i = 8 * j + i by omega]
      obtain ⟨h1, h2, h3, h4, h5, h6, h7⟩ := hR
      refine ⟨(((h1.up (by omega)).up (by omega)).up (by omega)).up (by omega), ?_, (((h3.up (by omega)).up (by omega)).up (by omega)).up (by omega), (((h4.up (by omega)).up (by omega)).up (by omega)).up (by omega), (((h5.up (by omega)).up (by omega)).up (by omega)).up (by omega), (((h6.up (by omega)).up (by omega)).up (by omega)).up (by omega), (((h7.up (by omega)).up (by omega)).up (by omega)).up (by omega)⟩
      have g4 : ∀ k, upd2 (upd2 (upd2 (upd2 f 4 (8 * i + j) a3) 4 (8 * j + i) a3) 86 (8 * i + j) a3) 86 (8 * j + i) a3 4 k = if k = 8 * i + j ∨ k = 8 * j + i then a3 else f 4 k := by
        intro k
        rw [upd2_ne _ _ _ (by omega), upd2_ne _ _ _ (by omega), upd2_self, upd2_self]
        unfold upd
        by_cases q1 : k = 8 * j + i
        · simp [q1]
        · by_cases q2 : k = 8 * i + j
          · simp [q2]
          · simp [q1, q2]
      have g86 : ∀ k, upd2 (upd2 (upd2 (upd2 f 4 (8 * i + j) a3) 4 (8 * j + i) a3) 86 (8 * i + j) a3) 86 (8 * j + i) a3 86 k = if k = 8 * i + j ∨ k = 8 * j + i then a3 else f 86 k := by
        intro k
        rw [upd2_self, upd2_self, upd2_ne _ _ _ (by omega), upd2_ne _ _ _ (by omega)]
        unfold upd
        by_cases q1 : k = 8 * j + i
        · simp [q1]
        · by_cases q2 : k = 8 * i + j
          · simp [q2]
          · simp [q1, q2]
      have g6 : ∀ k, upd2 (upd2 (upd2 (upd2 f 4 (8 * i + j) a3) 4 (8 * j + i) a3) 86 (8 * i + j) a3) 86 (8 * j + i) a3 6 k = f 6 k := by
        intro k
        rw [upd2_ne _ _ _ (by omega), upd2_ne _ _ _ (by omega), upd2_ne _ _ _ (by omega), upd2_ne _ _ _ (by omega)]
      obtain ⟨n1, n2, n3⟩ := h2
      refine ⟨fun k hk => ?_, fun e q he hq => ?_, fun e he => ?_⟩
      · rw [g4, g86, g6]
        obtain ⟨m1, m2, m3⟩ := n1 k hk
        refine ⟨?_, ?_, m3⟩
        · split
          · rfl
          · exact m1
        · split
          · exact isN_of c2 (by decide)
          · exact m2
      · rw [g4, g4, n2 e q he hq]
        have : (8 * e + q = 8 * i + j ∨ 8 * e + q = 8 * j + i) ↔ (8 * q + e = 8 * i + j ∨ 8 * q + e = 8 * j + i) := by omega
        by_cases z : 8 * e + q = 8 * i + j ∨ 8 * e + q = 8 * j + i
        · rw [if_pos z, if_pos (this.mp z)]
        · rw [if_neg z, if_neg (fun y => z (this.mpr y))]
      · rw [g4, if_neg (by omega)]
        exact n3 e he
    · exact bX10_trunk_0 (d := 996) (fun h => absurd c1 h) (fun _ h => absurd h c2) (fun _ _ => ⟨0, rfl, bX11_trunk_0 (d := 997) (fun h => absurd c1 h) (fun _ h => absurd h c2) (fun _ h => absurd h c2) (fun _ h => absurd h c2) (fun _ _ => ⟨rfl, hR⟩)⟩)
  · exact bX10_trunk_0 (d := 996) (fun _ => ⟨0, rfl, bX11_trunk_0 (d := 997) (fun _ => ⟨rfl, hR⟩) (fun h => absurd h c1) (fun h => absurd h c1) (fun h => absurd h c1) (fun h => absurd h c1)⟩) (fun h => absurd h c1) (fun h => absurd h c1)
