/-! ===== sums over sets ===== -/
theorem bt_nI {m s : Nat} (hm : m < 2 ^ 32) (hs : s < 32) : bt (nI m) s = m.testBit s := by
  show (BitVec.ofNat 32 m).getLsbD s = _
  rw [BitVec.getLsbD_ofNat]
  simp [hs]
/-- the sum over the set m of the first j -/
def pS (b : Nat → Nat) : Nat → Nat → Nat
  | 0, _ => 0
  | j + 1, m => pS b j m + (if m.testBit j = true then b j else 0)
/-- all below i -/
def pA (b : Nat → Nat) : Nat → Nat
  | 0 => 0
  | i + 1 => pA b i + b i
theorem pS_le {b : Nat → Nat} (hb : ∀ j, b j < 256) : ∀ j m, pS b j m ≤ 255 * j := by
  intro j m
  induction j with
  | zero => exact Nat.zero_le _
  | succ j ih =>
    show pS b j m + (if m.testBit j = true then b j else 0) ≤ _
    have := hb j
    split <;> omega
theorem pA_le {b : Nat → Nat} (hb : ∀ j, b j < 256) : ∀ j, pA b j ≤ 255 * j := by
  intro j
  induction j with
  | zero => exact Nat.zero_le _
  | succ j ih =>
    show pA b j + b j ≤ _
    have := hb j
    omega
theorem pS_cons (b : Nat → Nat) (j m : Nat) : pS b (j + 1) m = (if m.testBit 0 = true then b 0 else 0) + pS (fun k => b (k + 1)) j (m / 2) := by
  induction j with
  | zero =>
    show 0 + (if m.testBit 0 = true then b 0 else 0) = (if m.testBit 0 = true then b 0 else 0) + 0
    omega
  | succ j ih =>
    show pS b (j + 1) m + (if m.testBit (j + 1) = true then b (j + 1) else 0) = _ + (pS (fun k => b (k + 1)) j (m / 2) + (if (m / 2).testBit j = true then b (j + 1) else 0))
    rw [ih, Nat.testBit_succ]
    omega
theorem pA_cons (b : Nat → Nat) (i : Nat) : pA b (i + 1) = b 0 + pA (fun k => b (k + 1)) i := by
  induction i with
  | zero => show 0 + b 0 = b 0 + 0; omega
  | succ i ih =>
    show pA b (i + 1) + b (i + 1) = b 0 + (pA (fun k => b (k + 1)) i + b (i + 1))
    rw [ih]
    omega
/-- the set counted up by one takes in its lowest and loses all below -/
theorem pS_next : ∀ (i : Nat) (b : Nat → Nat) (j m : Nat), i < j → (m + 1).testBit i = true → (∀ k, k < i → (m + 1).testBit k = false) → pS b j (m + 1) + pA b i = pS b j m + b i := by
  intro i
  induction i with
  | zero =>
    intro b j m hj h1 _
    cases j with
    | zero => omega
    | succ j =>
      have o : (m + 1) % 2 = 1 := by simpa [Nat.testBit_zero] using h1
      have e : (m + 1) / 2 = m / 2 := by omega
      have z : m.testBit 0 = false := by rw [Nat.testBit_zero]; exact decide_eq_false (by omega)
      rw [pS_cons, pS_cons, h1, z, e]
      show _ + 0 = _
      simp
      omega
  | succ i ih =>
    intro b j m hj h1 h2
    cases j with
    | zero => omega
    | succ j =>
      have z1 : (m + 1).testBit 0 = false := h2 0 (by omega)
      have o : ¬ (m + 1) % 2 = 1 := by rw [Nat.testBit_zero] at z1; simpa using z1
      have e : (m + 1) / 2 = m / 2 + 1 := by omega
      have z : m.testBit 0 = true := by rw [Nat.testBit_zero]; exact decide_eq_true (by omega)
      have q := ih (fun k => b (k + 1)) j (m / 2) (by omega) (by rw [← e, ← Nat.testBit_succ]; exact h1) (fun k hk => by rw [← e, ← Nat.testBit_succ]; exact h2 (k + 1) (by omega))
      rw [pS_cons, pS_cons, pA_cons, z1, z, e]
      simp
      omega
theorem pS_0 (b : Nat → Nat) (j : Nat) : pS b j 0 = 0 := by
  induction j with
  | zero => rfl
  | succ j ih =>
    show pS b j 0 + (if (0 : Nat).testBit j = true then b j else 0) = 0
    rw [ih]
    simp
theorem shl_n {n : Nat} (hn : n ≤ 12) : (1 : Int32) <<< (nI n &&& 31) = nI (2 ^ n) := by
  have : ∀ i : Fin 13, (1 : Int32) <<< (nI i.val &&& 31) = nI (2 ^ i.val) := by decide +kernel
  exact this ⟨n, by omega⟩
theorem pow12 {n : Nat} (hn : n ≤ 12) : 2 ^ n ≤ 4096 := by
  have := Nat.pow_le_pow_right (n := 2) (by omega) hn
  omega
theorem sp_readSteps {G : GC} {d : Nat} {sw : Bool} {f : FF} {Q : QQ} {a n N fr ap : Nat} (ha : SH[a]? = some (0, 16)) (ha2 : 15 ≤ a ∧ a ≤ 19) (hn : n ≤ 12) (hT : TK f N) (hN : ∀ i, i < n → fr + i * ap < N)
    (hq : ∀ g, OS f g → (∀ c, c ≠ a → g c = f c) → (∀ i, i < n → g a i = nI (byt f (fr + i * ap)) - nI (pA (fun k => byt f (fr + k * ap)) i)) → Q none sw g) : XP G mX6_readSteps (d + 1) 0 [.ref 14, .ref a, .int (nI n), .int (nI fr), .int (nI ap), .null, .null, .null] [] sw f Q := by
  have loop : ∀ (m i : Nat) (g : FF) (v7 : Value), i + m = n → (∀ c, c ≠ a → g c = f c) → (∀ k, k < i → g a k = nI (byt f (fr + k * ap)) - nI (pA (fun k => byt f (fr + k * ap)) k)) → XP G mX6_readSteps (d + 1) 6 [.ref 14, .ref a, .int (nI n), .int (nI fr), .int (nI ap), .int (nI (pA (fun k => byt f (fr + k * ap)) i)), .int (nI i), v7] [] sw g Q := by
    intro m
    induction m with
    | zero =>
      intro i g v7 hi ho hr
      have z : i = n := by omega
      subst z
      have hle : nI i ≤ nI i := nI_le (Nat.le_refl _) (by omega)
      exact bX6_readSteps_6 ha (fun _ => hq g (fun c hc => ho c (by omega)) ho hr) (fun h => absurd hle h) (fun h => absurd hle h) (fun h => absurd hle h)
    | succ m ih =>
      intro i g v7 hi ho hr
      have nle : ¬ nI n ≤ nI i := nI_ge (by omega) (by omega)
      have n12 : ¬ (12 : Int32) ≤ nI i := by rw [n_12]; exact nI_ge (by omega) (by omega)
      have ix : nI fr + nI i * nI ap = nI (fr + i * ap) := by rw [pk_mul, nI_add]
      have tg : TK g N := hT.cg (ho 1 (by omega)) (ho 2 (by omega)) (ho 90 (by omega))
      have at1 : tAt g (nI (fr + i * ap)) = nI (byt f (fr + i * ap)) := by rw [tAt_byt tg (hN i (by omega)), byt_cg (ho 90 (by omega))]
      refine bX6_readSteps_6 ha (fun h => absurd h nle) (fun _ h => absurd h n12) (fun _ _ => vp_in_nI (by omega) (by omega)) (fun _ _ => ?_)
      rw [ix, at1, nI_clamp (by omega), nI_1, nI_add]
      refine ih (i + 1) _ _ (by omega) (fun c hc => by rw [upd2_ne _ _ _ hc]; exact ho c hc) (fun k hk => ?_)
      rw [upd2_self]
      by_cases y : k = i
      · subst y; rw [pk_us]
      · rw [pk_un y]; exact hr k (by omega)
  exact bX6_readSteps_0 ha (loop n 0 f _ (by omega) (fun _ _ => rfl) (fun k hk => absurd hk (by omega)))
theorem sp_lowestOf {G : GC} {d : Nat} {sw : Bool} {f : FF} {Q : QQ} {n m : Nat} (hn : n ≤ 12) (h0 : m ≠ 0) (hm : m < 2 ^ n)
    (hq : ∀ i, i < n → m.testBit i = true → (∀ k, k < i → m.testBit k = false) → Q (some (.int (nI i))) sw f) : XP G mX6_lowestOf d 0 [.int (nI m), .null] [] sw f Q := by
  have hm2 := pow12 hn
  obtain ⟨i, hi, hl⟩ := pk_least (fun i => m.testBit i = true) (Nat.exists_testBit_of_ne_zero h0)
  have hin : i < n := by
    rcases Nat.lt_or_ge i n with y | y
    · exact y
    · have : m.testBit i = false := Nat.testBit_lt_two_pow (Nat.lt_of_lt_of_le hm (Nat.pow_le_pow_right (by omega) y))
      rw [this] at hi
      exact absurd hi (by decide)
  have hl' : ∀ k, k < i → m.testBit k = false := fun k hk => by simpa using hl k hk
  have loop : ∀ (k j : Nat), j + k = i → XP G mX6_lowestOf d 2 [.int (nI m), .int (nI j)] [] sw f Q := by
    intro k
    induction k with
    | zero =>
      intro j hj
      have z : j = i := by omega
      subst z
      refine bX6_lowestOf_2 (fun _ => hq j hin hi hl') (fun _ _ => hq j hin hi hl') (fun _ h => ?_)
      rw [bit0_bt (by omega), bt_nI (by omega) (by omega), hi] at h
      exact absurd h (by decide)
    | succ k ih =>
      intro j hj
      have n11 : ¬ (11 : Int32) ≤ nI j := by rw [n_11]; exact nI_ge (by omega) (by omega)
      refine bX6_lowestOf_2 (fun h => absurd h n11) (fun _ h => ?_) (fun _ _ => ?_)
      · rw [bit1_bt (by omega), bt_nI (by omega) (by omega), hl' j (by omega)] at h
        exact absurd h (by decide)
      · rw [nI_1]; exact ih (j + 1) (by omega)
  exact bX6_lowestOf_0 (loop i 0 (by omega))
theorem sp_sumOf {G : GC} {d : Nat} {sw : Bool} {f : FF} {Q : QQ} {n m fr st : Nat} (hn : n ≤ 12) (hm : m < 2 ^ n) (hN : ∀ i, i < n → fr + st * i < 260)
    (hq : Q (some (.int (nI (pS (fun k => byt f (fr + k * st)) n m)))) sw f) : XP G mX11_sumOf (d + 1) 0 [.ref 82, .int (nI m), .int (nI n), .int (nI fr), .int (nI st), .null, .null] [] sw f Q := by
  have hm2 := pow12 hn
  have loop : ∀ (k j : Nat), j + k = n → XP G mX11_sumOf (d + 1) 6 [.ref 82, .int (nI m), .int (nI n), .int (nI fr), .int (nI st), .int (nI (pS (fun k => byt f (fr + k * st)) j m)), .int (nI j)] [] sw f Q := by
    intro k
    induction k with
    | zero =>
      intro j hj
      have z : j = n := by omega
      subst z
      have hle : nI j ≤ nI j := nI_le (Nat.le_refl _) (by omega)
      exact bX11_sumOf_6 (fun _ => hq) (fun h => absurd hle h) (fun h => absurd hle h) (fun h => absurd hle h)
    | succ k ih =>
      intro j hj
      have nle : ¬ nI n ≤ nI j := nI_ge (by omega) (by omega)
      have ix : nI fr + nI st * nI j = nI (fr + st * j) := by rw [pk_mul, nI_add]
      have hB : hasB (nI m) (nI j) ↔ m.testBit j = true := by rw [← bt_nI (m := m) (s := j) (by omega) (by omega)]; exact bitI_bt (by omega)
      have hlt := hN j (by omega)
      refine bX11_sumOf_6 (fun h => absurd h nle) (fun _ h => ?_) (fun _ _ => by rw [ix]; exact vp_in_nI hlt (by omega)) (fun _ h => ?_)
      · rw [hB] at h
        rw [nI_1]
        have := ih (j + 1) (by omega)
        rw [show pS (fun k => byt f (fr + k * st)) (j + 1) m = pS (fun k => byt f (fr + k * st)) j m + 0 from congrArg (_ + ·) (if_neg h), Nat.add_zero] at this
        exact this
      · rw [hB] at h
        rw [nI_1, ix, oct_byt (by omega), nI_add]
        have := ih (j + 1) (by omega)
        rw [show pS (fun k => byt f (fr + k * st)) (j + 1) m = pS (fun k => byt f (fr + k * st)) j m + byt f (fr + j * st) from congrArg (_ + ·) (if_pos h)] at this
        rw [Nat.mul_comm st j]
        exact this
  exact bX11_sumOf_0 (loop n 0 (by omega))
/-- a step of the class's sum -/
theorem step_sum {b : Nat → Nat} {n m i : Nat} (hi : i < n) (h1 : (m + 1).testBit i = true) (h2 : ∀ k, k < i → (m + 1).testBit k = false) : nI (pS b n m) + (nI (b i) - nI (pA b i)) = nI (pS b n (m + 1)) := by
  have e := pS_next i b n m hi h1 h2
  have : nI (pS b n (m + 1)) + nI (pA b i) = nI (pS b n m) + nI (b i) := by rw [nI_add, nI_add, e]
  rw [Int32.sub_eq_add_neg, ← Int32.add_assoc, ← Int32.sub_eq_add_neg, ← this, Int32.add_sub_cancel]
/-! ===== cut ===== -/
def ctS (b t : Nat → Nat) (n bd : Nat) : Nat → Nat × Nat
  | 0 => (0, 0)
  | m + 1 => if pS t n (m + 1) ≤ bd ∧ (ctS b t n bd m).1 < pS b n (m + 1) then (pS b n (m + 1), m + 1) else ctS b t n bd m
theorem ctS_le {b t : Nat → Nat} {n bd : Nat} (hb : ∀ j, b j < 256) (m : Nat) : (ctS b t n bd m).1 ≤ 255 * n ∧ (ctS b t n bd m).2 ≤ m := by
  induction m with
  | zero => exact ⟨Nat.zero_le _, Nat.zero_le _⟩
  | succ m ih =>
    unfold ctS
    split
    · exact ⟨pS_le hb n _, Nat.le_refl _⟩
    · exact ⟨ih.1, by omega⟩
theorem n_3060 : (3060 : Int32) = nI 3060 := rfl
theorem op_cut (G : GC) : OP18 G RR := by
  intro a1 a2 a3 sw f hR
  obtain ⟨h1, h2, h3, h4, h5, h6, h7⟩ := id hR
  by_cases c1 : 1 ≤ a1 ∧ a1 ≤ 12
  rotate_left
  · exact bX10_cut_0 (d := 996) (fun _ => ⟨_, rfl, bX11_cut_0 (d := 997) (fun _ => ⟨rfl, hR⟩) (fun h => absurd h c1) (fun h => absurd h c1) (fun h => absurd h c1) (fun h => absurd h c1)⟩) (fun h => absurd h c1) (fun h => absurd h c1) (fun h => absurd h c1)
  by_cases c2 : 0 ≤ a2 ∧ a2 ≤ 3060
  rotate_left
  · exact bX10_cut_0 (d := 996) (fun h => absurd c1 h) (fun _ _ => ⟨_, rfl, bX11_cut_0 (d := 997) (fun h => absurd c1 h) (fun _ _ => ⟨rfl, hR⟩) (fun _ h => absurd h c2) (fun _ h => absurd h c2) (fun _ h => absurd h c2)⟩) (fun _ h => absurd h c2) (fun _ h => absurd h c2)
  by_cases c3 : 0 ≤ a3 ∧ a3 ≤ 1
  rotate_left
  · exact bX10_cut_0 (d := 996) (fun h => absurd c1 h) (fun _ h => absurd c2 h) (fun _ _ _ => ⟨_, rfl, bX11_cut_0 (d := 997) (fun h => absurd c1 h) (fun _ h => absurd c2 h) (fun _ _ _ => ⟨rfl, hR⟩) (fun _ _ h => absurd h c3) (fun _ _ h => absurd h c3)⟩) (fun _ _ h => absurd h c3)
  obtain ⟨n, hn1, hn, rfl⟩ := le1_rng (K := 12) (by decide) c1 (by omega)
  obtain ⟨bd, hbd, rfl⟩ := rng (K := 3060) (by decide) c2
  have c3e : a3 = 0 ∨ a3 = 1 := by
    obtain ⟨w, hw, rfl⟩ := rng (K := 1) (by decide) c3
    have : w = 0 ∨ w = 1 := by omega
    rcases this with rfl | rfl
    · exact Or.inl rfl
    · exact Or.inr rfl
  have e2n : 2 * nI n = nI (2 * n) := by rw [n_2, pk_mul]
  have hp := pow12 hn
  have hp0 : 0 < 2 ^ n := Nat.two_pow_pos n
  refine bX10_cut_0 (d := 996) (fun h => absurd c1 h) (fun _ h => absurd c2 h) (fun _ _ h => absurd c3 h) (fun _ _ _ => ?_)
  rw [e2n]
  refine sp_take (by omega) h1 (fun hle g hs ht ho hpl => ?_) (fun hle => ?_)
  rotate_left
  · refine bX10_cut_40 (d := 996) (fun h => absurd rfl h) (fun h => absurd rfl h) (fun _ => ⟨_, rfl, ?_⟩)
    have hle2 : ¬ 2 * nI n ≤ f 82 10 := by rw [e2n, h1.2.1]; exact hle
    exact bX11_cut_0 (d := 997) (fun h => absurd c1 h) (fun _ h => absurd c2 h) (fun _ _ h => absurd c3 h) (fun _ _ _ h => absurd h hle2) (fun _ _ _ _ => ⟨rfl, hR⟩)
  have g90 : g 90 = f 90 := ho 90 (by omega)
  have b0 : ∀ k, (fun k => byt g (0 + k * 2)) k = (fun k => byt f (0 + k * 2)) k := fun k => byt_cg g90 _
  have main : XP G mX6_savedMost 998 0 [.ref 14, .int (nI n), .int (nI bd), .int a3, .null, .null, .null, .null, .null, .null] [] sw g (fun v' sw' f' => XP G mX10_cut 999 64 [.ref 0, .int (nI n), .int (nI bd), .int a3] (retst v' []) sw' f' (fun v sw1 f1 => ∃ r : Int32, v = some (.int r) ∧ XP G mX11_cut 999 0 [.ref 82, .int (nI n), .int (nI bd), .int a3, .null, .null, .null, .null] [] sw1 f1 (fun v2 sw2 f2 => v2 = some (.int r) ∧ RR sw2 f2))) := by
    refine bX6_savedMost_0 (d := 996) (sp_readSteps (fr := 0) (ap := 2) (N := 2 * n) sh15 (by omega) hn ht (fun i hi => by omega) (fun u os uo hu => ?_))
    refine bX6_savedMost_11 (d := 996) (sp_readSteps (fr := 1) (ap := 2) (N := 2 * n) sh16 (by omega) hn (os.TK ht) (fun i hi => by omega) (fun v os2 vo hv => ?_))
    refine bX6_savedMost_22 (d := 996) ?_
    have B1 : ∀ i, i < n → v 15 i = nI (byt f (0 + i * 2)) - nI (pA (fun k => byt f (0 + k * 2)) i) := fun i hi => by
      rw [vo 15 (by omega), hu i hi]
      simp only [byt_cg g90]
    have u90 : u 90 = f 90 := by rw [uo 90 (by omega), g90]
    have B2 : ∀ i, i < n → v 16 i = nI (byt f (1 + i * 2)) - nI (pA (fun k => byt f (1 + k * 2)) i) := fun i hi => by
      rw [hv i hi]
      simp only [byt_cg u90]
    have refL : ∀ (r : Int32), (r = if a3 = 0 then nI (ctS (fun k => byt f (0 + k * 2)) (fun k => byt f (1 + k * 2)) n bd (2 ^ n - 1)).1 else nI (ctS (fun k => byt f (0 + k * 2)) (fun k => byt f (1 + k * 2)) n bd (2 ^ n - 1)).2) → XP G mX11_cut 999 0 [.ref 82, .int (nI n), .int (nI bd), .int a3, .null, .null, .null, .null] [] sw v (fun v2 sw2 f2 => v2 = some (.int r) ∧ RR sw2 f2) := by
      intro r hr
      have hle2 : 2 * nI n ≤ v 82 10 := by rw [vo 82 (by omega), uo 82 (by omega), ho 82 (by omega), h1.2.1, e2n]; exact hle
      refine bX11_cut_0 (d := 997) (fun h => absurd c1 h) (fun _ h => absurd c2 h) (fun _ _ h => absurd c3 h) (fun _ _ _ _ => ?_) (fun _ _ _ h => absurd hle2 h)
      have fin : RR sw (upd2 v 82 10 0) := RR_sumsM hR ho ht.2.2.1 (os.tr os2) OM.rf
      have e90 : upd2 v 82 10 0 90 = f 90 := by rw [upd2_ne _ _ _ (by omega), vo 90 (by omega), u90]
      have loop : ∀ (k m : Nat) (v7 : Value), m + k = 2 ^ n - 1 → XP G mX11_cut 999 56 [.ref 82, .int (nI n), .int (nI bd), .int a3, .int (nI (ctS (fun k => byt f (0 + k * 2)) (fun k => byt f (1 + k * 2)) n bd m).2), .int (nI (ctS (fun k => byt f (0 + k * 2)) (fun k => byt f (1 + k * 2)) n bd m).1), .int (nI (m + 1)), v7] [] sw (upd2 v 82 10 0) (fun v2 sw2 f2 => v2 = some (.int r) ∧ RR sw2 f2) := by
        intro k
        induction k with
        | zero =>
          intro m v7 hm
          have z : m = 2 ^ n - 1 := by omega
          have hle9 : (1 : Int32) <<< (nI n &&& 31) ≤ nI (m + 1) := by rw [shl_n hn]; exact nI_le (by omega) (by omega)
          refine bX11_cut_56 (d := 997) (fun _ h => ⟨?_, fin⟩) (fun _ h => ⟨?_, fin⟩) (fun h => absurd hle9 h)
          · rw [hr, if_neg h, z]
          · rw [hr, if_pos h, z]
        | succ k ih =>
          intro m v7 hm
          have nle : ¬ (1 : Int32) <<< (nI n &&& 31) ≤ nI (m + 1) := by rw [shl_n hn]; exact nI_ge (by omega) (by omega)
          have cl := ctS_le (t := fun k => byt f (1 + k * 2)) (n := n) (bd := bd) (b := fun k => byt f (0 + k * 2)) (fun j => byt_lt f _) m
          have p1 := pS_le (b := fun k => byt f (0 + k * 2)) (fun j => byt_lt f _) n (m + 1)
          have p2 := pS_le (b := fun k => byt f (1 + k * 2)) (fun j => byt_lt f _) n (m + 1)
          refine bX11_cut_56 (d := 997) (fun h => absurd h nle) (fun h => absurd h nle) (fun _ => ?_)
          refine sp_sumOf (d := 997) (fr := 0) (st := 2) hn (by omega) (fun i hi => by omega) ?_
          simp only [byt_cg e90]
          have keep : ¬ (pS (fun k => byt f (1 + k * 2)) n (m + 1) ≤ bd ∧ (ctS (fun k => byt f (0 + k * 2)) (fun k => byt f (1 + k * 2)) n bd m).1 < pS (fun k => byt f (0 + k * 2)) n (m + 1)) → ∀ v7, XP G mX11_cut 999 56 [.ref 82, .int (nI n), .int (nI bd), .int a3, .int (nI (ctS (fun k => byt f (0 + k * 2)) (fun k => byt f (1 + k * 2)) n bd m).2), .int (nI (ctS (fun k => byt f (0 + k * 2)) (fun k => byt f (1 + k * 2)) n bd m).1), .int (nI (m + 1) + 1), v7] [] sw (upd2 v 82 10 0) (fun v2 sw2 f2 => v2 = some (.int r) ∧ RR sw2 f2) := by
            intro hk v7
            have := ih (m + 1) v7 (by omega)
            rw [show ctS (fun k => byt f (0 + k * 2)) (fun k => byt f (1 + k * 2)) n bd (m + 1) = ctS (fun k => byt f (0 + k * 2)) (fun k => byt f (1 + k * 2)) n bd m from if_neg hk] at this
            rw [nI_1]
            exact this
          refine bX11_cut_73 (d := 997) (fun h => ?_) (fun h => ?_)
          · rw [nI_leI (by omega) (by omega)] at h
            exact keep (by omega) _
          · rw [nI_leI (by omega) (by omega)] at h
            refine sp_sumOf (d := 997) (fr := 1) (st := 2) hn (by omega) (fun i hi => by omega) ?_
            simp only [byt_cg e90]
            refine bX11_cut_91 (d := 997) (fun h' => ?_) (fun h' => ?_)
            · rw [nI_leI (by omega) (by omega)] at h'
              have := ih (m + 1) (.int (nI (pS (fun k => byt f (0 + k * 2)) n (m + 1)))) (by omega)
              rw [show ctS (fun k => byt f (0 + k * 2)) (fun k => byt f (1 + k * 2)) n bd (m + 1) = (pS (fun k => byt f (0 + k * 2)) n (m + 1), m + 1) from if_pos (by omega)] at this
              rw [nI_1]
              exact this
            · rw [nI_leI (by omega) (by omega)] at h'
              exact keep (by omega) _
      exact loop (2 ^ n - 1) 0 _ (by omega)
    have loop : ∀ (k m : Nat) (v9 : Value), m + k = 2 ^ n - 1 → XP G mX6_savedMost 998 37 [.ref 14, .int (nI n), .int (nI bd), .int a3, .int (nI (pS (fun k => byt f (0 + k * 2)) n m)), .int (nI (pS (fun k => byt f (1 + k * 2)) n m)), .int (nI (ctS (fun k => byt f (0 + k * 2)) (fun k => byt f (1 + k * 2)) n bd m).1), .int (nI (ctS (fun k => byt f (0 + k * 2)) (fun k => byt f (1 + k * 2)) n bd m).2), .int (nI (m + 1)), v9] [] sw v (fun v' sw' f' => XP G mX10_cut 999 64 [.ref 0, .int (nI n), .int (nI bd), .int a3] (retst v' []) sw' f' (fun v sw1 f1 => ∃ r : Int32, v = some (.int r) ∧ XP G mX11_cut 999 0 [.ref 82, .int (nI n), .int (nI bd), .int a3, .null, .null, .null, .null] [] sw1 f1 (fun v2 sw2 f2 => v2 = some (.int r) ∧ RR sw2 f2))) := by
      intro k
      induction k with
      | zero =>
        intro m v9 hm
        have z : m = 2 ^ n - 1 := by omega
        have hle9 : (1 : Int32) <<< (nI n &&& 31) ≤ nI (m + 1) := by rw [shl_n hn]; exact nI_le (by omega) (by omega)
        refine bX6_savedMost_37 (d := 996) (fun _ h => bX10_cut_64 ⟨_, rfl, refL _ ?_⟩) (fun _ h => bX10_cut_64 ⟨_, rfl, refL _ ?_⟩) (fun h => absurd hle9 h)
        · rw [if_pos h, z]
        · rw [if_neg h, z]
      | succ k ih =>
        intro m v9 hm
        have nle : ¬ (1 : Int32) <<< (nI n &&& 31) ≤ nI (m + 1) := by rw [shl_n hn]; exact nI_ge (by omega) (by omega)
        have cl := ctS_le (t := fun k => byt f (1 + k * 2)) (n := n) (bd := bd) (b := fun k => byt f (0 + k * 2)) (fun j => byt_lt f _) m
        have p1 := pS_le (b := fun k => byt f (0 + k * 2)) (fun j => byt_lt f _) n (m + 1)
        have p2 := pS_le (b := fun k => byt f (1 + k * 2)) (fun j => byt_lt f _) n (m + 1)
        refine bX6_savedMost_37 (d := 996) (fun h => absurd h nle) (fun h => absurd h nle) (fun _ => ?_)
        refine sp_lowestOf hn (by omega) (by omega) (fun i hi t1 t2 => ?_)
        have s1 := step_sum (b := fun k => byt f (0 + k * 2)) hi t1 t2
        have s2 := step_sum (b := fun k => byt f (1 + k * 2)) hi t1 t2
        have E1 : nI (pS (fun k => byt f (0 + k * 2)) n m) + v 15 i = nI (pS (fun k => byt f (0 + k * 2)) n (m + 1)) := by rw [B1 i hi]; exact s1
        have E2 : nI (pS (fun k => byt f (1 + k * 2)) n m) + v 16 i = nI (pS (fun k => byt f (1 + k * 2)) n (m + 1)) := by rw [B2 i hi]; exact s2
        have keep : ¬ (pS (fun k => byt f (1 + k * 2)) n (m + 1) ≤ bd ∧ (ctS (fun k => byt f (0 + k * 2)) (fun k => byt f (1 + k * 2)) n bd m).1 < pS (fun k => byt f (0 + k * 2)) n (m + 1)) → ctS (fun k => byt f (0 + k * 2)) (fun k => byt f (1 + k * 2)) n bd (m + 1) = ctS (fun k => byt f (0 + k * 2)) (fun k => byt f (1 + k * 2)) n bd m := fun hk => if_neg hk
        refine bX6_savedMost_50 (d := 996) (vp_in_nI (by omega) (by omega)) (vp_in_nI (by omega) (by omega)) (fun h => ?_) (fun h h' => ?_) (fun h h' => ?_)
        · rw [nI_clamp (by omega), E2, nI_ltI (by omega) (by omega)] at h
          rw [nI_clamp (by omega), E1, E2, nI_1, ← keep (by omega)]
          exact ih (m + 1) _ (by omega)
        · rw [nI_clamp (by omega), E2, nI_ltI (by omega) (by omega)] at h
          rw [nI_clamp (by omega), E1, nI_leI (by omega) (by omega)] at h'
          rw [nI_clamp (by omega), E1, E2, nI_1, ← keep (by omega)]
          exact ih (m + 1) _ (by omega)
        · rw [nI_clamp (by omega), E2, nI_ltI (by omega) (by omega)] at h
          rw [nI_clamp (by omega), E1, nI_leI (by omega) (by omega)] at h'
          rw [nI_clamp (by omega), E1, E2, nI_1]
          have := ih (m + 1) (.int (nI i)) (by omega)
          rw [show ctS (fun k => byt f (0 + k * 2)) (fun k => byt f (1 + k * 2)) n bd (m + 1) = (pS (fun k => byt f (0 + k * 2)) n (m + 1), m + 1) from if_pos (by omega)] at this
          exact this
    have := loop (2 ^ n - 1) 0 .null (by omega)
    rw [pS_0, pS_0] at this
    exact this
  refine bX10_cut_40 (d := 996) (fun _ h => ?_) (fun _ h => ?_) (fun h => absurd h (by decide))
  · rcases c3e with rfl | rfl
    · exact main
    · exact absurd rfl h
  · subst h; exact main
