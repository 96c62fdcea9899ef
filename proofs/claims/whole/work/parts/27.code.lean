/-! ===== texts of one kind of sign ===== -/
def O1 (f g : FF) : Prop := ∀ c, c ≠ 1 → g c = f c
theorem O1.SX {sw : Bool} {f g : FF} (o : O1 f g) : SX sw f g := fun c j r => by
  rw [o c (by have := lwB_or sw; unfold relv at r; omega)]
theorem m1000 (x : Int32) : -1000 * 1 - x = -1000 - x := by rw [Int32.mul_one]
theorem sp_holdsOnly {G : GC} {d : Nat} {sw : Bool} {f : FF} {Q : QQ} {lo hi : Int32} {n : Nat} (hT : TK f n)
    (hy : (∀ j, j < n → lo ≤ f 2 j ∧ f 2 j ≤ hi) → ∀ g, O1 f g → TK g n → Q (some (.int 1)) sw g)
    (hz : ∀ j, j < n → (∀ m, m < j → lo ≤ f 2 m ∧ f 2 m ≤ hi) → ¬ (lo ≤ f 2 j ∧ f 2 j ≤ hi) → ∀ g, O1 f g → g 1 1 = 0 → g 1 5 = -1000 - nI j → Q (some (.int 0)) sw g) : XP G mX8_holdsOnly (d + 1) 0 [.ref 1, .int lo, .int hi] [] sw f Q := by
  have hn := hT.2.1
  have loop : ∀ (k j : Nat) (g : FF), j + k = n → O1 f g → TK g n → g 1 3 = nI j → (∀ m, m < j → lo ≤ f 2 m ∧ f 2 m ≤ hi) → XP G mX8_holdsOnly (d + 1) 5 [.ref 1, .int lo, .int hi] [] sw g Q := by
    intro k
    induction k with
    | zero =>
      intro j g hj ho ht hp hm
      have z : j = n := by omega
      subst z
      have hle : g 1 2 ≤ g 1 3 := by rw [ht.1, hp]; exact nI_le (Nat.le_refl _) (by omega)
      exact bX8_holdsOnly_5 (fun _ => hy hm g ho ht) (fun h => absurd hle h) (fun h => absurd hle h)
    | succ k ih =>
      intro j g hj ho ht hp hm
      have hnle : ¬ g 1 2 ≤ g 1 3 := by rw [ht.1, hp]; exact nI_ge (by omega) (by omega)
      have hat : tAt g (g 1 3) = f 2 j := by rw [hp, tAt_TK ht (by omega), ho 2 (by omega)]
      refine bX8_holdsOnly_5 (fun h => absurd h hnle) (fun _ h => ?_) (fun _ h => ?_)
      · rw [hat] at h
        rw [hp, nI_1]
        refine ih (j + 1) _ (by omega) (fun c hc => by rw [upd2_ne _ _ _ hc]; exact ho c hc) ⟨by rw [upd2_self, pk_un (by omega)]; exact ht.1, ht.2.1, by rw [upd2_self, pk_un (by omega)]; exact ht.2.2.1, fun m hm2 => by rw [upd2_ne _ _ _ (by omega), upd2_ne _ _ _ (by omega)]; exact ht.2.2.2 m hm2⟩ (by rw [upd2_self, pk_us]) (fun m hm2 => ?_)
        by_cases y : m = j
        · subst y; exact h
        · exact hm m (by omega)
      · rw [hat] at h
        refine bX8_fails_0 (bX8_holdsOnly_37 (Or.inl rfl) ?_)
        refine hz j (by omega) hm h _ (fun c hc => by rw [upd2_ne _ _ _ hc]; exact ho c hc) (by rw [upd2_self, pk_un (by omega)]; exact ht.2.2.1) (by rw [upd2_self, pk_us, hp, m1000])
  refine bX8_holdsOnly_0 (loop n 0 _ (by omega) (fun c hc => upd2_ne _ _ _ hc) ⟨by rw [upd2_self, pk_un (by omega)]; exact hT.1, hT.2.1, by rw [upd2_self, pk_un (by omega)]; exact hT.2.2.1, fun m hm2 => by rw [upd2_ne _ _ _ (by omega), upd2_ne _ _ _ (by omega)]; exact hT.2.2.2 m hm2⟩ (by rw [upd2_self, pk_us]; rfl) (fun m h => absurd h (by omega)))
theorem sp_faultOfDigits {G : GC} {d : Nat} {sw : Bool} {f : FF} {Q : QQ} {n : Nat} (hn : n ≤ 260)
    (hy : (∀ j, j < n → 48 ≤ f 90 j &&& 255 ∧ f 90 j &&& 255 ≤ 57) → Q (some (.int 0)) sw f)
    (hz : ∀ j, j < n → (∀ m, m < j → 48 ≤ f 90 m &&& 255 ∧ f 90 m &&& 255 ≤ 57) → ¬ (48 ≤ f 90 j &&& 255 ∧ f 90 j &&& 255 ≤ 57) → Q (some (.int (-1000 - nI j))) sw f) : XP G mX11_faultOfDigits (d + 1) 0 [.ref 82, .int (nI n), .null] [] sw f Q := by
  have loop : ∀ (k j : Nat), j + k = n → (∀ m, m < j → 48 ≤ f 90 m &&& 255 ∧ f 90 m &&& 255 ≤ 57) → XP G mX11_faultOfDigits (d + 1) 2 [.ref 82, .int (nI n), .int (nI j)] [] sw f Q := by
    intro k
    induction k with
    | zero =>
      intro j hj hm
      have z : j = n := by omega
      subst z
      have hle : nI j ≤ nI j := nI_le (Nat.le_refl _) (by omega)
      exact bX11_faultOfDigits_2 (fun _ => hy hm) (fun h => absurd hle h) (fun h => absurd hle h) (fun h => absurd hle h)
    | succ k ih =>
      intro j hj hm
      have ho : oct f (nI j) = f 90 j &&& 255 := by unfold oct; rw [nI_clamp (by omega)]
      refine bX11_faultOfDigits_2 (fun h => absurd h (nI_ge (by omega) (by omega))) (fun _ => vp_in_nI (by omega) (by omega)) (fun _ h => ?_) (fun _ h => ?_)
      · rw [ho] at h
        rw [nI_1]
        refine ih (j + 1) (by omega) (fun m hm2 => ?_)
        by_cases y : m = j
        · subst y; exact h
        · exact hm m (by omega)
      · rw [ho] at h
        exact hz j (by omega) hm h
  exact bX11_faultOfDigits_0 (loop n 0 (by omega) (fun m h => absurd h (by omega)))
/-! ===== a row of digits is loaded ===== -/
theorem sp_load {G : GC} {d : Nat} {sw : Bool} {f : FF} {Q : QQ} {e n : Nat} (he : e < 9) (hn1 : 1 ≤ n) (hn : n ≤ 12) (hT : TK f n)
    (hy : (∀ j, j < n → 48 ≤ f 2 j ∧ f 2 j ≤ 57) → ∀ g, (∀ c, c ≠ 1 → c ≠ 12 → c ≠ 13 → g c = f c) → g 1 1 = 0 → g 13 = upd (f 13) e (nI n) → (∀ k, g 12 k = if 12 * e ≤ k ∧ k < 12 * e + n then f 2 (k - 12 * e) - 48 else f 12 k) → Q (some (.int (nI n))) sw g)
    (hz : ∀ j, j < n → (∀ m, m < j → 48 ≤ f 2 m ∧ f 2 m ≤ 57) → ¬ (48 ≤ f 2 j ∧ f 2 j ≤ 57) → ∀ g, O1 f g → g 1 1 = 0 → Q (some (.int (-1000 - nI j))) sw g) : XP G mX4_load (d + 2) 0 [.ref 11, .int (nI e), .int (nI n), .null] [] sw f Q := by
  refine bX4_load_0 (sp_holdsOnly (d := d) hT (fun hg g ho ht => ?_) (fun j hj hm hb g ho h1 h5 => ?_))
  · refine bX4_load_11 (fun _ => ?_) (fun h => absurd h (by decide))
    have loop : ∀ (k j : Nat) (u : FF), j + k = n → (∀ c, c ≠ 12 → u c = g c) → (∀ i, u 12 i = if 12 * e ≤ i ∧ i < 12 * e + j then f 2 (i - 12 * e) - 48 else f 12 i) → XP G mX4_load (d + 2) 24 [.ref 11, .int (nI e), .int (nI n), .int (nI j)] [] sw u Q := by
      intro k
      induction k with
      | zero =>
        intro j u hj hu hd
        have z : j = n := by omega
        subst z
        have hle : nI j ≤ nI j := nI_le (Nat.le_refl _) (by omega)
        refine bX4_load_24 (fun _ => vp_in_nI he (by omega)) (fun _ => ?_) (fun h => absurd hle h) (fun h => absurd hle h) (fun h => absurd hle h) (fun h => absurd hle h)
        rw [nI_clamp (by omega)]
        refine hy hg _ (fun c q1 q2 q3 => by rw [upd2_ne _ _ _ q3, hu c q2, ho c q1]) (by rw [upd2_ne _ _ _ (by omega), hu 1 (by omega)]; exact ht.2.2.1) (by rw [upd2_self, hu 13 (by omega), ho 13 (by omega)]) (fun i => by rw [upd2_ne _ _ _ (by omega)]; exact hd i)
      | succ k ih =>
        intro j u hj hu hd
        have e1 : (nI e * 12 + nI j) = nI (12 * e + j) := by rw [n_12, pk_mul, nI_add, show e * 12 + j = 12 * e + j by omega]
        have htu : TK u n := ⟨by rw [hu 1 (by omega)]; exact ht.1, ht.2.1, by rw [hu 1 (by omega)]; exact ht.2.2.1, fun m hm => by rw [hu 2 (by omega), hu 90 (by omega)]; exact ht.2.2.2 m hm⟩
        refine bX4_load_24 (fun h => absurd h (nI_ge (by omega) (by omega))) (fun h => absurd h (nI_ge (by omega) (by omega))) (fun _ h => absurd h (nI_ge (a := j) (b := 12) (by omega) (by omega))) (fun _ h => absurd h (nI_ge (a := j) (b := 12) (by omega) (by omega))) (fun _ _ => ?_) (fun _ _ => ?_)
        · rw [e1]; exact vp_in_nI (by omega) (by omega)
        · rw [e1, nI_clamp (by omega), nI_1, tAt_TK htu (by omega), hu 2 (by omega), ho 2 (by omega)]
          refine ih (j + 1) _ (by omega) (fun c hc => by rw [upd2_ne _ _ _ hc]; exact hu c hc) (fun i => ?_)
          rw [upd2_self]
          by_cases y : i = 12 * e + j
          · subst y
            rw [pk_us, if_pos (by omega), show 12 * e + j - 12 * e = j by omega]
          · rw [pk_un y, hd i]
            by_cases y2 : 12 * e ≤ i ∧ i < 12 * e + j
            · rw [if_pos y2, if_pos (by omega)]
            · rw [if_neg y2, if_neg (by omega)]
    exact loop n 0 g (by omega) (fun _ _ => rfl) (fun i => by rw [if_neg (by omega), ho 12 (by omega)])
  · refine bX4_load_11 (fun h => absurd rfl h) (fun _ => ?_)
    rw [h5]
    exact hz j hj hm hb g ho h1
theorem le1_rng {x y : Int32} {K : Nat} (hy : y.toInt = K) (h : 1 ≤ x ∧ x ≤ y) (hK : K < 2 ^ 31) : ∃ i : Nat, 1 ≤ i ∧ i ≤ K ∧ x = nI i := by
  obtain ⟨i, h1, rfl⟩ := rng hy ⟨Int32.le_trans (by decide) h.1, h.2⟩
  exact ⟨i, (nI_leI (a := 1) (by omega) (by omega)).mp h.1, h1, rfl⟩
-- (two rows of NUMBERS.to-paste)
theorem fa_byte_low (x : Int32) : (x &&& 255).toInt8 = x.toInt8 := by
  apply Int8.toBitVec_inj.1
  apply BitVec.eq_of_getLsbD_eq
  intro i hi
  have h2 : (255 : Int32).toBitVec.getLsbD i = true := by
    have : ∀ j : Fin 8, (255 : Int32).toBitVec.getLsbD j.val = true := by decide +kernel
    exact this ⟨i, hi⟩
  have h4 : (x &&& 255).toBitVec.getLsbD i = x.toBitVec.getLsbD i := by
    show (x.toBitVec &&& (255 : Int32).toBitVec).getLsbD i = _
    rw [BitVec.getLsbD_and, h2, Bool.and_true]
  have h3 : i < 32 := by omega
  first
    | (show (((x &&& 255).toBitVec).signExtend 8).getLsbD i = (x.toBitVec.signExtend 8).getLsbD i; rw [BitVec.getLsbD_signExtend, BitVec.getLsbD_signExtend, if_pos h3, if_pos h3, h4])
    | (show (((x &&& 255).toBitVec).setWidth 8).getLsbD i = (x.toBitVec.setWidth 8).getLsbD i; rw [BitVec.getLsbD_setWidth, BitVec.getLsbD_setWidth, h4])
    | (simp [hi, h3, h4]; done)
theorem fa_byte_small {n : Nat} (h : n < 128) : (nI n).toInt8.toInt32 = nI n := by
  have : ∀ j : Fin 128, (nI j.val).toInt8.toInt32 = nI j.val := by decide +kernel
  exact this ⟨n, h⟩
/-- a byte that is a digit -/
theorem byteN (x : Int32) : ∃ m : Nat, m < 256 ∧ x &&& 255 = nI m := pk_andE x 8 (by decide)
theorem dig8 {x : Int32} (h : x &&& 255 ≤ 57) : x.toInt8.toInt32 = x &&& 255 := by
  obtain ⟨m, hm, e⟩ := byteN x
  have h57 : m ≤ 57 := (nI_leI (b := 57) (by omega) (by omega)).mp (by rw [← e]; exact h)
  rw [← fa_byte_low x, e, fa_byte_small (by omega)]
/-- behind both: a code of e is what was read -/
theorem RP_code {f g : FF} (hP : RP f) {e n : Nat} (he : e < 8) (hn : n ≤ 6) (hg : ∀ j, j < n → 48 ≤ f 90 j &&& 255 ∧ f 90 j &&& 255 ≤ 57)
    (h13 : ∀ k, k < 8 → g 13 k = if k = e then nI n else f 13 k) (h113 : ∀ k, k < 8 → g 113 k = if k = e then nI n else f 113 k)
    (h12 : ∀ k, k < 96 → g 12 k = if 12 * e ≤ k ∧ k < 12 * e + n then (f 90 (k - 12 * e) &&& 255) - 48 else f 12 k)
    (h112 : ∀ k, k < 48 → g 112 k = if 6 * e ≤ k ∧ k < 6 * e + n then f 90 (k - 6 * e) &&& 255 else f 112 k) : RP g := by
  intro a ha
  rw [h13 a ha, h113 a ha]
  by_cases z : a = e
  · subst z
    rw [if_pos rfl, if_pos rfl]
    refine ⟨rfl, nI_isN hn (by omega), fun j hj => ?_⟩
    rw [nI_toInt (by omega)] at hj
    rw [h112 _ (by omega), h12 _ (by omega), if_pos (by omega), if_pos (by omega), show 6 * a + j - 6 * a = j by omega, show 12 * a + j - 12 * a = j by omega]
    obtain ⟨m, hm, em⟩ := byteN (f 90 j)
    have q := hg j (by omega)
    rw [em] at q ⊢
    have q1 : 48 ≤ m := (nI_leI (a := 48) (by omega) (by omega)).mp q.1
    have q2 : m ≤ 57 := (nI_leI (b := 57) (by omega) (by omega)).mp q.2
    rw [n_48, pk_sub q1, nI_add, show m - 48 + 48 = m by omega]
    exact ⟨rfl, nI_isN (by omega) (by omega)⟩
  · rw [if_neg z, if_neg z]
    obtain ⟨p1, p2, p3⟩ := hP a ha
    refine ⟨p1, p2, fun j hj => ?_⟩
    have := p2.2
    rw [h112 _ (by omega), h12 _ (by omega), if_neg (by omega), if_neg (by omega)]
    exact p3 j hj
theorem n_le {n : Nat} {x y : Int32} (h : y = x) : (nI n ≤ y) = (nI n ≤ x) := by rw [h]
theorem op_code (G : GC) : OP7 G RR := by
  intro a1 a2 sw f hR
  obtain ⟨h1, h2, h3, h4, h5, h6, h7⟩ := id hR
  by_cases c1 : 0 ≤ a1 ∧ a1 ≤ 7
  · by_cases c2 : 1 ≤ a2 ∧ a2 ≤ 6
    · obtain ⟨e, he, rfl⟩ := rng (K := 7) (by decide) c1
      obtain ⟨n, hn1, hn, rfl⟩ := le1_rng (K := 6) (by decide) c2 (by omega)
      have hR2 : RT f := h1
      refine bX10_code_0 (d := 996) (fun h => absurd c1 h) (fun _ h => absurd c2 h) (fun _ _ => ?_)
      refine sp_take (by omega) h1 (fun hle g hs ht ho hp => ?_) (fun hle => ?_)
      · refine bX10_code_25 (fun _ => ?_) (fun h => absurd h (by decide))
        have hle2 : nI n ≤ g 82 10 := by rw [ho 82 (by omega), h1.2.1]; exact hle
        have gb : ∀ j, j < n → (f 90 j &&& 255) = g 2 j := fun j hj => by rw [ht.2.2.2 j hj, ho 90 (by omega)]
        refine sp_load (d := 996) (by omega) hn1 (by omega) ht (fun hgd u q1 q2 q3 q4 => bX10_code_39 ⟨_, rfl, ?_⟩) (fun j hj hm hb u o1 q2 => bX10_code_39 ⟨_, rfl, ?_⟩)
        · have hle3 : nI n ≤ u 82 10 := by rw [q1 82 (by omega) (by omega) (by omega)]; exact hle2
          have u90 : u 90 = f 90 := by rw [q1 90 (by omega) (by omega) (by omega), ho 90 (by omega)]
          have hgd2 : ∀ j, j < n → 48 ≤ f 90 j &&& 255 ∧ f 90 j &&& 255 ≤ 57 := fun j hj => by rw [gb j hj]; exact hgd j hj
          refine bX11_code_0 (d := 997) (fun h => absurd c1 h) (fun _ h => absurd c2 h) (fun _ _ _ => ?_) (fun _ _ h => absurd hle3 h)
          refine sp_faultOfDigits (d := 997) (by omega) (fun _ => ?_) (fun j hj hm hb => ?_)
          · refine bX11_code_40 (d := 997) (fun _ => vp_in_nI (by omega) (by omega)) (fun _ => ?_) (fun h => absurd rfl h)
            rw [nI_clamp (by omega)]
            -- the copy
            have loop : ∀ (k j : Nat) (w : FF), j + k = n → (∀ c, c ≠ 112 → w c = upd2 (upd2 u 82 10 0) 113 e (nI n) c) → (∀ i, i < 48 → w 112 i = if 6 * e ≤ i ∧ i < 6 * e + j then f 90 (i - 6 * e) &&& 255 else f 112 i) → XP G mX11_code 999 57 [.ref 82, .int (nI e), .int (nI n), .int 0, .int (nI j)] [] sw w (fun v2 sw2 f2 => v2 = some (.int (nI n)) ∧ RR sw2 f2) := by
              intro k
              induction k with
              | zero =>
                intro j w hj hw hd
                have z : j = n := by omega
                subst z
                have hle9 : nI j ≤ nI j := nI_le (Nat.le_refl _) (by omega)
                refine bX11_code_57 (d := 997) (fun _ => ⟨rfl, ?_⟩) (fun h => absurd hle9 h) (fun h => absurd hle9 h) (fun h => absurd hle9 h)
                have wo : ∀ c, c ≠ 112 → c ≠ 113 → c ≠ 82 → c ≠ 1 → c ≠ 12 → c ≠ 13 → w c = f c := fun c k1 k2 k3 k4 k5 k6 => by rw [hw c k1, upd2_ne _ _ _ k2, upd2_ne _ _ _ k3, q1 c k4 k5 k6, ho c k4]
                have w82 : ∀ i, i ≠ 10 → w 82 i = f 82 i := fun i hi => by rw [hw 82 (by omega), upd2_ne _ _ _ (by omega), upd2_self, pk_un hi, q1 82 (by omega) (by omega) (by omega), ho 82 (by omega)]
                refine ⟨RT_empty (by rw [hw 1 (by omega), upd2_ne _ _ _ (by omega), upd2_ne _ _ _ (by omega)]; exact q2) (by rw [hw 82 (by omega), upd2_ne _ _ _ (by omega), upd2_self, pk_us]) (fun i => by rw [hw 90 (by omega), upd2_ne _ _ _ (by omega), upd2_ne _ _ _ (by omega), u90]; exact h1.2.2.2 i), h2.cg (wo 4 (by omega) (by omega) (by omega) (by omega) (by omega) (by omega)) (wo 6 (by omega) (by omega) (by omega) (by omega) (by omega) (by omega)) (wo 86 (by omega) (by omega) (by omega) (by omega) (by omega) (by omega)), h3.cg (w82 4 (by omega)) (w82 5 (by omega)) (by rw [wo 32 (by omega) (by omega) (by omega) (by omega) (by omega) (by omega)]) (by rw [wo 32 (by omega) (by omega) (by omega) (by omega) (by omega) (by omega)]), ?_, h5.cg (fun k hk => by have := lwB_in sw hk; exact wo _ (by omega) (by omega) (by omega) (by omega) (by omega) (by omega)) (w82 19 (by omega)) (fun k q1 q2 => wo k (by omega) (by omega) (by omega) (by omega) (by omega) (by omega)), h6.cg (fun k hk => wo _ (by omega) (by omega) (by omega) (by omega) (by omega) (by omega)) (wo 83 (by omega) (by omega) (by omega) (by omega) (by omega) (by omega)), h7.cg (w82 47 (by omega)) (by rw [wo 0 (by omega) (by omega) (by omega) (by omega) (by omega) (by omega)]) (fun k hk => wo _ (by omega) (by omega) (by omega) (by omega) (by omega) (by omega)) (wo 85 (by omega) (by omega) (by omega) (by omega) (by omega) (by omega))⟩
                refine RP_code h4 (by omega) hn hgd2 (fun k hk => ?_) (fun k hk => ?_) (fun k hk => ?_) hd
                · rw [hw 13 (by omega), upd2_ne _ _ _ (by omega), upd2_ne _ _ _ (by omega), q3, ho 13 (by omega)]
                  rfl
                · rw [hw 113 (by omega), upd2_self, upd2_ne _ _ _ (by omega), q1 113 (by omega) (by omega) (by omega), ho 113 (by omega)]
                  rfl
                · rw [hw 12 (by omega), upd2_ne _ _ _ (by omega), upd2_ne _ _ _ (by omega), q4 k, ho 12 (by omega)]
                  by_cases y : 12 * e ≤ k ∧ k < 12 * e + j
                  · rw [if_pos y, if_pos y, gb _ (by omega)]
                  · rw [if_neg y, if_neg y]
              | succ k ih =>
                intro j w hj hw hd
                have e1 : (6 * nI e + nI j) = nI (6 * e + j) := by rw [n_6, pk_mul, nI_add]
                have w90 : w 90 = f 90 := by rw [hw 90 (by omega), upd2_ne _ _ _ (by omega), upd2_ne _ _ _ (by omega), u90]
                refine bX11_code_57 (d := 997) (fun h => absurd h (nI_ge (by omega) (by omega))) (fun _ => vp_in_nI (by omega) (by omega)) (fun _ => ?_) (fun _ => ?_)
                · rw [e1]; exact vp_in_nI (by omega) (by omega)
                · rw [e1, nI_clamp (by omega), nI_clamp (by omega), nI_1, w90, dig8 (hgd2 j (by omega)).2]
                  refine ih (j + 1) _ (by omega) (fun c hc => by rw [upd2_ne _ _ _ hc]; exact hw c hc) (fun i hi => ?_)
                  rw [upd2_self]
                  by_cases y : i = 6 * e + j
                  · subst y
                    rw [pk_us, if_pos (by omega), show 6 * e + j - 6 * e = j by omega]
                  · rw [pk_un y, hd i hi]
                    by_cases y2 : 6 * e ≤ i ∧ i < 6 * e + j
                    · rw [if_pos y2, if_pos (by omega)]
                    · rw [if_neg y2, if_neg (by omega)]
            refine loop n 0 _ (by omega) (fun c _ => rfl) (fun i hi => ?_)
            rw [if_neg (by omega), upd2_ne _ _ _ (by omega), upd2_ne _ _ _ (by omega), q1 112 (by omega) (by omega) (by omega), ho 112 (by omega)]
          · rw [upd2_ne _ _ _ (by omega), u90] at hb
            exact absurd (hgd2 j hj) hb
        · have hle3 : nI n ≤ u 82 10 := by rw [o1 82 (by omega)]; exact hle2
          have u90 : u 90 = f 90 := by rw [o1 90 (by omega), ho 90 (by omega)]
          have sx : SX sw f (upd2 u 82 10 0) := (hs.tr o1.SX).up (by have := lwB_or sw; unfold relv; omega)
          have hRf : RR sw (upd2 u 82 10 0) := hR.ofSX sx (RT_empty (by rw [upd2_ne _ _ _ (by omega)]; exact q2) (by rw [upd2_self, pk_us]) (fun i => by rw [upd2_ne _ _ _ (by omega), u90]; exact h1.2.2.2 i))
          refine bX11_code_0 (d := 997) (fun h => absurd c1 h) (fun _ h => absurd c2 h) (fun _ _ _ => ?_) (fun _ _ h => absurd hle3 h)
          have v90 : upd2 u 82 10 0 90 = f 90 := by rw [upd2_ne _ _ _ (by omega), u90]
          refine sp_faultOfDigits (d := 997) (by omega) (fun hall => ?_) (fun j2 hj2 hm2 hb2 => ?_)
          · have := hall j hj
            rw [v90, gb j hj] at this
            exact absurd this hb
          · have ej : j2 = j := by
              rcases Nat.lt_trichotomy j2 j with y | y | y
              · have := hm j2 y
                rw [← gb j2 hj2] at this
                rw [v90] at hb2
                exact absurd this hb2
              · exact y
              · have := hm2 j y
                rw [v90, gb j hj] at this
                exact absurd this hb
            subst ej
            have hne : ¬ (-1000 - nI j2 : Int32) = 0 := by
              have : j2 < 6 := by omega
              have key : ∀ m : Fin 6, ¬ (-1000 - nI m.val : Int32) = 0 := by decide +kernel
              exact key ⟨j2, this⟩
            exact bX11_code_40 (d := 997) (fun h => absurd h hne) (fun h => absurd h hne) (fun _ => ⟨rfl, hRf⟩)
      · refine bX10_code_25 (fun h => absurd rfl h) (fun _ => ⟨_, rfl, ?_⟩)
        have hle2 : ¬ nI n ≤ f 82 10 := by rw [h1.2.1]; exact hle
        exact bX11_code_0 (d := 997) (fun h => absurd c1 h) (fun _ h => absurd c2 h) (fun _ _ h => absurd h hle2) (fun _ _ _ => ⟨rfl, hR⟩)
    · exact bX10_code_0 (d := 996) (fun h => absurd c1 h) (fun _ _ => ⟨_, rfl, bX11_code_0 (d := 997) (fun h => absurd c1 h) (fun _ _ => ⟨rfl, hR⟩) (fun _ h => absurd h c2) (fun _ h => absurd h c2)⟩) (fun _ h => absurd h c2)
  · exact bX10_code_0 (d := 996) (fun _ => ⟨_, rfl, bX11_code_0 (d := 997) (fun _ => ⟨rfl, hR⟩) (fun h => absurd h c1) (fun h => absurd h c1) (fun h => absurd h c1)⟩) (fun h => absurd h c1) (fun h => absurd h c1)
