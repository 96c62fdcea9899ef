/-! ===== bits of sets of subscribers ===== -/
theorem bt_ext {a b : Int32} (h : ∀ s, s < 32 → bt a s = bt b s) : a = b := by
  apply Int32.toBitVec_inj.1
  apply BitVec.eq_of_getLsbD_eq
  intro i hi
  exact h i hi
theorem bt_and (a b : Int32) (s : Nat) : bt (a &&& b) s = (bt a s && bt b s) := by simp [bt]
theorem bt_or (a b : Int32) (s : Nat) : bt (a ||| b) s = (bt a s || bt b s) := by simp [bt]
theorem bt_m1 {s : Nat} (hs : s < 32) : bt (-1) s = true := by
  have : ∀ i : Fin 32, bt (-1) i.val = true := by decide +kernel
  exact this ⟨s, hs⟩
theorem bt_not (a : Int32) {s : Nat} (hs : s < 32) : bt (a ^^^ (-1)) s = !bt a s := by
  have h := bt_m1 hs
  unfold bt at h ⊢
  rw [Int32.toBitVec_xor, BitVec.getLsbD_xor, h]
  simp
theorem bt_one {i s : Nat} (hi : i < 32) (hs : s < 32) : bt ((1 : Int32) <<< (nI i &&& 31)) s = decide (s = i) := by
  have : ∀ a b : Fin 32, bt ((1 : Int32) <<< (nI a.val &&& 31)) b.val = decide (b.val = a.val) := by decide +kernel
  exact this ⟨i, hi⟩ ⟨s, hs⟩
theorem odd_bt (x : Int32) : x &&& 1 = 1 ↔ bt x 0 = true := by
  rw [pk_and x (m := 1) 1 (by decide)]
  have e : bt x 0 = decide (x.toBitVec.toNat % 2 = 1) := by
    show x.toBitVec.getLsbD 0 = _
    rw [BitVec.getLsbD, Nat.testBit_zero]
  rw [e, decide_eq_true_iff]
  have h2 : x.toBitVec.toNat % 2 ^ 1 = x.toBitVec.toNat % 2 := by rw [Nat.pow_one]
  rw [h2]
  exact nI_eq (b := 1) (by omega) (by omega)
theorem even_bt (x : Int32) : x &&& 1 = 0 ↔ bt x 0 = false := by
  rw [pk_and x (m := 1) 1 (by decide)]
  have e : bt x 0 = decide (x.toBitVec.toNat % 2 = 1) := by
    show x.toBitVec.getLsbD 0 = _
    rw [BitVec.getLsbD, Nat.testBit_zero]
  rw [e, decide_eq_false_iff_not]
  have h2 : x.toBitVec.toNat % 2 ^ 1 = x.toBitVec.toNat % 2 := by rw [Nat.pow_one]
  rw [h2]
  have := nI_eq (a := x.toBitVec.toNat % 2) (b := 0) (by omega) (by omega)
  constructor
  · intro h; have := this.mp h; omega
  · intro h; exact this.mpr (by omega)
theorem bt_shr (x : Int32) {s : Nat} (hs : s < 32) : bt (x >>> (nI s &&& 31)) 0 = bt x s := by
  have e : ∀ i : Fin 32, ((nI i.val &&& 31).toBitVec.smod 32).toNat = i.val := by decide +kernel
  have e2 := e ⟨s, hs⟩
  unfold bt
  rw [Int32.toBitVec_shiftRight]
  unfold BitVec.sshiftRight'
  rw [e2, BitVec.getLsbD_sshiftRight]
  simp [hs]
theorem bitI_bt {m : Int32} {s : Nat} (hs : s < 32) : bitI m (nI s) ↔ bt m s = true := by
  show (m >>> (nI s &&& 31)) &&& 1 = 1 ↔ _
  rw [odd_bt, bt_shr m hs]
theorem bit0_bt {m : Int32} {s : Nat} (hs : s < 32) : (m >>> (nI s &&& 31)) &&& 1 = 0 ↔ bt m s = false := by
  rw [even_bt, bt_shr m hs]
theorem bt_zero (s : Nat) : bt 0 s = false := bt_0 s
theorem and1_bt {m : Int32} {s : Nat} (hs : s < 32) : m &&& ((1 : Int32) <<< (nI s &&& 31)) = 0 ↔ bt m s = false := by
  constructor
  · intro h
    have h2 : bt (m &&& ((1 : Int32) <<< (nI s &&& 31))) s = false := by rw [h]; exact bt_0 s
    rw [bt_and, bt_one hs hs] at h2
    simpa using h2
  · intro h
    apply bt_ext
    intro i hi
    rw [bt_and, bt_one hs hi, bt_0]
    by_cases y : i = s
    · subst y; simp [h]
    · simp [y]
/-! ===== check ===== -/
theorem toldM_iff {f : FF} {s : Nat} (hs : s < 16) : toldM f (nI s) ↔ f 83 s = 1 := by
  unfold toldM
  rw [nI_clamp (by omega)]
  exact ⟨fun h => h.2, fun h => ⟨⟨nI_pos' (by omega), nI_le (b := 15) (by omega) (by omega)⟩, h⟩⟩
theorem toldC_iff {f : FF} (hW : RW f 43 83) {s : Nat} (hs : s < 16) : ((0 ≤ nI s ∧ nI s ≤ 15) ∧ bitI (f 43 0) (nI s)) ↔ f 83 s = 1 := by
  rw [bitI_bt (by omega)]
  have := (hW.2.1 s hs).2.1
  rw [this]
  exact ⟨fun h => h.2, fun h => ⟨⟨nI_pos' (by omega), nI_le (b := 15) (by omega) (by omega)⟩, h⟩⟩
theorem op_check (G : GC) : OP30 G RR := by
  intro a1 sw f hR
  obtain ⟨h1, h2, h3, h4, h5, h6, h7⟩ := id hR
  by_cases c1 : 0 ≤ a1 ∧ a1 ≤ 16
  · obtain ⟨n, hn, rfl⟩ := rng (K := 16) (by decide) c1
    refine bX10_check_0 (d := 996) (fun h => absurd c1 h) (fun _ => ?_)
    refine sp_take (by omega) h1 (fun hle g hs ht ho hp => ?_) (fun hle => ?_)
    · refine bX10_check_18 (fun _ => ?_) (fun h => absurd h (by decide))
      have hle2 : nI n ≤ g 82 10 := by rw [ho 82 (by omega), h1.2.1]; exact hle
      have gb : ∀ j, j < n → g 2 j = f 90 j &&& 255 := fun j hj => by rw [ht.2.2.2 j hj, ho 90 (by omega)]
      have sx : SX sw f (upd2 g 82 10 0) := hs.up (by have := lwB_or sw; unfold relv; omega)
      have hRf : RR sw (upd2 g 82 10 0) := hR.ofSX sx (RT_empty (by rw [upd2_ne _ _ _ (by omega)]; exact ht.2.2.1) (by rw [upd2_self, pk_us]) (fun i => by rw [upd2_ne _ _ _ (by omega), ho 90 (by omega)]; exact h1.2.2.2 i))
      have hWg : RW g 43 83 := h6.cg (fun k hk => ho _ (by omega)) (ho 83 (by omega))
      -- the sign that is due at s
      have due : ∃ D : Nat → Int32, (∀ s, s < 16 → f 83 s = 1 → D s = f 83 (80 + s) - f 83 (80 + s) / 256 * 256) ∧ (∀ s, s < 16 → ¬ f 83 s = 1 → D s = 0) := by
        refine ⟨fun s => if f 83 s = 1 then f 83 (80 + s) - f 83 (80 + s) / 256 * 256 else 0, fun s _ h => if_pos h, fun s _ h => if_neg h⟩
      obtain ⟨D, hD1, hD0⟩ := due
      have ref : ∀ r : Int32, (∀ s, s < n → (∀ m, m < s → D m = f 90 m &&& 255) → ¬ D s = f 90 s &&& 255 → r = nI s) → ((∀ s, s < n → D s = f 90 s &&& 255) → r = -1) → XP G mX11_check 999 0 [.ref 82, .int (nI n), .null] [] sw g (fun v2 sw2 f2 => v2 = some (.int r) ∧ RR sw2 f2) := by
        intro r r1 r2
        refine bX11_check_0 (d := 997) (fun h => absurd c1 h) (fun _ _ => ?_) (fun _ h => absurd hle2 h)
        have loop : ∀ (k s : Nat), s + k = n → (∀ m, m < s → D m = f 90 m &&& 255) → XP G mX11_check 999 28 [.ref 82, .int (nI n), .int (nI s)] [] sw (upd2 g 82 10 0) (fun v2 sw2 f2 => v2 = some (.int r) ∧ RR sw2 f2) := by
          intro k
          induction k with
          | zero =>
            intro s hs2 hm
            have z : s = n := by omega
            subst z
            have hle9 : nI s ≤ nI s := nI_le (Nat.le_refl _) (by omega)
            exact bX11_check_28 (d := 997) (fun _ => ⟨by rw [r2 hm], hRf⟩) (fun h => absurd hle9 h) (fun h => absurd hle9 h) (fun h => absurd hle9 h) (fun h => absurd hle9 h) (fun h => absurd hle9 h) (fun h => absurd hle9 h)
          | succ k ih =>
            intro s hs2 hm
            have e83 : upd2 g 82 10 0 83 = f 83 := by rw [upd2_ne _ _ _ (by omega), ho 83 (by omega)]
            have tm : toldM (upd2 g 82 10 0) (nI s) ↔ f 83 s = 1 := by rw [toldM_iff (by omega), e83]
            have oc : oct (upd2 g 82 10 0) (nI s) = f 90 s &&& 255 := by unfold oct; rw [upd2_ne _ _ _ (by omega), ho 90 (by omega), nI_clamp (by omega)]
            have e80 : (80 : Int32) + nI s = nI (80 + s) := by rw [n_80, nI_add]
            have next : D s = f 90 s &&& 255 → XP G mX11_check 999 28 [.ref 82, .int (nI n), .int (nI s + 1)] [] sw (upd2 g 82 10 0) (fun v2 sw2 f2 => v2 = some (.int r) ∧ RR sw2 f2) := by
              intro hd
              rw [nI_1]
              refine ih (s + 1) (by omega) (fun m hm2 => ?_)
              by_cases y : m = s
              · subst y; exact hd
              · exact hm m (by omega)
            refine bX11_check_28 (d := 997) (fun h => absurd h (nI_ge (by omega) (by omega))) (fun _ => vp_in_nI (by omega) (by omega)) (fun _ h1' h2' => ?_) (fun _ h1' h2' => ?_) (fun _ _ => ?_) (fun _ h1' h2' => ?_) (fun _ h1' h2' => ?_)
            · rw [oc] at h2'
              exact next (by rw [hD0 s (by omega) (fun z => h1' (tm.mpr z)), h2'])
            · rw [oc] at h2'
              exact ⟨by rw [r1 s (by omega) hm (by rw [hD0 s (by omega) (fun z => h1' (tm.mpr z))]; exact fun z => h2' z.symm)], hRf⟩
            · rw [e80]; exact vp_in_nI (by omega) (by omega)
            · rw [oc, e80, nI_clamp (by omega), e83] at h2'
              exact next (by rw [hD1 s (by omega) (tm.mp h1'), h2'])
            · rw [oc, e80, nI_clamp (by omega), e83] at h2'
              exact ⟨by rw [r1 s (by omega) hm (by rw [hD1 s (by omega) (tm.mp h1')]; exact fun z => h2' z.symm)], hRf⟩
        exact loop n 0 (by omega) (fun m h => absurd h (by omega))
      have loop : ∀ (k s : Nat), s + k = n → (∀ m, m < s → D m = f 90 m &&& 255) → XP G mX10_check 999 26 [.ref 0, .int (nI n), .int (nI s)] [] sw g (fun v sw1 f1 => ∃ r : Int32, v = some (.int r) ∧ XP G mX11_check 999 0 [.ref 82, .int (nI n), .null] [] sw1 f1 (fun v2 sw2 f2 => v2 = some (.int r) ∧ RR sw2 f2)) := by
        intro k
        induction k with
        | zero =>
          intro s hs2 hm
          have z : s = n := by omega
          subst z
          have hle9 : nI s ≤ nI s := nI_le (Nat.le_refl _) (by omega)
          exact bX10_check_26 (d := 996) (fun _ => ⟨_, rfl, ref _ (fun t ht2 _ hb => absurd (hm t ht2) hb) (fun _ => rfl)⟩) (fun h => absurd hle9 h)
        | succ k ih =>
          intro s hs2 hm
          refine bX10_check_26 (d := 996) (fun h => absurd h (nI_ge (by omega) (by omega))) (fun _ => ?_)
          have g83 : g 83 = f 83 := ho 83 (by omega)
          have tk : tAt g (nI s) = f 90 s &&& 255 := by rw [tAt_TK ht (by omega), gb s (by omega)]
          have after : ∀ z : Int32, z - z / 256 * 256 = D s → XP G mX10_check 999 39 [.ref 0, .int (nI n), .int (nI s)] [.int z] sw g (fun v sw1 f1 => ∃ r : Int32, v = some (.int r) ∧ XP G mX11_check 999 0 [.ref 82, .int (nI n), .null] [] sw1 f1 (fun v2 sw2 f2 => v2 = some (.int r) ∧ RR sw2 f2)) := by
            intro z hz
            refine bX10_check_39 (d := 996) (fun h => ?_) (fun h => ?_)
            · rw [tk, hz] at h
              rw [nI_1]
              refine ih (s + 1) (by omega) (fun m hm2 => ?_)
              by_cases y : m = s
              · subst y; exact h
              · exact hm m (by omega)
            · rw [tk, hz] at h
              refine ⟨_, rfl, ref _ (fun t ht2 hm2 hb => ?_) (fun hall => absurd (hall s (by omega)) h)⟩
              have : s = t := by
                rcases Nat.lt_trichotomy s t with y | y | y
                · exact absurd (hm2 s y) h
                · exact y
                · exact absurd (hm t y) hb
              rw [this]
          refine bX9_arrearsOf_0 (d := 996) isW_43 (fun h => ?_) (fun h => ?_) (fun h => ?_)
          · have q : ¬ f 83 s = 1 := fun z => h ((toldC_iff hWg (by omega)).mpr (by rw [g83]; exact z))
            refine after _ ?_
            rw [hD0 s (by omega) q]
            decide
          · exact vp_in_nI (by omega) (by omega)
          · have q := (toldC_iff hWg (by omega)).mp h
            rw [g83] at q
            refine after _ ?_
            rw [nI_clamp (by omega), hD1 s (by omega) q]
            have ar := ((hWg.2.1 s (by omega)).2.2.2.2.2 (by rw [g83]; exact q)).2.2.2.2.2.1
            have ar2 : g 45 s = g 83 (80 + s) := ar
            show g 45 s - g 45 s / 256 * 256 = _
            rw [ar2, g83]
      exact loop n 0 (by omega) (fun m h => absurd h (by omega))
    · refine bX10_check_18 (fun h => absurd rfl h) (fun _ => ⟨_, rfl, ?_⟩)
      have hle2 : ¬ nI n ≤ f 82 10 := by rw [h1.2.1]; exact hle
      exact bX11_check_0 (d := 997) (fun h => absurd c1 h) (fun _ h => absurd h hle2) (fun _ _ => ⟨rfl, hR⟩)
  · exact bX10_check_0 (d := 996) (fun _ => ⟨_, rfl, bX11_check_0 (d := 997) (fun _ => ⟨rfl, hR⟩) (fun h => absurd h c1) (fun h => absurd h c1)⟩) (fun h => absurd h c1)
