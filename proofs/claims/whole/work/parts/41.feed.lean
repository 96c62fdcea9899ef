/-! ===== feed ===== -/
theorem b_big {x : Int32} {i : Nat} (h : 32 ≤ i) : bt x i = false := BitVec.getLsbD_of_ge _ _ h
theorem b_255 (i : Nat) : bt 255 i = decide (i < 8) := by
  rcases Nat.lt_or_ge i 32 with h | h
  · exact (by decide +kernel : ∀ i, i < 32 → bt 255 i = decide (i < 8)) i h
  · rw [b_big h, decide_eq_false (by omega)]
theorem s_l : ∀ n, n < 32 → ((nI n &&& 31).toBitVec.smod 32).toNat = n := by decide +kernel
theorem s_u : ∀ n, n < 32 → (((nI n).toUInt32 &&& Int32.toUInt32 31).toBitVec % 32).toNat = n := by decide +kernel
theorem b_ushr (n : Nat) (hn : n < 32) (x : Int32) (i : Nat) : bt ((x.toUInt32 >>> ((nI n).toUInt32 &&& Int32.toUInt32 31)).toInt32) i = bt x (n + i) := by
  show (x.toUInt32 >>> ((nI n).toUInt32 &&& Int32.toUInt32 31)).toBitVec.getLsbD i = x.toUInt32.toBitVec.getLsbD (n + i)
  rw [UInt32.toBitVec_shiftRight]
  show (x.toUInt32.toBitVec >>> (((nI n).toUInt32 &&& Int32.toUInt32 31).toBitVec % 32).toNat).getLsbD i = _
  rw [s_u n hn, BitVec.getLsbD_ushiftRight]
theorem b_sshr (n : Nat) (hn : n < 32) (x : Int32) {i : Nat} (hi : i < 32) : bt (x >>> (nI n &&& 31)) i = if n + i < 32 then bt x (n + i) else bt x 31 := by
  unfold bt
  rw [Int32.toBitVec_shiftRight]
  show (x.toBitVec.sshiftRight ((nI n &&& 31).toBitVec.smod 32).toNat).getLsbD i = _
  rw [s_l n hn, BitVec.getLsbD_sshiftRight, BitVec.msb_eq_getLsbD_last]
  simp [hi]
theorem b_nar (x : Int32) {i : Nat} (hi : i < 8) : bt (x.toInt8.toInt32) i = bt x i := by
  unfold bt
  rw [Int8.toBitVec_toInt32, BitVec.getLsbD_signExtend, Int32.toBitVec_toInt8, BitVec.getLsbD_signExtend]
  simp [hi, show i < 32 by omega]
/-- the i-th of the four bytes -/
def by4 (x : Int32) (i : Nat) : Int32 := ((x.toUInt32 >>> ((nI (24 - 8 * i)).toUInt32 &&& Int32.toUInt32 31)).toInt32) &&& 255
theorem by4_ref (x : Int32) {i : Nat} (hi : i < 4) : ((x >>> ((8 * nI (3 - i)) &&& 31)).toInt8.toInt32).toInt8.toInt32 &&& 255 = by4 x i := by
  apply bt_ext
  intro s hs
  unfold by4
  rw [bt_and, bt_and, b_255]
  by_cases y : s < 8
  · have e : (8 : Int32) * nI (3 - i) = nI (24 - 8 * i) := by rw [n_8, pk_mul, show 8 * (3 - i) = 24 - 8 * i by omega]
    rw [b_nar _ y, b_nar _ y, e, b_sshr _ (by omega) _ (by omega), b_ushr _ (by omega), if_pos (by omega)]
  · simp [y]
theorem nar_nar (x : Int32) : x.toInt8.toInt32.toInt8.toInt32 = x.toInt8.toInt32 := by
  have m : x.toInt8.toInt32.toInt8 = x.toInt8 := by
    apply Int8.toBitVec_inj.1
    apply BitVec.eq_of_getLsbD_eq
    intro j hj
    rw [Int32.toBitVec_toInt8, Int8.toBitVec_toInt32, BitVec.getLsbD_signExtend, BitVec.getLsbD_signExtend]
    simp [hj, show j < 32 by omega]
  rw [m]
def shC (k : Nat) : Int32 := if k < 4 then nI (24 - 8 * k) else -8
theorem shC_next {k : Nat} (hk : k < 4) : shC k + (-8) = shC (k + 1) := by
  have : ∀ k : Fin 4, shC k.val + (-8) = shC (k.val + 1) := by decide
  exact this ⟨k, hk⟩
def shM (k : Nat) : Int32 := if k < 4 then nI (3 - k) else -1
theorem shM_next {k : Nat} (hk : k < 4) : shM k + (-1) = shM (k + 1) := by
  have : ∀ k : Fin 4, shM k.val + (-1) = shM (k.val + 1) := by decide
  exact this ⟨k, hk⟩
theorem n_260 : (260 : Int32) = nI 260 := rfl
theorem sp_add {G : GC} {d : Nat} {sw : Bool} {f : FF} {Q : QQ} {x : Int32} {s : Nat} (h1 : f 1 1 = nI s) (hs : s + 4 ≤ 260)
    (hq : ∀ g, (∀ c, c ≠ 1 → c ≠ 2 → g c = f c) → g 1 1 = nI (s + 4) → (∀ j, j < s → g 2 j = f 2 j) → (∀ i, i < 4 → g 2 (s + i) = by4 x i) → Q none sw g) : XP G mX8_add d 0 [.ref 1, .int x, .null] [] sw f Q := by
  have loop : ∀ (l k : Nat) (g : FF), k + l = 4 → (∀ c, c ≠ 1 → c ≠ 2 → g c = f c) → g 1 1 = nI (s + k) → (∀ j, j < s → g 2 j = f 2 j) → (∀ i, i < k → g 2 (s + i) = by4 x i) → XP G mX8_add d 3 [.ref 1, .int x, .int (shC k)] [] sw g Q := by
    intro l
    induction l with
    | zero =>
      intro k g hk go g1 g2 g3
      have e : k = 4 := by omega
      subst e
      exact bX8_add_3 (fun _ => hq g go g1 g2 g3) (fun h => absurd (by decide) h) (fun h => absurd (by decide) h) (fun h => absurd (by decide) h)
    | succ l ih =>
      intro k g hk go g1 g2 g3
      have e : shC k = nI (24 - 8 * k) := if_pos (by omega)
      have n0 : ¬ shC k < 0 := by rw [e]; exact nI_pos (by omega)
      have n260 : ¬ (260 : Int32) ≤ g 1 1 := by rw [g1, n_260]; exact nI_ge (by omega) (by omega)
      refine bX8_add_3 (fun h => absurd h n0) (fun _ h => absurd h n260) (fun _ _ => by rw [g1]; exact vp_in_nI (by omega) (by omega)) (fun _ _ => ?_)
      rw [shC_next (by omega), g1, nI_clamp (by omega)]
      refine ih (k + 1) _ (by omega) (fun c c1 c2 => by rw [upd2_ne _ _ _ c1, upd2_ne _ _ _ c2]; exact go c c1 c2) ?_ (fun j hj => ?_) (fun i hi => ?_)
      · rw [upd2_self, pk_us, upd2_ne _ _ _ (by omega), g1, nI_1]
        rfl
      · rw [upd2_ne _ _ _ (by omega), upd2_self, pk_un (by omega)]
        exact g2 j hj
      · rw [upd2_ne _ _ _ (by omega), upd2_self]
        by_cases y : i = k
        · subst y; rw [pk_us, e]; rfl
        · rw [pk_un (by omega)]; exact g3 i (by omega)
  exact bX8_add_0 (loop 4 0 f (by omega) (fun _ _ _ => rfl) h1 (fun _ _ => rfl) (fun i hi => absurd hi (by omega)))
theorem sp_types {G : GC} {d : Nat} {sw : Bool} {f : FF} {Q : QQ} {x : Int32} {s : Nat} (h1 : f 82 10 = nI s) (hs : s + 4 ≤ 260)
    (hq : ∀ g, (∀ c, c ≠ 82 → c ≠ 90 → g c = f c) → (∀ j, j ≠ 10 → g 82 j = f 82 j) → g 82 10 = nI (s + 4) → (∀ j, (j < s ∨ s + 4 ≤ j) → g 90 j = f 90 j) → (∀ i, i < 4 → g 90 (s + i) &&& 255 = by4 x i ∧ (g 90 (s + i)).toInt8.toInt32 = g 90 (s + i)) → Q none sw g) : XP G mX11_types d 0 [.ref 82, .int x, .null] [] sw f Q := by
  have loop : ∀ (l k : Nat) (g : FF), k + l = 4 → (∀ c, c ≠ 82 → c ≠ 90 → g c = f c) → (∀ j, j ≠ 10 → g 82 j = f 82 j) → g 82 10 = nI (s + k) → (∀ j, (j < s ∨ s + 4 ≤ j) → g 90 j = f 90 j) → (∀ i, i < k → g 90 (s + i) &&& 255 = by4 x i ∧ (g 90 (s + i)).toInt8.toInt32 = g 90 (s + i)) → XP G mX11_types d 2 [.ref 82, .int x, .int (shM k)] [] sw g Q := by
    intro l
    induction l with
    | zero =>
      intro k g hk go g0 g1 g2 g3
      have e : k = 4 := by omega
      subst e
      exact bX11_types_2 (fun _ => hq g go g0 g1 g2 g3) (fun h => absurd (by decide) h) (fun h => absurd (by decide) h)
    | succ l ih =>
      intro k g hk go g0 g1 g2 g3
      have e : shM k = nI (3 - k) := if_pos (by omega)
      have n0 : ¬ shM k < 0 := by rw [e]; exact nI_pos (by omega)
      refine bX11_types_2 (fun h => absurd h n0) (fun _ => by rw [g1]; exact vp_in_nI (by omega) (by omega)) (fun _ => ?_)
      rw [shM_next (by omega), g1, nI_clamp (by omega)]
      refine ih (k + 1) _ (by omega) (fun c c1 c2 => by rw [upd2_ne _ _ _ c1, upd2_ne _ _ _ c2]; exact go c c1 c2) (fun j hj => ?_) ?_ (fun j hj => ?_) (fun i hi => ?_)
      · rw [upd2_self, pk_un hj, upd2_ne _ _ _ (by omega)]
        exact g0 j hj
      · rw [upd2_self, pk_us, upd2_ne _ _ _ (by omega), g1, nI_1]
        rfl
      · rw [upd2_ne _ _ _ (by omega), upd2_self, pk_un (by omega)]
        exact g2 j hj
      · rw [upd2_ne _ _ _ (by omega), upd2_self]
        by_cases y : i = k
        · subst y
          rw [pk_us, e]
          exact ⟨by4_ref x (by omega), nar_nar _⟩
        · rw [pk_un (by omega)]; exact g3 i (by omega)
  exact bX11_types_0 (loop 4 0 f (by omega) (fun _ _ _ => rfl) (fun _ _ => rfl) h1 (fun _ _ => rfl) (fun i hi => absurd hi (by omega)))
/-- the twenty bytes of five -/
def b20 (x1 x2 x3 x4 x5 : Int32) (i : Nat) : Int32 := if i < 4 then by4 x1 i else if i < 8 then by4 x2 (i - 4) else if i < 12 then by4 x3 (i - 8) else if i < 16 then by4 x4 (i - 12) else by4 x5 (i - 16)
theorem op_feed (G : GC) : OP4 G RR := by
  intro a1 a2 a3 a4 a5 sw f hR
  obtain ⟨h1, h2, h3, h4, h5, h6, h7⟩ := id hR
  obtain ⟨s, hs, es⟩ := isN_nI h1.1 (by omega)
  have em : f 82 10 = nI s := by rw [h1.2.1, es]
  have e20 : f 1 1 + 20 = nI (s + 20) := by rw [es]; exact nI_add s 20
  have e20m : f 82 10 + 20 = nI (s + 20) := by rw [em]; exact nI_add s 20
  by_cases y : s + 20 ≤ 260
  · have hle : f 1 1 + 20 ≤ 260 := by rw [e20, n_260]; exact nI_le y (by omega)
    refine bX10_feed_0 (d := 998) (fun _ => ?_) (fun h => absurd hle h)
    refine sp_add es (by omega) (fun g1 o1 s1 k1 b1 => bX10_feed_20 (d := 998) ?_)
    refine sp_add s1 (by omega) (fun g2 o2 s2 k2 b2 => bX10_feed_28 (d := 998) ?_)
    refine sp_add s2 (by omega) (fun g3 o3 s3 k3 b3 => bX10_feed_36 (d := 998) ?_)
    refine sp_add s3 (by omega) (fun g4 o4 s4 k4 b4 => bX10_feed_45 (d := 998) ?_)
    refine sp_add s4 (by omega) (fun g5 o5 s5 k5 b5 => bX10_feed_54 (d := 998) ⟨_, rfl, ?_⟩)
    have oc : ∀ c, c ≠ 1 → c ≠ 2 → g5 c = f c := fun c c1 c2 => by rw [o5 c c1 c2, o4 c c1 c2, o3 c c1 c2, o2 c c1 c2, o1 c c1 c2]
    have bc0 : ∀ j, j < s → g5 2 j = f 2 j := fun j hj => by rw [k5 j (by omega), k4 j (by omega), k3 j (by omega), k2 j (by omega), k1 j (by omega)]
    have bc : ∀ i, i < 20 → g5 2 (s + i) = b20 a1 a2 a3 a4 a5 i := fun i hi => by
      unfold b20
      by_cases z1 : i < 4
      · rw [if_pos z1, k5 _ (by omega), k4 _ (by omega), k3 _ (by omega), k2 _ (by omega), b1 i z1]
      · rw [if_neg z1]
        by_cases z2 : i < 8
        · rw [if_pos z2, k5 _ (by omega), k4 _ (by omega), k3 _ (by omega), ← b2 (i - 4) (by omega), show s + 4 + (i - 4) = s + i by omega]
        · rw [if_neg z2]
          by_cases z3 : i < 12
          · rw [if_pos z3, k5 _ (by omega), k4 _ (by omega), ← b3 (i - 8) (by omega), show s + 4 + 4 + (i - 8) = s + i by omega]
          · rw [if_neg z3]
            by_cases z4 : i < 16
            · rw [if_pos z4, k5 _ (by omega), ← b4 (i - 12) (by omega), show s + 4 + 4 + 4 + (i - 12) = s + i by omega]
            · rw [if_neg z4, ← b5 (i - 16) (by omega), show s + 4 + 4 + 4 + 4 + (i - 16) = s + i by omega]
    have em5 : g5 82 10 = nI s := by rw [oc 82 (by omega) (by omega)]; exact em
    have hle2 : g5 82 10 + 20 ≤ 260 := by rw [oc 82 (by omega) (by omega), e20m, n_260]; exact nI_le y (by omega)
    rw [s5]
    refine bX11_feed_0 (d := 998) (fun _ => ?_) (fun h => absurd hle2 h)
    refine sp_types em5 (by omega) (fun m1 p1 q1 t1 l1 c1 => bX11_feed_20 (d := 998) ?_)
    refine sp_types t1 (by omega) (fun m2 p2 q2 t2 l2 c2 => bX11_feed_25 (d := 998) ?_)
    refine sp_types t2 (by omega) (fun m3 p3 q3 t3 l3 c3 => bX11_feed_30 (d := 998) ?_)
    refine sp_types t3 (by omega) (fun m4 p4 q4 t4 l4 c4 => bX11_feed_36 (d := 998) ?_)
    refine sp_types t4 (by omega) (fun m5 p5 q5 t5 l5 c5 => bX11_feed_42 (d := 998) ⟨by rw [t5], ?_⟩)
    have mc : ∀ c, c ≠ 82 → c ≠ 90 → m5 c = g5 c := fun c k1 k2 => by rw [p5 c k1 k2, p4 c k1 k2, p3 c k1 k2, p2 c k1 k2, p1 c k1 k2]
    have m82 : ∀ j, j ≠ 10 → m5 82 j = f 82 j := fun j hj => by rw [q5 j hj, q4 j hj, q3 j hj, q2 j hj, q1 j hj, oc 82 (by omega) (by omega)]
    have md0 : ∀ j, (j < s ∨ s + 20 ≤ j) → m5 90 j = f 90 j := fun j hj => by rw [l5 j (by omega), l4 j (by omega), l3 j (by omega), l2 j (by omega), l1 j (by omega), oc 90 (by omega) (by omega)]
    have md : ∀ i, i < 20 → m5 90 (s + i) &&& 255 = b20 a1 a2 a3 a4 a5 i ∧ (m5 90 (s + i)).toInt8.toInt32 = m5 90 (s + i) := fun i hi => by
      unfold b20
      by_cases z1 : i < 4
      · rw [if_pos z1, l5 _ (by omega), l4 _ (by omega), l3 _ (by omega), l2 _ (by omega)]
        exact c1 i z1
      · rw [if_neg z1]
        by_cases z2 : i < 8
        · rw [if_pos z2, l5 _ (by omega), l4 _ (by omega), l3 _ (by omega)]
          have := c2 (i - 4) (by omega)
          rwa [show s + 4 + (i - 4) = s + i by omega] at this
        · rw [if_neg z2]
          by_cases z3 : i < 12
          · rw [if_pos z3, l5 _ (by omega), l4 _ (by omega)]
            have := c3 (i - 8) (by omega)
            rwa [show s + 4 + 4 + (i - 8) = s + i by omega] at this
          · rw [if_neg z3]
            by_cases z4 : i < 16
            · rw [if_pos z4, l5 _ (by omega)]
              have := c4 (i - 12) (by omega)
              rwa [show s + 4 + 4 + 4 + (i - 12) = s + i by omega] at this
            · rw [if_neg z4]
              have := c5 (i - 16) (by omega)
              rwa [show s + 4 + 4 + 4 + 4 + (i - 16) = s + i by omega] at this
    have n11 : m5 1 1 = nI (s + 20) := by rw [mc 1 (by omega) (by omega), s5]
    have sx : SX sw f m5 := by
      intro c j r
      have hl := lwB_or sw
      have hc : c ≠ 1 ∧ c ≠ 2 ∧ c ≠ 90 ∧ (c = 82 → j ≠ 10) := by unfold relv at r; omega
      by_cases z : c = 82
      · subst z; exact m82 j (hc.2.2.2 rfl)
      · rw [mc c z hc.2.2.1, oc c hc.1 hc.2.1]
    refine hR.ofSX sx ⟨by rw [n11]; exact nI_isN (by omega) (by omega), by rw [n11, t5], fun j hj => ?_, fun j => ?_⟩
    · rw [n11, nI_toInt (by omega)] at hj
      have hj2 : j < s + 20 := by omega
      rw [mc 2 (by omega) (by omega)]
      by_cases z : j < s
      · rw [bc0 j z, md0 j (Or.inl z)]
        exact h1.2.2.1 j (by rw [es, nI_toInt (by omega)]; omega)
      · obtain ⟨i, rfl⟩ : ∃ i, j = s + i := ⟨j - s, by omega⟩
        rw [bc i (by omega), (md i (by omega)).1]
    · by_cases z : s ≤ j ∧ j < s + 20
      · obtain ⟨i, rfl⟩ : ∃ i, j = s + i := ⟨j - s, by omega⟩
        exact (md i (by omega)).2
      · rw [md0 j (by omega)]
        exact h1.2.2.2 j
  · have hle : ¬ f 1 1 + 20 ≤ 260 := by rw [e20, n_260]; exact nI_ge (by omega) (by omega)
    have hle2 : ¬ f 82 10 + 20 ≤ 260 := by rw [e20m, n_260]; exact nI_ge (by omega) (by omega)
    exact bX10_feed_0 (d := 998) (fun h => absurd h hle) (fun _ => ⟨_, rfl, bX11_feed_0 (d := 998) (fun h => absurd h hle2) (fun _ => ⟨rfl, hR⟩)⟩)
