/-! ===== heir ===== -/
def heS (b : Nat → Nat) (n due : Nat) : Nat → Nat × Option Nat
  | 0 => (0, none)
  | m + 1 => if pS b n m = due then ((heS b n due m).1 + 1, match (heS b n due m).2 with
      | none => some m
      | some p => if cN 16 m < cN 16 p then some m else some p) else heS b n due m
def enO : Option Nat → Int32
  | none => -2
  | some p => nI p
def fwO : Option Nat → Nat
  | none => 13
  | some p => cN 16 p
theorem heS_le (b : Nat → Nat) (n due m : Nat) : (heS b n due m).1 ≤ m ∧ ∀ p, (heS b n due m).2 = some p → p < m := by
  induction m with
  | zero => exact ⟨Nat.le_refl _, fun p h => by cases h⟩
  | succ m ih =>
    unfold heS
    split
    · refine ⟨by show _ + 1 ≤ _; omega, fun p h => ?_⟩
      have h' : (match (heS b n due m).2 with
        | none => some m
        | some p => if cN 16 m < cN 16 p then some m else some p) = some p := h
      revert h'
      split
      · intro h'; cases h'; omega
      · rename_i q hq
        split
        · intro h'; cases h'; omega
        · intro h'; cases h'
          have := ih.2 _ hq
          omega
    · exact ⟨by omega, fun p h => by have := ih.2 p h; omega⟩
theorem op_heir (G : GC) : OP19 G RR := by
  intro a1 a2 a3 sw f hR
  obtain ⟨h1, h2, h3, h4, h5, h6, h7⟩ := id hR
  by_cases c1 : 1 ≤ a1 ∧ a1 ≤ 12
  rotate_left
  · exact bX10_heir_0 (d := 996) (fun _ => ⟨_, rfl, bX11_heir_0 (d := 997) (fun _ => ⟨rfl, hR⟩) (fun h => absurd h c1) (fun h => absurd h c1) (fun h => absurd h c1) (fun h => absurd h c1)⟩) (fun h => absurd h c1) (fun h => absurd h c1) (fun h => absurd h c1)
  by_cases c2 : 0 ≤ a2 ∧ a2 ≤ 3060
  rotate_left
  · exact bX10_heir_0 (d := 996) (fun h => absurd c1 h) (fun _ _ => ⟨_, rfl, bX11_heir_0 (d := 997) (fun h => absurd c1 h) (fun _ _ => ⟨rfl, hR⟩) (fun _ h => absurd h c2) (fun _ h => absurd h c2) (fun _ h => absurd h c2)⟩) (fun _ h => absurd h c2) (fun _ h => absurd h c2)
  by_cases c3 : 0 ≤ a3 ∧ a3 ≤ 1
  rotate_left
  · exact bX10_heir_0 (d := 996) (fun h => absurd c1 h) (fun _ h => absurd c2 h) (fun _ _ _ => ⟨_, rfl, bX11_heir_0 (d := 997) (fun h => absurd c1 h) (fun _ h => absurd c2 h) (fun _ _ _ => ⟨rfl, hR⟩) (fun _ _ h => absurd h c3) (fun _ _ h => absurd h c3)⟩) (fun _ _ h => absurd h c3)
  obtain ⟨n, hn1, hn, rfl⟩ := le1_rng (K := 12) (by decide) c1 (by omega)
  obtain ⟨due, hdue, rfl⟩ := rng (K := 3060) (by decide) c2
  have c3e : a3 = 0 ∨ a3 = 1 := by
    obtain ⟨w, hw, rfl⟩ := rng (K := 1) (by decide) c3
    have : w = 0 ∨ w = 1 := by omega
    rcases this with rfl | rfl
    · exact Or.inl rfl
    · exact Or.inr rfl
  have hp := pow12 hn
  have hp0 : 0 < 2 ^ n := Nat.two_pow_pos n
  refine bX10_heir_0 (d := 996) (fun h => absurd c1 h) (fun _ h => absurd c2 h) (fun _ _ h => absurd c3 h) (fun _ _ _ => ?_)
  refine sp_take (by omega) h1 (fun hle g hs ht ho hpl => ?_) (fun hle => ?_)
  rotate_left
  · refine bX10_heir_38 (d := 996) (fun h => absurd rfl h) (fun h => absurd rfl h) (fun _ => ⟨_, rfl, ?_⟩)
    have hle2 : ¬ nI n ≤ f 82 10 := by rw [h1.2.1]; exact hle
    exact bX11_heir_0 (d := 997) (fun h => absurd c1 h) (fun _ h => absurd c2 h) (fun _ _ h => absurd c3 h) (fun _ _ _ h => absurd h hle2) (fun _ _ _ _ => ⟨rfl, hR⟩)
  have g90 : g 90 = f 90 := ho 90 (by omega)
  have main : XP G mX6_tracedBy 998 0 [.ref 14, .int (nI n), .int (nI due), .int a3, .null, .null, .null, .null, .null] [] sw g (fun v' sw' f' => XP G mX10_heir 999 62 [.ref 0, .int (nI n), .int (nI due), .int a3] (retst v' []) sw' f' (fun v sw1 f1 => ∃ r : Int32, v = some (.int r) ∧ XP G mX11_heir 999 0 [.ref 82, .int (nI n), .int (nI due), .int a3, .null, .null, .null] [] sw1 f1 (fun v2 sw2 f2 => v2 = some (.int r) ∧ RR sw2 f2))) := by
    refine bX6_tracedBy_0 (d := 996) (sp_readSteps (fr := 0) (ap := 1) (N := n) sh15 (by omega) hn ht (fun i hi => by omega) (fun v os vo hv => ?_))
    have B1 : ∀ i, i < n → v 15 i = nI (byt f (0 + i * 1)) - nI (pA (fun k => byt f (0 + k * 1)) i) := fun i hi => by
      rw [hv i hi]
      simp only [byt_cg g90]
    generalize hbe : (fun k => byt f (0 + k * 1)) = b at B1
    have hbb : ∀ i, byt f (0 + i * 1) = b i := fun i => by rw [← hbe]
    have hb256 : ∀ j, b j < 256 := fun j => by rw [← hbb]; exact byt_lt f _
    have refL : ∀ (r : Int32), (r = if a3 = 0 then nI (heS b n due (2 ^ n)).1 else enO (heS b n due (2 ^ n)).2) → XP G mX11_heir 999 0 [.ref 82, .int (nI n), .int (nI due), .int a3, .null, .null, .null] [] sw v (fun v2 sw2 f2 => v2 = some (.int r) ∧ RR sw2 f2) := by
      intro r hr
      have hle2 : nI n ≤ v 82 10 := by rw [vo 82 (by omega), ho 82 (by omega), h1.2.1]; exact hle
      refine bX11_heir_0 (d := 997) (fun h => absurd c1 h) (fun _ h => absurd c2 h) (fun _ _ h => absurd c3 h) (fun _ _ _ _ => ?_) (fun _ _ _ h => absurd hle2 h)
      have fin : RR sw (upd2 v 82 10 0) := RR_sumsM hR ho ht.2.2.1 os OM.rf
      have e90 : upd2 v 82 10 0 90 = f 90 := by rw [upd2_ne _ _ _ (by omega), vo 90 (by omega), g90]
      have loop : ∀ (k m : Nat), m + k = 2 ^ n → XP G mX11_heir 999 55 [.ref 82, .int (nI n), .int (nI due), .int a3, .int (nI (heS b n due m).1), .int (enO (heS b n due m).2), .int (nI m)] [] sw (upd2 v 82 10 0) (fun v2 sw2 f2 => v2 = some (.int r) ∧ RR sw2 f2) := by
        intro k
        induction k with
        | zero =>
          intro m hm
          have z : m = 2 ^ n := by omega
          have hle9 : (1 : Int32) <<< (nI n &&& 31) ≤ nI m := by rw [shl_n hn]; exact nI_le (by omega) (by omega)
          refine bX11_heir_55 (d := 997) (fun _ h => ⟨?_, fin⟩) (fun _ h => ⟨?_, fin⟩) (fun h => absurd hle9 h)
          · rw [hr, if_neg h, z]
          · rw [hr, if_pos h, z]
        | succ k ih =>
          intro m hm
          have nle : ¬ (1 : Int32) <<< (nI n &&& 31) ≤ nI m := by rw [shl_n hn]; exact nI_ge (by omega) (by omega)
          have p1 := pS_le hb256 n m
          have hl := heS_le b n due m
          refine bX11_heir_55 (d := 997) (fun h => absurd h nle) (fun h => absurd h nle) (fun _ => ?_)
          refine sp_sumOf (d := 997) (fr := 0) (st := 1) hn (by omega) (fun i hi => by omega) ?_
          simp only [byt_cg e90, hbe]
          have I := ih (m + 1) (by omega)
          rw [← nI_1] at I
          have pe : nI (pS b n m) = nI due ↔ pS b n m = due := nI_eq (by omega) (by omega)
          refine bX11_heir_72 (d := 997) (fun h hn2 => ?_) (fun h hn2 => ?_) (fun h => ?_)
          · have e : heS b n due (m + 1) = _ := if_pos (pe.mp h)
            have o : (heS b n due m).2 = none := by
              cases q : (heS b n due m).2 with
              | none => rfl
              | some p =>
                rw [q] at hn2
                have := hl.2 p q
                have z : nI p = -2 := hn2
                have z2 := congrArg Int32.toInt z
                rw [nI_toInt (by omega)] at z2
                have : (-2 : Int32).toInt = -2 := rfl
                omega
            rw [o] at e
            rw [e] at I
            rw [nI_1 (heS b n due m).1]
            exact I
          · cases q : (heS b n due m).2 with
            | none => rw [q] at hn2; exact absurd rfl hn2
            | some p =>
              have hpm := hl.2 p q
              have e : heS b n due (m + 1) = _ := if_pos (pe.mp h)
              rw [q] at e
              refine sp_bits (by omega) (bX11_heir_97 (d := 997) (sp_bits (m := p) (by omega) ?_))
              have cl1 := cN_le 16 m
              have cl2 := cN_le 16 p
              refine bX11_heir_102 (d := 997) (fun h' => ?_) (fun h' => ?_)
              · rw [nI_leI (by omega) (by omega)] at h'
                have e2 : heS b n due (m + 1) = ((heS b n due m).1 + 1, some p) := e.trans (by show (_, if cN 16 m < cN 16 p then some m else some p) = _; rw [if_neg (by omega)])
                rw [e2] at I
                rw [nI_1 (heS b n due m).1]
                exact I
              · rw [nI_leI (by omega) (by omega)] at h'
                have e2 : heS b n due (m + 1) = ((heS b n due m).1 + 1, some m) := e.trans (by show (_, if cN 16 m < cN 16 p then some m else some p) = _; rw [if_pos (by omega)])
                rw [e2] at I
                rw [nI_1 (heS b n due m).1]
                exact I
          · have e : heS b n due (m + 1) = heS b n due m := if_neg (fun z => h (pe.mpr z))
            rw [e] at I
            exact I
      exact loop (2 ^ n) 0 (by omega)
    have loop : ∀ (k m : Nat), m + 1 + k = 2 ^ n → XP G mX6_tracedBy 998 52 [.ref 14, .int (nI n), .int (nI due), .int a3, .int (nI (pS b n m)), .int (nI (heS b n due (m + 1)).1), .int (enO (heS b n due (m + 1)).2), .int (nI (fwO (heS b n due (m + 1)).2)), .int (nI (m + 1))] [] sw v (fun v' sw' f' => XP G mX10_heir 999 62 [.ref 0, .int (nI n), .int (nI due), .int a3] (retst v' []) sw' f' (fun v sw1 f1 => ∃ r : Int32, v = some (.int r) ∧ XP G mX11_heir 999 0 [.ref 82, .int (nI n), .int (nI due), .int a3, .null, .null, .null] [] sw1 f1 (fun v2 sw2 f2 => v2 = some (.int r) ∧ RR sw2 f2))) := by
      intro k
      induction k with
      | zero =>
        intro m hm
        have z : m + 1 = 2 ^ n := by omega
        have hle9 : (1 : Int32) <<< (nI n &&& 31) ≤ nI (m + 1) := by rw [shl_n hn]; exact nI_le (by omega) (by omega)
        refine bX6_tracedBy_52 (d := 996) (fun _ h => bX10_heir_62 ⟨_, rfl, refL _ ?_⟩) (fun _ h => bX10_heir_62 ⟨_, rfl, refL _ ?_⟩) (fun h => absurd hle9 h)
        · rw [if_pos h, z]
        · rw [if_neg h, z]
      | succ k ih =>
        intro m hm
        have nle : ¬ (1 : Int32) <<< (nI n &&& 31) ≤ nI (m + 1) := by rw [shl_n hn]; exact nI_ge (by omega) (by omega)
        have p1 := pS_le hb256 n (m + 1)
        have hl := heS_le b n due (m + 1)
        have I := ih (m + 1) (by omega)
        refine bX6_tracedBy_52 (d := 996) (fun h => absurd h nle) (fun h => absurd h nle) (fun _ => ?_)
        refine sp_lowestOf hn (by omega) (by omega) (fun i hi t1 t2 => ?_)
        have E1 : nI (pS b n m) + v 15 i = nI (pS b n (m + 1)) := by rw [B1 i hi, hbb]; exact step_sum (b := b) hi t1 t2
        have pe : nI (pS b n (m + 1)) = nI due ↔ pS b n (m + 1) = due := nI_eq (by omega) (by omega)
        refine bX6_tracedBy_71 (d := 996) (vp_in_nI (by omega) (by omega)) (fun h => ?_) (fun h => ?_)
        · rw [nI_clamp (by omega), E1] at h
          rw [nI_clamp (by omega), E1]
          have e : heS b n due (m + 1 + 1) = heS b n due (m + 1) := if_neg (fun z => h (pe.mpr z))
          rw [e, ← nI_1] at I
          exact I
        · rw [nI_clamp (by omega), E1] at h
          rw [nI_clamp (by omega), E1]
          have e : heS b n due (m + 1 + 1) = _ := if_pos (pe.mp h)
          have c12 := cN_small 16 12 (m + 1) (by omega) (by omega)
          have fw : fwO (heS b n due (m + 1)).2 ≤ 16 := by
            cases (heS b n due (m + 1)).2 with
            | none => decide
            | some p => exact cN_le 16 p
          have e2 : heS b n due (m + 1 + 1) = ((heS b n due (m + 1)).1 + 1, if cN 16 (m + 1) < fwO (heS b n due (m + 1)).2 then some (m + 1) else (heS b n due (m + 1)).2) := e.trans (by
            cases (heS b n due (m + 1)).2 with
            | none => show (_, some (m + 1)) = (_, if cN 16 (m + 1) < 13 then some (m + 1) else none); rw [if_pos (by omega)]
            | some p => rfl)
          refine sp_bitCount (by omega) (bX6_tracedBy_89 (d := 996) (fun h' => ?_) (fun h' => ?_))
          · rw [nI_leI (by omega) (by omega)] at h'
            rw [if_neg (by omega)] at e2
            rw [e2, ← nI_1 (m + 1)] at I
            rw [nI_1 (heS b n due (m + 1)).1]
            exact I
          · rw [nI_leI (by omega) (by omega)] at h'
            rw [if_pos (by omega)] at e2
            refine sp_bitCount (by omega) (bX6_tracedBy_99 (d := 996) ?_)
            rw [e2, ← nI_1 (m + 1)] at I
            rw [nI_1 (heS b n due (m + 1)).1]
            exact I
    have L := loop (2 ^ n - 1) 0 (by omega)
    rw [pS_0] at L
    have z0 : nI due = 0 ↔ due = 0 := nI_eq (b := 0) (by omega) (by omega)
    by_cases y : due = 0
    · have e : heS b n due 1 = (1, some 0) := by
        show (if pS b n 0 = due then _ else _) = _
        rw [pS_0, if_pos y.symm]
        rfl
      rw [e] at L
      have yy := z0.mpr y
      exact bX6_tracedBy_11 (d := 996) (fun h => absurd yy h) (fun h => absurd yy h) (fun h => absurd yy h) (fun h => absurd yy h) (fun _ h => absurd yy h) (fun _ h => absurd yy h) (fun _ _ h => absurd yy h) (fun _ _ _ => L)
    · have e : heS b n due 1 = (0, none) := by
        show (if pS b n 0 = due then _ else _) = _
        rw [pS_0, if_neg (fun z => y z.symm)]
        rfl
      rw [e] at L
      have yy : ¬ nI due = 0 := fun z => y (z0.mp z)
      exact bX6_tracedBy_11 (d := 996) (fun _ _ _ => L) (fun _ _ h => absurd h yy) (fun _ h => absurd h yy) (fun _ h => absurd h yy) (fun h => absurd h yy) (fun h => absurd h yy) (fun h => absurd h yy) (fun h => absurd h yy)
  refine bX10_heir_38 (d := 996) (fun _ h => ?_) (fun _ h => ?_) (fun h => absurd h (by decide))
  · rcases c3e with rfl | rfl
    · exact main
    · exact absurd rfl h
  · subst h; exact main
