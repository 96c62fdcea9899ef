/-! ===== busy ===== -/
theorem n_100 : (100 : Int32) = nI 100 := rfl
theorem n_512 : (512 : Int32) = nI 512 := rfl
theorem rng100 {x : Int32} (h : 100 ≤ x ∧ x ≤ 120) : ∃ i : Nat, i ≤ 20 ∧ x = nI (100 + i) := by
  have a := Int32.le_iff_toInt_le.mp h.1
  have e2 : (100 : Int32).toInt = 100 := by decide
  obtain ⟨i, hi, rfl⟩ := nI_of2 (n := 120) (M := 120) (by decide) (fun hn => by
    have := Int32.lt_iff_toInt_lt.mp hn
    have e0 : (0 : Int32).toInt = 0 := by decide
    omega) h.2
  rw [nI_toInt (by omega), e2] at a
  exact ⟨i - 100, by omega, by rw [show 100 + (i - 100) = i by omega]⟩
theorem rbS_le {c : Nat → Nat} {B : Nat} (h : ∀ m, c m ≤ B) : ∀ m, (rbS c m).1 ≤ B ∧ (rbS c m).2 ≤ m := by
  intro m
  induction m with
  | zero => exact ⟨Nat.zero_le _, Nat.le_refl _⟩
  | succ m ih =>
    have e : rbS c (m + 1) = if (rbS c m).1 < c m then (c m, m) else rbS c m := rfl
    rw [e]
    split
    · exact ⟨h m, Nat.le_succ _⟩
    · exact ⟨ih.1, by omega⟩
theorem op_busy (G : GC) : OP20 G RR := by
  intro a1 a2 sw f hR
  obtain ⟨h1, h2, h3, h4, h5, h6, h7⟩ := id hR
  by_cases c1 : 1 ≤ a1 ∧ a1 ≤ 10
  rotate_left
  · exact bX10_busy_0 (d := 996) (fun _ => ⟨_, rfl, bX11_busy_0 (d := 997) (fun _ => ⟨rfl, hR⟩) (fun h => absurd h c1) (fun h => absurd h c1) (fun h => absurd h c1) (fun h => absurd h c1) (fun h => absurd h c1)⟩) (fun h => absurd h c1) (fun h => absurd h c1) (fun h => absurd h c1)
  obtain ⟨n, hn1, hn, rfl⟩ := le1_rng (K := 10) (by decide) c1 (by omega)
  have e2n : 2 * nI n = nI (2 * n) := by rw [n_2, pk_mul]
  -- what is asked
  by_cases c2 : ¬ (0 ≤ a2 ∧ a2 ≤ 1) ∧ ¬ (100 ≤ a2 ∧ a2 ≤ 120)
  · exact bX10_busy_0 (d := 996) (fun h => absurd c1 h) (fun _ h => absurd h c2.1) (fun _ _ _ => ⟨_, rfl, bX11_busy_0 (d := 997) (fun h => absurd c1 h) (fun _ h => absurd h c2.1) (fun _ h => absurd h c2.1) (fun _ _ _ => ⟨rfl, hR⟩) (fun _ _ h => absurd h c2.2) (fun _ _ h => absurd h c2.2)⟩) (fun _ _ h => absurd h c2.2)
  have c2' : (0 ≤ a2 ∧ a2 ≤ 1) ∨ (100 ≤ a2 ∧ a2 ≤ 120) := by
    by_cases y : 0 ≤ a2 ∧ a2 ≤ 1
    · exact Or.inl y
    · by_cases z : 100 ≤ a2 ∧ a2 ≤ 120
      · exact Or.inr z
      · exact absurd ⟨y, z⟩ c2
  -- the reference behind its guards
  have enter : ∀ (u : FF) (r : Int32), 2 * nI n ≤ u 82 10 → XP G mX11_busy 999 49 [.ref 82, .int (nI n), .int a2, .int 0, .null, .null] [] sw (upd2 u 82 10 0) (fun v2 sw2 f2 => v2 = some (.int r) ∧ RR sw2 f2) → XP G mX11_busy 999 0 [.ref 82, .int (nI n), .int a2, .null, .null, .null] [] sw u (fun v2 sw2 f2 => v2 = some (.int r) ∧ RR sw2 f2) := by
    intro u r hu H
    exact bX11_busy_0 (d := 997) (fun h => absurd c1 h) (fun _ _ _ => H) (fun _ _ h => absurd hu h) (fun _ q1 q2 => absurd ⟨q1, q2⟩ c2) (fun _ _ _ _ => H) (fun _ _ _ h => absurd hu h)
  have T : XP G mX8_take 998 0 [.ref 1, .int (2 * nI n)] [] sw f (fun v' sw' f' => XP G mX10_busy 999 42 [.ref 0, .int (nI n), .int a2, .int (b2i (100 ≤ a2 ∧ a2 ≤ 120))] (retst v' []) sw' f' (fun v sw1 f1 => ∃ r : Int32, v = some (.int r) ∧ XP G mX11_busy 999 0 [.ref 82, .int (nI n), .int a2, .null, .null, .null] [] sw1 f1 (fun v2 sw2 f2 => v2 = some (.int r) ∧ RR sw2 f2))) := by
    rw [e2n]
    refine sp_take (by omega) h1 (fun hle g hs ht ho hpl => ?_) (fun hle => ?_)
    rotate_left
    · refine bX10_busy_42 (d := 996) (fun h => absurd rfl h) (fun _ => ⟨_, rfl, ?_⟩)
      have hle2 : ¬ 2 * nI n ≤ f 82 10 := by rw [e2n, h1.2.1]; exact hle
      exact bX11_busy_0 (d := 997) (fun h => absurd c1 h) (fun _ _ h => absurd h hle2) (fun _ _ _ => ⟨rfl, hR⟩) (fun _ q1 q2 => absurd ⟨q1, q2⟩ c2) (fun _ _ _ h => absurd h hle2) (fun _ _ _ _ => ⟨rfl, hR⟩)
    refine bX10_busy_42 (d := 996) (fun _ => ?_) (fun h => absurd h (by decide))
    have g90 : g 90 = f 90 := ho 90 (by omega)
    have hleU : ∀ u : FF, OS g u → 2 * nI n ≤ u 82 10 := fun u os => by rw [os 82 (by omega), ho 82 (by omega), h1.2.1, e2n]; exact hle
    -- the reference's look at the lengths
    have look : ∀ (u : FF) (r : Int32), OS g u → (∀ j, j < n → byt f (2 * j + 1) ≠ 0) → XP G mX11_busy 999 49 [.ref 82, .int (nI n), .int a2, .int (nI n), .null, .null] [] sw (upd2 u 82 10 0) (fun v2 sw2 f2 => v2 = some (.int r) ∧ RR sw2 f2) → XP G mX11_busy 999 0 [.ref 82, .int (nI n), .int a2, .null, .null, .null] [] sw u (fun v2 sw2 f2 => v2 = some (.int r) ∧ RR sw2 f2) := by
      intro u r os good H
      refine enter u r (hleU u os) ?_
      have e90 : upd2 u 82 10 0 90 = f 90 := by rw [upd2_ne _ _ _ (by omega), os 90 (by omega), g90]
      have loop : ∀ (l j : Nat), j + l = n → XP G mX11_busy 999 49 [.ref 82, .int (nI n), .int a2, .int (nI j), .null, .null] [] sw (upd2 u 82 10 0) (fun v2 sw2 f2 => v2 = some (.int r) ∧ RR sw2 f2) := by
        intro l
        induction l with
        | zero =>
          intro j hj
          have z : j = n := by omega
          subst z
          exact H
        | succ l il =>
          intro j hj
          have nle : ¬ nI n ≤ nI j := nI_ge (by omega) (by omega)
          have e1 : 2 * nI j + 1 = nI (2 * j + 1) := by rw [n_2, pk_mul, nI_1]
          have o1 : oct (upd2 u 82 10 0) (nI (2 * j + 1)) = nI (byt f (2 * j + 1)) := by rw [oct_byt (by omega), byt_cg e90]
          have bl := byt_lt f (2 * j + 1)
          refine bX11_busy_49 (d := 997) (fun h => absurd h nle) (fun h => absurd h nle) (fun _ => by rw [e1]; exact vp_in_nI (by omega) (by omega)) (fun _ _ => ?_) (fun _ h => ?_)
          · rw [nI_1]; exact il (j + 1) (by omega)
          · rw [e1, o1] at h
            exact absurd ((nI_eq (b := 0) (by omega) (by omega)).mp h) (good j (by omega))
      exact loop n 0 (by omega)
    refine sp_readHours (d := 996) (n := n) (by omega) ht (by omega) (fun good u os hu => ?_) (fun j hj h0 hm u os => ?_)
    rotate_left
    · refine bX10_busy_55 (d := 996) (fun h => absurd rfl h) (fun h => absurd rfl h) (fun h => absurd rfl h) (fun _ => ⟨_, rfl, ?_⟩)
      refine enter u _ (hleU u os) ?_
      have e90 : upd2 u 82 10 0 90 = g 90 := by rw [upd2_ne _ _ _ (by omega), os 90 (by omega)]
      have loop : ∀ (l q : Nat), q + l = j → XP G mX11_busy 999 49 [.ref 82, .int (nI n), .int a2, .int (nI q), .null, .null] [] sw (upd2 u 82 10 0) (fun v2 sw2 f2 => v2 = some (.int (-2)) ∧ RR sw2 f2) := by
        intro l
        induction l with
        | zero =>
          intro q hq
          have z : q = j := by omega
          subst z
          have nle : ¬ nI n ≤ nI q := nI_ge (by omega) (by omega)
          have e1 : 2 * nI q + 1 = nI (2 * q + 1) := by rw [n_2, pk_mul, nI_1]
          have o1 : oct (upd2 u 82 10 0) (nI (2 * q + 1)) = nI (byt g (2 * q + 1)) := by rw [oct_byt (by omega), byt_cg e90]
          refine bX11_busy_49 (d := 997) (fun h => absurd h nle) (fun h => absurd h nle) (fun _ => by rw [e1]; exact vp_in_nI (by omega) (by omega)) (fun _ h => ?_) (fun _ _ => ⟨rfl, RR_sumsM hR ho ht.2.2.1 os OM.rf⟩)
          rw [e1, o1, h0] at h
          exact absurd rfl h
        | succ l il =>
          intro q hq
          have nle : ¬ nI n ≤ nI q := nI_ge (by omega) (by omega)
          have e1 : 2 * nI q + 1 = nI (2 * q + 1) := by rw [n_2, pk_mul, nI_1]
          have o1 : oct (upd2 u 82 10 0) (nI (2 * q + 1)) = nI (byt g (2 * q + 1)) := by rw [oct_byt (by omega), byt_cg e90]
          have bl := byt_lt g (2 * q + 1)
          refine bX11_busy_49 (d := 997) (fun h => absurd h nle) (fun h => absurd h nle) (fun _ => by rw [e1]; exact vp_in_nI (by omega) (by omega)) (fun _ _ => ?_) (fun _ h => ?_)
          · rw [nI_1]; exact il (q + 1) (by omega)
          · rw [e1, o1] at h
            exact absurd ((nI_eq (b := 0) (by omega) (by omega)).mp h) (hm q (by omega))
      exact loop j 0 (by omega)
    -- all lengths are good
    have good' : ∀ j, j < n → byt f (2 * j + 1) ≠ 0 := fun j hj => by rw [← byt_cg g90]; exact good j hj
    have hu' : ∀ j, j < n → u 15 j = nI ((fun k => byt f (2 * k)) j) ∧ u 16 j = nI ((fun k => byt f (2 * k + 1)) j) := fun j hj => by
      have := hu j hj
      rw [byt_cg g90, byt_cg g90] at this
      exact this
    have hs256 : ∀ i, (fun k => byt f (2 * k)) i < 256 := fun i => byt_lt f _
    have hd256 : ∀ i, (fun k => byt f (2 * k + 1)) i < 256 := fun i => byt_lt f _
    generalize hse : (fun k => byt f (2 * k)) = s at hu' hs256
    generalize hde : (fun k => byt f (2 * k + 1)) = dd at hu' hd256
    have hd0 : ∀ i, i < n → dd i ≠ 0 := fun i hi => by rw [← hde]; exact good' i hi
    have hlee : nI n ≤ nI n := nI_le (Nat.le_refl _) (by omega)
    by_cases c3 : 100 ≤ a2 ∧ a2 ≤ 120
    · -- circuits
      obtain ⟨later, hl, rfl⟩ := rng100 c3
      have el : nI (100 + later) - 100 = nI later := by rw [n_100, pk_sub (by omega)]; congr 1; omega
      rw [b2i_t c3]
      refine bX10_busy_55 (d := 996) (fun _ h => absurd h (by decide)) (fun _ h => absurd h (by decide)) (fun _ _ => ?_) (fun h => absurd h (by decide))
      rw [el]
      refine bX6_fewestCircuits_0 (d := 997) (sp_sort hn1 (by omega) hs256 hu' (fun w ow hw => bX6_fewestCircuits_5 (d := 997) ?_))
      have P : ∀ m, Decidable (∀ i, i < n → enOK (fun j => s (insA s n j)) (fun j => dd (insA s n j)) m later i) := fun m => Nat.decidableBallLT n _
      have full : ∀ i, i < n → enOK (fun j => s (insA s n j)) (fun j => dd (insA s n j)) n later i := en_full (fun i hi => hd0 _ (insA_lt s n i hi))
      -- the reference, told the least
      have refL : ∀ (x : FF) (r : Nat), OS g x → 1 ≤ r → r ≤ n → (∀ i, i < n → enOK (fun j => s (insA s n j)) (fun j => dd (insA s n j)) r later i) → (∀ m, 1 ≤ m → m < r → ¬ ∀ i, i < n → enOK (fun j => s (insA s n j)) (fun j => dd (insA s n j)) m later i) → XP G mX11_busy 999 0 [.ref 82, .int (nI n), .int (nI (100 + later)), .null, .null, .null] [] sw x (fun v2 sw2 f2 => v2 = some (.int (nI r)) ∧ RR sw2 f2) := by
        intro x r ox hr1 hrn hP hN
        refine look x _ ox good' (bX11_busy_49 (d := 997) (fun _ h => ?_) (fun _ _ => ?_) (fun h => absurd hlee h) (fun h => absurd hlee h) (fun h => absurd hlee h))
        · rw [n_100, nI_ltI (by omega) (by omega)] at h
          omega
        refine sp_laysRow (d := 997) (by omega) (fun y oy hy => bX11_busy_86 (d := 997) ?_)
        have x90 : upd2 x 82 10 0 90 = f 90 := by rw [upd2_ne _ _ _ (by omega), ox 90 (by omega), g90]
        have hse2 : (fun k => byt (upd2 x 82 10 0) (2 * k)) = s := by rw [← hse]; funext k; exact byt_cg x90 _
        rw [hse2] at hy
        have loop : ∀ (l m : Nat) (z : FF), 1 ≤ m → m + l = r → (∀ c, c ≠ 107 → z c = y c) → XP G mX11_busy 999 88 [.ref 82, .int (nI n), .int (nI (100 + later)), .int (nI m), .null, .null] [] sw z (fun v2 sw2 f2 => v2 = some (.int (nI r)) ∧ RR sw2 f2) := by
          intro l
          induction l with
          | zero =>
            intro m z hm1 hm oz
            have e : m = r := by omega
            subst e
            refine bX11_busy_88 (d := 997) ?_
            rw [el]
            have z90 : z 90 = f 90 := by rw [oz 90 (by omega), oy 90 (by omega), x90]
            refine sp_areEnough (d := 997) (R := insA s n) (S := fun j => s (insA s n j)) (D := fun j => dd (insA s n j)) hm1 (by omega) hn hl (fun i => hs256 _) (fun i => hd256 _) (fun j hj => ⟨by rw [oz 106 (by omega)]; exact hy j hj, by have := insA_lt s n j hj; omega, by rw [byt_cg z90, ← hse], by rw [byt_cg z90, ← hde]⟩) (fun _ t ot => ?_) (fun hn2 t ot => absurd hP hn2)
            refine bX11_busy_98 (d := 997) (fun _ => ⟨rfl, RR_sumsM hR ho ht.2.2.1 ox (fun c hc => ?_)⟩) (fun h => absurd h (by decide))
            rw [ot c (by omega), oz c (by omega), oy c (by omega)]
          | succ l il =>
            intro m z hm1 hm oz
            refine bX11_busy_88 (d := 997) ?_
            rw [el]
            have z90 : z 90 = f 90 := by rw [oz 90 (by omega), oy 90 (by omega), x90]
            refine sp_areEnough (d := 997) (R := insA s n) (S := fun j => s (insA s n j)) (D := fun j => dd (insA s n j)) hm1 (by omega) hn hl (fun i => hs256 _) (fun i => hd256 _) (fun j hj => ⟨by rw [oz 106 (by omega)]; exact hy j hj, by have := insA_lt s n j hj; omega, by rw [byt_cg z90, ← hse], by rw [byt_cg z90, ← hde]⟩) (fun hy2 t ot => absurd hy2 (hN m hm1 (by omega))) (fun _ t ot => ?_)
            refine bX11_busy_98 (d := 997) (fun h => absurd rfl h) (fun _ => ?_)
            rw [nI_1]
            exact il (m + 1) t (by omega) (by omega) (fun c hc => by rw [ot c hc, oz c hc])
        exact loop (r - 1) 1 y (by omega) (by omega) (fun _ _ => rfl)
      have ow2 : OS g w := os.tr ow
      have loop : ∀ (l m : Nat) (x : FF), 1 ≤ m → m + l = n → (∀ c, c ≠ 17 → x c = w c) → (∀ q, 1 ≤ q → q < m → ¬ ∀ i, i < n → enOK (fun j => s (insA s n j)) (fun j => dd (insA s n j)) q later i) → XP G mX6_fewestCircuits 998 7 [.ref 14, .int (nI n), .int (nI later), .int (nI m)] [] sw x (fun v' sw' f' => XP G mX10_busy 999 77 [.ref 0, .int (nI n), .int (nI (100 + later)), .int 1] (retst v' []) sw' f' (fun v sw1 f1 => ∃ r : Int32, v = some (.int r) ∧ XP G mX11_busy 999 0 [.ref 82, .int (nI n), .int (nI (100 + later)), .null, .null, .null] [] sw1 f1 (fun v2 sw2 f2 => v2 = some (.int r) ∧ RR sw2 f2))) := by
        intro l
        induction l with
        | zero =>
          intro m x hm1 hm ox hN
          have e : m = n := by omega
          subst e
          exact bX6_fewestCircuits_7 (d := 997) (fun _ => bX10_busy_77 ⟨_, rfl, refL x m (ow2.tr (fun c hc => ox c (by omega))) hm1 (Nat.le_refl _) full hN⟩) (fun h => absurd hlee h)
        | succ l il =>
          intro m x hm1 hm ox hN
          refine bX6_fewestCircuits_7 (d := 997) (fun h => absurd h (nI_ge (by omega) (by omega))) (fun _ => ?_)
          refine sp_suffices (S := fun j => s (insA s n j)) (D := fun j => dd (insA s n j)) hm1 (by omega) (by omega) hl (fun i => hs256 _) (fun i => hd256 _) (fun j hj => by rw [ox 15 (by omega), ox 16 (by omega)]; exact hw j hj) (fun hP t ot => ?_) (fun hP t ot => ?_)
          · refine bX6_fewestCircuits_19 (d := 997) (fun h => absurd h (by decide)) (fun _ => bX10_busy_77 ⟨_, rfl, refL t m (ow2.tr (fun c hc => by rw [ot c (by omega), ox c (by omega)])) hm1 (by omega) hP hN⟩)
          · refine bX6_fewestCircuits_19 (d := 997) (fun _ => ?_) (fun h => absurd rfl h)
            rw [nI_1]
            refine il (m + 1) t (by omega) (by omega) (fun c hc => by rw [ot c hc, ox c hc]) (fun q q1 q2 => ?_)
            by_cases y : q = m
            · subst y; exact hP
            · exact hN q q1 (by omega)
      exact loop (n - 1) 1 w (by omega) (by omega) (fun _ _ => rfl) (fun q q1 q2 => by omega)
    · -- the busiest
      have c4 : 0 ≤ a2 ∧ a2 ≤ 1 := by
        rcases c2' with y | y
        · exact y
        · exact absurd y c3
      have c4e : a2 = 0 ∨ a2 = 1 := by
        obtain ⟨w, hw, rfl⟩ := rng (K := 1) (by decide) c4
        have : w = 0 ∨ w = 1 := by omega
        rcases this with rfl | rfl
        · exact Or.inl rfl
        · exact Or.inr rfl
      rw [b2i_f c3]
      have small := rbS_le (c := fun m => atM s dd m n) (B := n) (fun m => atM_le s dd m n)
      have refL : ∀ (r : Int32), r = (if a2 = 0 then nI (rbS (fun m => atM s dd m n) 512).1 else nI (rbS (fun m => atM s dd m n) 512).2) → XP G mX11_busy 999 0 [.ref 82, .int (nI n), .int a2, .null, .null, .null] [] sw u (fun v2 sw2 f2 => v2 = some (.int r) ∧ RR sw2 f2) := by
        intro r hr
        refine look u _ os good' (bX11_busy_49 (d := 997) (fun _ _ => ?_) (fun _ h => ?_) (fun h => absurd hlee h) (fun h => absurd hlee h) (fun h => absurd hlee h))
        rotate_left
        · rcases c4e with rfl | rfl <;> exact absurd (by decide) h
        have x90 : upd2 u 82 10 0 90 = f 90 := by rw [upd2_ne _ _ _ (by omega), os 90 (by omega), g90]
        have fin : RR sw (upd2 u 82 10 0) := RR_sumsM hR ho ht.2.2.1 os OM.rf
        have at1 : ∀ m, atM (fun k => byt (upd2 u 82 10 0) (2 * k)) (fun k => byt (upd2 u 82 10 0) (2 * k + 1)) m n = atM s dd m n := fun m => by
          rw [← hse, ← hde]
          simp only [byt_cg x90]
        have loop : ∀ (l m : Nat), m + l = 512 → XP G mX11_busy 999 118 [.ref 82, .int (nI n), .int a2, .int (nI (rbS (fun m => atM s dd m n) m).1), .int (nI (rbS (fun m => atM s dd m n) m).2), .int (nI m)] [] sw (upd2 u 82 10 0) (fun v2 sw2 f2 => v2 = some (.int r) ∧ RR sw2 f2) := by
          intro l
          induction l with
          | zero =>
            intro m hm
            have e : m = 512 := by omega
            have hle5 : (512 : Int32) ≤ nI m := by rw [n_512]; exact nI_le (by omega) (by omega)
            refine bX11_busy_118 (d := 997) (fun _ h => ⟨?_, fin⟩) (fun _ h => ⟨?_, fin⟩) (fun h => absurd hle5 h)
            · rw [hr, if_neg h, e]
            · rw [hr, if_pos h, e]
          | succ l il =>
            intro m hm
            have nle5 : ¬ (512 : Int32) ≤ nI m := by rw [n_512]; exact nI_ge (by omega) (by omega)
            have sm := small m
            have al := atM_le s dd m n
            have I := il (m + 1) (by omega)
            have e9 : rbS (fun m => atM s dd m n) (m + 1) = if (rbS (fun m => atM s dd m n) m).1 < atM s dd m n then (atM s dd m n, m) else rbS (fun m => atM s dd m n) m := rfl
            refine bX11_busy_118 (d := 997) (fun h => absurd h nle5) (fun h => absurd h nle5) (fun _ => ?_)
            refine sp_atOnceIn (d := 997) (by omega) (by omega) ?_
            rw [at1]
            refine bX11_busy_133 (d := 997) (fun h => ?_) (fun h => ?_)
            · rw [nI_ltI (by omega) (by omega)] at h
              refine sp_atOnceIn (d := 997) (by omega) (by omega) ?_
              rw [at1]
              refine bX11_busy_147 (d := 997) ?_
              rw [e9, if_pos h, ← nI_1] at I
              exact I
            · rw [nI_ltI (by omega) (by omega)] at h
              rw [e9, if_neg h, ← nI_1] at I
              exact I
        exact loop 512 0 (by omega)
      have cls : ∀ x : Int32, (x = 0 ↔ a2 = 0) → XP G mX6_busiest 998 0 [.ref 14, .int (nI n), .int x, .null, .null, .null, .null, .null] [] sw u (fun v' sw' f' => XP G mX10_busy 999 98 [.ref 0, .int (nI n), .int a2, .int 0] (retst v' []) sw' f' (fun v sw1 f1 => ∃ r : Int32, v = some (.int r) ∧ XP G mX11_busy 999 0 [.ref 82, .int (nI n), .int a2, .null, .null, .null] [] sw1 f1 (fun v2 sw2 f2 => v2 = some (.int r) ∧ RR sw2 f2))) := by
        intro x hx
        refine sp_busiest (by omega) hs256 hd256 hu' (bX10_busy_98 ⟨_, rfl, refL _ ?_⟩)
        rw [busy_eq hn1 hd0 hs256]
        by_cases y : a2 = 0
        · rw [if_pos y, if_pos (hx.mpr y)]
        · rw [if_neg y, if_neg (fun z => y (hx.mp z))]
      refine bX10_busy_55 (d := 996) (fun _ _ h => ?_) (fun _ _ h => ?_) (fun _ h => absurd rfl h) (fun h => absurd h (by decide))
      · rcases c4e with rfl | rfl
        · exact cls 0 Iff.rfl
        · exact absurd rfl h
      · exact cls 1 (by rw [h])
  refine bX10_busy_0 (d := 996) (fun h => absurd c1 h) (fun _ _ => T) (fun _ q1 q2 => absurd ⟨q1, q2⟩ c2) (fun _ _ _ => T)
