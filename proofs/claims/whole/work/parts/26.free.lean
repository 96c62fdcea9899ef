/-! ===== freeCode: the class ===== -/
def nocl (f : FF) (v k : Nat) : Prop := ∀ e, e < 8 → ¬ clash f v k e
theorem nocl_SX {sw : Bool} {f g : FF} (s : SX sw f g) {v k : Nat} : nocl g v k ↔ nocl f v k := by
  have e1 : g 112 = f 112 := funext fun j => s _ _ (by unfold relv; omega)
  have e2 : g 113 = f 113 := funext fun j => s _ _ (by unfold relv; omega)
  unfold nocl clash
  rw [e1, e2]
/-- only the asked row of the plans differs -/
def O12 (f g : FF) : Prop := ∀ c, c ≠ 12 → c ≠ 13 → g c = f c
theorem clash_pref {f : FF} (hP : RP f) {v k e : Nat} (hk1 : 1 ≤ k) (hk : k ≤ 3) (he : e < 8) (h8 : f 13 8 = nI k) (hd : ∀ i, i < k → f 12 (96 + i) = nI (digR v k i)) : clash f v k e ↔ (prefC f 8 e ∨ prefC f e 8) := by
  obtain ⟨p1, p2, p3⟩ := hP e he
  obtain ⟨L, hL, eL⟩ := isN_nI p2 (by omega)
  have tL : (f 13 e).toInt = L := by rw [eL, nI_toInt (by omega)]
  have t8 : (f 13 8).toInt = k := by rw [h8, nI_toInt (by omega)]
  have dg : ∀ i, i < k → i < L → (f 112 (6 * e + i) = nI (48 + digR v k i) ↔ f 12 (12 * 8 + i) = f 12 (12 * e + i)) := by
    intro i h1 h2
    rw [(p3 i (by omega)).1, show 12 * 8 + i = 96 + i by omega, hd i h1, Nat.add_comm 48, ← nI_add, ← n_48, add48]
    exact ⟨fun z => z.symm, fun z => z.symm⟩
  unfold clash prefC
  rw [p1]
  constructor
  · rintro ⟨q1, q2⟩
    by_cases hLk : L ≤ k
    · left
      refine ⟨q1, ?_, fun i hi => (dg i (by omega) (by omega)).mp (q2 i (by omega) (by omega))⟩
      rw [eL, h8]; exact nI_le hLk (by omega)
    · right
      refine ⟨?_, ?_, fun i hi => ((dg i (by omega) (by omega)).mp (q2 i (by omega) (by omega))).symm⟩
      · rw [h8]; exact nI_ne0 (by omega) (by omega)
      · rw [eL, h8]; exact nI_le (by omega) (by omega)
  · rintro (⟨q1, q2, q3⟩ | ⟨q1, q2, q3⟩)
    · exact ⟨q1, fun i h1 h2 => (dg i h1 (by omega)).mpr (q3 i (by omega))⟩
    · have hkL : k ≤ L := by
        have := Int32.le_iff_toInt_le.mp q2
        omega
      refine ⟨?_, fun i h1 h2 => (dg i h1 (by omega)).mpr (q3 i (by omega)).symm⟩
      rw [eL]; exact nI_ne0 (by omega) (by omega)
theorem sp_staysClear {G : GC} {d : Nat} {sw : Bool} {f : FF} {Q : QQ} {v k : Nat} (hk1 : 1 ≤ k) (hk : k ≤ 3) (hv : v < 1000) (hP : RP f) (ht : nocl f v k → ∀ g, SX sw f g → O12 f g → Q (some (.int 1)) sw g) (hf : ¬ nocl f v k → ∀ g, SX sw f g → O12 f g → Q (some (.int 0)) sw g) : XP G mX4_staysClear (d + 1) 0 [.ref 11, .int (nI v), .int (nI k), .null, .null] [] sw f Q := by
  -- behind the digits
  have tests : ∀ g, SX sw f g → O12 f g → g 13 8 = nI k → (∀ i, i < k → g 12 (96 + i) = nI (digR v k i)) → ∀ x3 : Int32, ∀ (n e : Nat), e + n = 8 → (∀ m, m < e → ¬ clash f v k m) → XP G mX4_staysClear (d + 1) 48 [.ref 11, .int (nI v), .int (nI k), .int x3, .int (nI e)] [] sw g Q := by
    intro g hs ho h8 hd x3 n
    have hPg := hs.RP hP
    have cl : ∀ e, e < 8 → (clash f v k e ↔ (prefC g 8 e ∨ prefC g e 8)) := by
      intro e he
      have e1 : g 112 = f 112 := funext fun j => hs _ _ (by unfold relv; omega)
      have e2 : g 113 = f 113 := funext fun j => hs _ _ (by unfold relv; omega)
      have := clash_pref hPg hk1 hk he h8 hd
      unfold clash at this ⊢
      rw [e1, e2] at this
      exact this
    have l8 : isN (g 13 8) 12 := by rw [h8]; exact nI_isN (by omega) (by omega)
    induction n with
    | zero =>
      intro e he hm
      have z : e = 8 := by omega
      subst z
      exact bX4_staysClear_48 (fun _ => ht (fun m h => hm m h) g hs ho) (fun h => absurd (by decide) h)
    | succ n ih =>
      intro e he hm
      refine bX4_staysClear_48 (fun h => absurd h (nI_ge (a := e) (b := 8) (by omega) (by omega))) (fun _ => ?_)
      refine sp_begins (i := 8) (j := e) (by omega) (by omega) (hPg.len e (by omega)) (fun hp => ?_) (fun hp => ?_)
      · exact bX4_staysClear_63 (fun _ => hf (fun c => c e (by omega) ((cl e (by omega)).mpr (Or.inl hp))) g hs ho) (fun h => absurd h (by decide))
      · refine bX4_staysClear_63 (fun h => absurd rfl h) (fun _ => ?_)
        refine sp_begins (i := e) (j := 8) (by omega) (by omega) l8 (fun hp2 => ?_) (fun hp2 => ?_)
        · exact bX4_staysClear_74 (fun h => absurd h (by decide)) (fun _ => hf (fun c => c e (by omega) ((cl e (by omega)).mpr (Or.inr hp2))) g hs ho)
        · refine bX4_staysClear_74 (fun _ => ?_) (fun h => absurd rfl h)
          rw [nI_1]
          refine ih (e + 1) (by omega) (fun m hm2 => ?_)
          by_cases y : m = e
          · subst y
            rw [cl m (by omega)]
            exact fun z => z.elim hp hp2
          · exact hm m (by omega)
  have digs : ∀ (n j u : Nat) (g : FF), n = j + 1 → j < k → u = v / 10 ^ (k - 1 - j) → SX sw f g → O12 f g → (∀ i, j < i → i < k → g 12 (96 + i) = nI (digR v k i)) → XP G mX4_staysClear (d + 1) 7 [.ref 11, .int (nI v), .int (nI k), .int (nI u), .int (nI j)] [] sw g Q := by
    intro n
    induction n with
    | zero => intro j u g hj; exact absurd hj (by omega)
    | succ n ih =>
      intro j u g hj hjk hu hs ho hd
      have hu2 : u < 1000 := by
        have : v / 10 ^ (k - 1 - j) ≤ v := Nat.div_le_self _ _
        omega
      have e1 : (96 : Int32) + nI j = nI (96 + j) := by rw [n_96, nI_add]
      refine bX4_staysClear_7 (fun h => absurd h (nI_pos (by omega))) (fun _ => ?_) (fun _ => ?_)
      · rw [e1]; exact vp_in_nI (by omega) (by omega)
      rw [e1, nI_clamp (by omega), n_10, pk_rem (by omega) (by omega) (by omega), pk_div (by omega) (by omega) (by omega)]
      have hs2 : SX sw f (upd2 g 12 (96 + j) (nI (u % 10))) := hs.up (by have := lwB_or sw; unfold relv; omega)
      have ho2 : O12 f (upd2 g 12 (96 + j) (nI (u % 10))) := fun c h1 h2 => by rw [upd2_ne _ _ _ h1]; exact ho c h1 h2
      have hd2 : ∀ i, j ≤ i → i < k → upd2 g 12 (96 + j) (nI (u % 10)) 12 (96 + i) = nI (digR v k i) := by
        intro i h1 h2
        rw [upd2_self]
        by_cases y : i = j
        · subst y
          rw [pk_us, hu]
          rfl
        · rw [pk_un (by omega)]
          exact hd i (by omega) h2
      cases j with
      | zero =>
        have e2 : nI 0 + (-1) = (-1 : Int32) := by decide
        rw [e2]
        refine bX4_staysClear_7 (fun _ => ?_) (fun h => absurd (by decide) h) (fun h => absurd (by decide) h)
        refine tests _ (hs2.up (by have := lwB_or sw; unfold relv; omega)) (fun c h1 h2 => by rw [upd2_ne _ _ _ h2]; exact ho2 c h1 h2) (by rw [upd2_self, pk_us]) (fun i hi => by rw [upd2_ne _ _ _ (by omega)]; exact hd2 i (by omega) hi) _ 8 0 (by omega) (fun m hm => absurd hm (by omega))
      | succ j =>
        rw [pk_m1]
        refine ih j _ _ (by omega) (by omega) ?_ hs2 ho2 (fun i h1 h2 => hd2 i (by omega) h2)
        rw [hu, Nat.div_div_eq_div_mul, ← Nat.pow_succ, show (k - 1 - (j + 1)).succ = k - 1 - j by omega]
  refine bX4_staysClear_0 ?_
  have e1 : nI k - 1 = nI (k - 1) := by rw [show k = (k - 1) + 1 by omega, nI_pred]; rfl
  rw [e1]
  exact digs k (k - 1) v f (by omega) (by omega) (by simp) SX.rf (fun c _ _ => rfl) (fun i h1 h2 => absurd h1 (by omega))
theorem sp_leastFree {G : GC} {d : Nat} {sw : Bool} {f : FF} {Q : QQ} {k : Nat} (hk1 : 1 ≤ k) (hk : k ≤ 3) (hP : RP f) (ht : ∀ v, v < 10 ^ k → nocl f v k → (∀ m, m < v → ¬ nocl f m k) → ∀ g, SX sw f g → O12 f g → Q (some (.int (nI v))) sw g) (hf : (∀ m, m < 10 ^ k → ¬ nocl f m k) → ∀ g, SX sw f g → O12 f g → Q (some (.int (-2))) sw g) : XP G mX4_leastFree (d + 2) 0 [.ref 11, .int (nI k), .null, .null] [] sw f Q := by
  have loop : ∀ A : Nat, A = 10 ^ k → A ≤ 1000 → ∀ (n v : Nat) (g : FF), v + n = A → SX sw f g → O12 f g → (∀ m, m < v → ¬ nocl f m k) → XP G mX4_leastFree (d + 2) 26 [.ref 11, .int (nI k), .int (nI A), .int (nI v)] [] sw g Q := by
    intro A hA hA2 n
    induction n with
    | zero =>
      intro v g hv hs ho hm
      have z : v = A := by omega
      subst z
      exact bX4_leastFree_26 (fun _ => hf (fun m h => hm m (by omega)) g hs ho) (fun h => absurd (nI_le (Nat.le_refl _) (by omega)) h)
    | succ n ih =>
      intro v g hv hs ho hm
      refine bX4_leastFree_26 (fun h => absurd h (nI_ge (by omega) (by omega))) (fun _ => ?_)
      refine sp_staysClear (d := d) hk1 hk (by omega) (hs.RP hP) (fun hc g2 s2 o2 => ?_) (fun hc g2 s2 o2 => ?_)
      · exact bX4_leastFree_37 (fun h => absurd h (by decide)) (fun _ => ht v (by omega) ((nocl_SX hs).mp hc) hm g2 (hs.tr s2) (fun c h1 h2 => (o2 c h1 h2).trans (ho c h1 h2)))
      · refine bX4_leastFree_37 (fun _ => ?_) (fun h => absurd rfl h)
        rw [nI_1]
        refine ih (v + 1) g2 (by omega) (hs.tr s2) (fun c h1 h2 => (o2 c h1 h2).trans (ho c h1 h2)) (fun m h => ?_)
        by_cases y : m = v
        · subst y; exact fun z => hc ((nocl_SX hs).mpr z)
        · exact hm m (by omega)
  rcases (by omega : k = 1 ∨ k = 2 ∨ k = 3) with rfl | rfl | rfl
  · exact bX4_leastFree_0 (fun h => absurd rfl h) (fun h => absurd rfl h) (fun _ => loop 10 (by decide) (by omega) 10 0 f (by omega) SX.rf (fun c _ _ => rfl) (fun m h => absurd h (by omega)))
  · exact bX4_leastFree_0 (fun _ h => absurd rfl h) (fun _ _ => loop 100 (by decide) (by omega) 100 0 f (by omega) SX.rf (fun c _ _ => rfl) (fun m h => absurd h (by omega))) (fun h => absurd h (by decide))
  · exact bX4_leastFree_0 (fun _ _ => loop 1000 (by decide) (by omega) 1000 0 f (by omega) SX.rf (fun c _ _ => rfl) (fun m h => absurd h (by omega))) (fun _ h => absurd h (by decide)) (fun h => absurd h (by decide))
/-! the reference -/
theorem sp_freeM {G : GC} {d : Nat} {sw : Bool} {f : FF} {Q : QQ} {k : Nat} (hk1 : 1 ≤ k) (hk : k ≤ 3) (hl : ∀ e, e < 8 → isN (f 113 e) 6) {A : Nat} (hA : A = 10 ^ k) (hA2 : A ≤ 1000) (ht : ∀ v, v < 10 ^ k → nocl f v k → (∀ m, m < v → ¬ nocl f m k) → Q (some (.int (nI v))) sw f) (hf : (∀ m, m < 10 ^ k → ¬ nocl f m k) → Q (some (.int (-2))) sw f) : ∀ v4 v5 : Value, XP G mX11_freeCode (d + 2) 47 [.ref 82, .int (nI k), .int (nI A), .int 0, v4, v5] [] sw f Q := by
  have inner : ∀ v, v < A → (∀ w4 w5 : Value, ¬ nocl f v k → XP G mX11_freeCode (d + 2) 47 [.ref 82, .int (nI k), .int (nI A), .int (nI (v + 1)), w4, w5] [] sw f Q) → (∀ m, m < v → ¬ nocl f m k) → ∀ (n e : Nat) (can : Int32), e + n = 8 → (can = 0 ∨ can = 1) → (can = 1 ↔ ∀ m, m < e → ¬ clash f v k m) → XP G mX11_freeCode (d + 2) 58 [.ref 82, .int (nI k), .int (nI A), .int (nI v), .int can, .int (nI e)] [] sw f Q := by
    intro v hv hk2 hm n
    induction n with
    | zero =>
      intro e can he hc hi
      have z : e = 8 := by omega
      subst z
      refine bX11_freeCode_58 (fun _ h => ?_) (fun _ h => ?_) (fun h => absurd (by decide) h)
      · rw [nI_1]
        refine hk2 _ _ (fun c => ?_)
        have := hi.mpr (fun m h => c m h)
        rw [h] at this
        exact absurd this (by decide)
      · have h1 : can = 1 := hc.resolve_left h
        exact ht v (by omega) (fun m h => hi.mp h1 m h) hm
    | succ n ih =>
      intro e can he hc hi
      refine bX11_freeCode_58 (fun h => absurd h (nI_ge (a := e) (b := 8) (by omega) (by omega))) (fun h => absurd h (nI_ge (a := e) (b := 8) (by omega) (by omega))) (fun _ => ?_)
      refine sp_clashes (d := d) (by omega) hk (by omega) (hl e (by omega)) (fun hp => ?_) (fun hp => ?_)
      · refine bX11_freeCode_73 (fun h => absurd h (by decide)) (fun _ => ?_)
        rw [nI_1]
        refine ih (e + 1) 0 (by omega) (Or.inl rfl) ⟨fun h => absurd h (by decide), fun h => absurd hp (h e (by omega))⟩
      · refine bX11_freeCode_73 (fun _ => ?_) (fun h => absurd rfl h)
        rw [nI_1]
        refine ih (e + 1) can (by omega) hc ⟨fun h m hm2 => ?_, fun h => hi.mpr (fun m hm2 => h m (by omega))⟩
        by_cases y : m = e
        · subst y; exact hp
        · exact hi.mp h m (by omega)
  have loop : ∀ (n v : Nat), v + n = A → (∀ m, m < v → ¬ nocl f m k) → ∀ v4 v5 : Value, XP G mX11_freeCode (d + 2) 47 [.ref 82, .int (nI k), .int (nI A), .int (nI v), v4, v5] [] sw f Q := by
    intro n
    induction n with
    | zero =>
      intro v hv hm v4 v5
      have z : v = A := by omega
      subst z
      exact bX11_freeCode_47 (fun _ => hf (fun m h => hm m (by omega))) (fun h => absurd (nI_le (Nat.le_refl _) (by omega)) h)
    | succ n ih =>
      intro v hv hm v4 v5
      refine bX11_freeCode_47 (fun h => absurd h (nI_ge (by omega) (by omega))) (fun _ => ?_)
      refine inner v (by omega) (fun w4 w5 hn => ih (v + 1) (by omega) (fun m h => ?_) w4 w5) hm 8 0 1 (by omega) (Or.inr rfl) ⟨fun _ m h => absurd h (by omega), fun _ => rfl⟩
      by_cases y : m = v
      · subst y; exact hn
      · exact hm m (by omega)
  exact fun v4 v5 => loop A 0 (by omega) (fun m h => absurd h (by omega)) v4 v5
theorem RT_O12 {f g : FF} (h : RT f) (o : O12 f g) : RT g := h.cg (by rw [o 1 (by omega) (by omega)]) (o 2 (by omega) (by omega)) (by rw [o 82 (by omega) (by omega)]) (o 90 (by omega) (by omega))
theorem op_freeCode (G : GC) : OP26 G RR := by
  intro a1 sw f hR
  have hP := hR.2.2.2.1
  by_cases c1 : 1 ≤ a1 ∧ a1 ≤ 3
  · obtain ⟨k, hk, rfl⟩ := rng (x := a1) (y := 3) (K := 3) (by decide) ⟨Int32.le_trans (by decide) c1.1, c1.2⟩
    have hk1 : 1 ≤ k := (nI_leI (a := 1) (by omega) (by omega)).mp c1.1
    -- what the reference answers, at any heap that differs in scratch
    have ref : ∀ g, SX sw f g → O12 f g → ∀ r : Int32, (¬ clrC f → r = -2) → (clrC f → ∀ v, v < 10 ^ k → nocl f v k → (∀ m, m < v → ¬ nocl f m k) → r = nI v) → (clrC f → (∀ m, m < 10 ^ k → ¬ nocl f m k) → r = -2) → XP G mX11_freeCode 999 0 [.ref 82, .int (nI k), .null, .null, .null, .null] [] sw g (fun v2 sw2 f2 => v2 = some (.int r) ∧ RR sw2 f2) := by
      intro g hs ho r r1 r2 r3
      have hPg := hs.RP hP
      have hRg : RR sw g := hR.ofSX hs (RT_O12 hR.1 ho)
      have cl : clrC f ↔ clrM g := by
        rw [clr_CM hP]
        have e1 : g 112 = f 112 := funext fun j => hs _ _ (by unfold relv; omega)
        have e2 : g 113 = f 113 := funext fun j => hs _ _ (by unfold relv; omega)
        unfold clrM prefM
        rw [e1, e2]
      refine bX11_freeCode_0 (d := 997) (fun _ => ?_) (fun h => absurd c1 h)
      refine sp_clearM (d := 997) hPg.lenM (fun hc => ?_) (fun hc => ?_)
      · have hcf := cl.mpr hc
        have fin : ∀ A : Nat, A = 10 ^ k → A ≤ 1000 → ∀ v4 v5 : Value, XP G mX11_freeCode 999 47 [.ref 82, .int (nI k), .int (nI A), .int 0, v4, v5] [] sw g (fun v2 sw2 f2 => v2 = some (.int r) ∧ RR sw2 f2) := fun A hA hA2 => sp_freeM (d := 997) hk1 hk hPg.lenM hA hA2 (fun v h1 h2 h3 => ⟨by rw [r2 hcf v h1 ((nocl_SX hs).mp h2) (fun m h z => h3 m h ((nocl_SX hs).mpr z))], hRg⟩) (fun h => ⟨by rw [r3 hcf (fun m h1 z => h m h1 ((nocl_SX hs).mpr z))], hRg⟩)
        rcases (by omega : k = 1 ∨ k = 2 ∨ k = 3) with rfl | rfl | rfl
        · exact bX11_freeCode_15 (d := 997) (fun _ h => absurd rfl h) (fun _ h => absurd rfl h) (fun _ _ => fin 10 (by decide) (by omega) _ _) (fun h => absurd h (by decide))
        · exact bX11_freeCode_15 (d := 997) (fun _ _ h => absurd rfl h) (fun _ _ _ => fin 100 (by decide) (by omega) _ _) (fun _ h => absurd h (by decide)) (fun h => absurd h (by decide))
        · exact bX11_freeCode_15 (d := 997) (fun _ _ _ => fin 1000 (by decide) (by omega) _ _) (fun _ _ h => absurd h (by decide)) (fun _ h => absurd h (by decide)) (fun h => absurd h (by decide))
      · exact bX11_freeCode_15 (d := 997) (fun h => absurd rfl h) (fun h => absurd rfl h) (fun h => absurd rfl h) (fun _ => ⟨by rw [r1 (fun z => hc (cl.mp z))], hRg⟩)
    refine bX10_freeCode_0 (d := 996) (fun _ => ?_) (fun h => absurd c1 h)
    refine sp_isClear (d := 997) hP.len (fun hc => ?_) (fun hc => ?_)
    · refine bX10_freeCode_18 (fun h => absurd h (by decide)) (fun _ => ?_)
      refine sp_leastFree (d := 996) hk1 hk hP (fun v h1 h2 h3 g hs ho => bX10_freeCode_29 ⟨_, rfl, ref g hs ho _ (fun h => absurd hc h) (fun _ v2 q1 q2 q3 => ?_) (fun _ h => absurd h2 (h v h1))⟩) (fun h g hs ho => bX10_freeCode_29 ⟨_, rfl, ref g hs ho _ (fun h => absurd hc h) (fun _ v2 q1 q2 q3 => absurd q2 (h v2 q1)) (fun _ _ => rfl)⟩)
      have : v = v2 := by
        rcases Nat.lt_trichotomy v v2 with y | y | y
        · exact absurd h2 (q3 v y)
        · exact y
        · exact absurd q2 (h3 v2 y)
      rw [this]
    · exact bX10_freeCode_18 (fun _ => ⟨_, rfl, ref f SX.rf (fun c _ _ => rfl) _ (fun _ => rfl) (fun h => absurd h hc) (fun h => absurd h hc)⟩) (fun h => absurd rfl h)
  · exact bX10_freeCode_0 (d := 996) (fun h => absurd h c1) (fun _ => ⟨_, rfl, bX11_freeCode_0 (d := 997) (fun h => absurd h c1) (fun _ => ⟨rfl, hR⟩)⟩)
