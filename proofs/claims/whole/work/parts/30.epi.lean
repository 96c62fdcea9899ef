/-! ===== what is reckoned from the tape alone ===== -/
def byt (f : FF) (j : Nat) : Nat := (f 90 j).toBitVec.toNat % 2 ^ 8
theorem byt_eq (f : FF) (j : Nat) : f 90 j &&& 255 = nI (byt f j) := pk_and _ 8 (by decide)
theorem byt_lt (f : FF) (j : Nat) : byt f j < 256 := Nat.mod_lt _ (by decide)
theorem oct_byt {f : FF} {j : Nat} (hj : j < 2 ^ 31) : oct f (nI j) = nI (byt f j) := by
  unfold oct
  rw [nI_clamp hj, byt_eq]
theorem tAt_byt {g : FF} {n j : Nat} (ht : TK g n) (hj : j < n) : tAt g (nI j) = nI (byt g j) := by
  rw [tAt_TK ht hj, ht.2.2.2 j hj, byt_eq]
theorem byt_cg {f g : FF} (h : g 90 = f 90) (j : Nat) : byt g j = byt f j := by unfold byt; rw [h]
theorem TK.cg {f g : FF} {n : Nat} (h : TK f n) (h1 : g 1 = f 1) (h2 : g 2 = f 2) (h3 : g 90 = f 90) : TK g n := by
  unfold TK at h ⊢
  rw [h1, h2, h3]
  exact h
/-- the class keeps to its rows of sums -/
def OS (f g : FF) : Prop := ∀ c, (c < 15 ∨ 19 < c) → g c = f c
theorem OS.rf {f : FF} : OS f f := fun _ _ => rfl
theorem OS.up {f g : FF} {c j : Nat} {x : Int32} (h : OS f g) (hc : 15 ≤ c ∧ c ≤ 19) : OS f (upd2 g c j x) := fun b hb => by rw [upd2_ne _ _ _ (by omega)]; exact h b hb
theorem OS.tr {f g u : FF} (a : OS f g) (b : OS g u) : OS f u := fun c hc => (b c hc).trans (a c hc)
theorem OS.TK {f g : FF} {n : Nat} (o : OS f g) (h : TK f n) : TK g n := h.cg (o 1 (by omega)) (o 2 (by omega)) (o 90 (by omega))
theorem OS.byt {f g : FF} (o : OS f g) (j : Nat) : byt g j = byt f j := byt_cg (o 90 (by omega)) j
/-- the reference keeps to its rows of sums -/
def OM (f g : FF) : Prop := ∀ c, (c < 104 ∨ 111 < c) → g c = f c
theorem OM.rf {f : FF} : OM f f := fun _ _ => rfl
theorem OM.up {f g : FF} {c j : Nat} {x : Int32} (h : OM f g) (hc : 104 ≤ c ∧ c ≤ 111) : OM f (upd2 g c j x) := fun b hb => by rw [upd2_ne _ _ _ (by omega)]; exact h b hb
theorem OM.tr {f g u : FF} (a : OM f g) (b : OM g u) : OM f u := fun c hc => (b c hc).trans (a c hc)
theorem OM.byt {f g : FF} (o : OM f g) (j : Nat) : byt g j = byt f j := byt_cg (o 90 (by omega)) j
theorem RR_sums {sw : Bool} {f g u v : FF} (hR : RR sw f) (ho : ∀ c, c ≠ 1 → g c = f c) (hg : g 1 1 = 0) (hu : OS g u) (hv : ∀ c, (c < 104 ∨ 111 < c) → c ≠ 90 → v c = upd2 u 82 10 0 c) (h90 : ∀ j, (v 90 j).toInt8.toInt32 = v 90 j) : RR sw v := by
  have hl := lwB_or sw
  have sx : SX sw f v := by
    intro c j r
    have hc1 : (c < 104 ∨ 111 < c) ∧ c ≠ 90 ∧ (c < 15 ∨ 19 < c) ∧ c ≠ 1 ∧ (c = 82 → j ≠ 10) := by unfold relv at r; omega
    rw [hv c hc1.1 hc1.2.1]
    by_cases y : c = 82
    · subst y
      rw [upd2_self, pk_un (hc1.2.2.2.2 rfl), hu 82 (by omega), ho 82 (by omega)]
    · rw [upd2_ne _ _ _ y, hu c hc1.2.2.1, ho c hc1.2.2.2.1]
  exact hR.ofSX sx (RT_empty (by rw [hv 1 (by omega) (by omega), upd2_ne _ _ _ (by omega), hu 1 (by omega)]; exact hg) (by rw [hv 82 (by omega) (by omega), upd2_self, pk_us]) h90)
theorem RR_sumsM {sw : Bool} {f g u v : FF} (hR : RR sw f) (ho : ∀ c, c ≠ 1 → g c = f c) (hg : g 1 1 = 0) (hu : OS g u) (hv : OM (upd2 u 82 10 0) v) : RR sw v :=
  RR_sums hR ho hg hu (fun c hc _ => hv c hc) (fun j => by rw [hv 90 (by omega), upd2_ne _ _ _ (by omega), hu 90 (by omega), ho 90 (by omega)]; exact hR.1.2.2.2 j)
/-! ===== epitaph ===== -/
/-- the alphabet behind i letters: which were seen, how many, the row -/
def alS (l : Nat → Nat) : Nat → Int32 × Nat × (Nat → Int32)
  | 0 => (0, 0, fun _ => 0)
  | i + 1 => if bt (alS l i).1 (l i) = true then alS l i else ((alS l i).1 ||| ((1 : Int32) <<< (nI (l i) &&& 31)), (alS l i).2.1 + 1, upd (alS l i).2.2 (alS l i).2.1 (nI (l i)))
def cnb (m : Int32) (n : Nat) : Nat := (List.range n).countP (fun s => bt m s)
theorem cnb_succ (m : Int32) (n : Nat) : cnb m (n + 1) = cnb m n + (if bt m n = true then 1 else 0) := by
  unfold cnb
  rw [List.range_succ, List.countP_append, List.countP_cons, List.countP_nil, Nat.zero_add]
theorem cnb_le (m : Int32) (n : Nat) : cnb m n ≤ n := by
  have := List.countP_le_length (p := fun s => bt m s) (l := List.range n)
  rw [List.length_range] at this
  exact this
theorem cnb_lt {m : Int32} {n c : Nat} (hc : c < n) (h : bt m c = false) : cnb m n < n := by
  induction n with
  | zero => omega
  | succ n ih =>
    rw [cnb_succ]
    by_cases y : c = n
    · subst y
      rw [if_neg (by rw [h]; decide)]
      have := cnb_le m c
      omega
    · have := ih (by omega)
      split <;> omega
theorem cnb_or {m : Int32} {c : Nat} (hc : c < 32) (h : bt m c = false) : ∀ n, n ≤ 32 → cnb (m ||| ((1 : Int32) <<< (nI c &&& 31))) n = cnb m n + (if c < n then 1 else 0) := by
  intro n
  induction n with
  | zero => intro _; simp [cnb]
  | succ n ih =>
    intro hn
    rw [cnb_succ, cnb_succ, ih (by omega), bt_or, bt_one hc (by omega)]
    by_cases y : n = c
    · subst y
      simp [h]
    · by_cases z : c < n
      · simp [y, z, show c < n + 1 by omega]; omega
      · simp [y, z, show ¬ c < n + 1 by omega]
theorem alS_inv {l : Nat → Nat} (hl : ∀ j, l j < 26) : ∀ i, (alS l i).2.1 = cnb (alS l i).1 26 ∧ (∀ c, c < 26 → bt (alS l i).1 c = true → ∃ j, j < (alS l i).2.1 ∧ (alS l i).2.2 j = nI c) ∧ ∀ j, j < i → bt (alS l i).1 (l j) = true := by
  intro i
  induction i with
  | zero => exact ⟨by simp [alS, cnb, bt_0], fun c _ h => by rw [show (alS l 0).1 = 0 from rfl, bt_0] at h; exact absurd h (by decide), fun j hj => absurd hj (by omega)⟩
  | succ i ih =>
    obtain ⟨i1, i2, i3⟩ := ih
    by_cases y : bt (alS l i).1 (l i) = true
    · have e : alS l (i + 1) = alS l i := if_pos y
      rw [e]
      refine ⟨i1, i2, fun j hj => ?_⟩
      by_cases z : j = i
      · subst z; exact y
      · exact i3 j (by omega)
    · have e : alS l (i + 1) = _ := if_neg y
      have yf : bt (alS l i).1 (l i) = false := by simpa using y
      rw [e]
      refine ⟨?_, fun c hc h => ?_, fun j hj => ?_⟩
      · show (alS l i).2.1 + 1 = cnb ((alS l i).1 ||| _) 26
        rw [cnb_or (by have := hl i; omega) yf 26 (by omega), if_pos (hl i), i1]
      · show ∃ j, j < (alS l i).2.1 + 1 ∧ upd (alS l i).2.2 (alS l i).2.1 (nI (l i)) j = nI c
        have h' : bt ((alS l i).1 ||| ((1 : Int32) <<< (nI (l i) &&& 31))) c = true := h
        rw [bt_or, bt_one (by have := hl i; omega) (by omega)] at h'
        by_cases z : c = l i
        · subst z
          exact ⟨_, Nat.lt_succ_self _, pk_us⟩
        · have : bt (alS l i).1 c = true := by simpa [z] using h'
          obtain ⟨j, hj, ej⟩ := i2 c hc this
          exact ⟨j, by omega, by rw [pk_un (by omega)]; exact ej⟩
      · show bt ((alS l i).1 ||| _) (l j) = true
        rw [bt_or, bt_one (by have := hl i; omega) (by have := hl j; omega)]
        by_cases z : j = i
        · subst z; simp
        · simp [i3 j (by omega)]
theorem alS_room {l : Nat → Nat} (hl : ∀ j, l j < 26) {i : Nat} (h : ¬ bt (alS l i).1 (l i) = true) : (alS l i).2.1 < 26 := by
  rw [(alS_inv hl i).1]
  exact cnb_lt (hl i) (by simpa using h)
/-- the letters that the alphabet is laid by -/
def epL (f : FF) (k i : Nat) : Nat := if i < k then byt f i - 65 else if i - k < 26 then i - k else 0
theorem epL_lt {f : FF} {k : Nat} (h : ∀ j, j < k → 65 ≤ byt f j ∧ byt f j ≤ 90) (i : Nat) : epL f k i < 26 := by
  unfold epL
  by_cases y : i < k
  · rw [if_pos y]
    have := h i y
    omega
  · rw [if_neg y]
    split <;> omega
theorem bit1_bt {m : Int32} {s : Nat} (hs : s < 32) : ¬ (m >>> (nI s &&& 31)) &&& 1 = 0 ↔ bt m s = true := by
  rw [bit0_bt hs]
  simp
theorem n_65 : (65 : Int32) = nI 65 := rfl
theorem n_26 : (26 : Int32) = nI 26 := rfl
theorem sp_layAlphabet {G : GC} {d : Nat} {sw : Bool} {f : FF} {Q : QQ} {k n : Nat} (hk : k ≤ 30) (hkn : k ≤ n) (hT : TK f n) (hb : ∀ j, j < k → 65 ≤ byt f j ∧ byt f j ≤ 90)
    (hq : ∀ g, OS f g → (∀ j, j < 26 → g 19 j = (alS (epL f k) (k + 26)).2.2 j) → Q none sw g) : XP G mX6_layAlphabet (d + 1) 0 [.ref 14, .int (nI k), .null, .null, .null, .null] [] sw f Q := by
  have hl := epL_lt hb
  have full : (alS (epL f k) (k + 26)).2.1 = 26 := by
    rw [(alS_inv hl _).1]
    rcases Nat.lt_or_ge (cnb (alS (epL f k) (k + 26)).1 26) 26 with y | y
    · exfalso
      have all : ∀ c, c < 26 → bt (alS (epL f k) (k + 26)).1 c = true := by
        intro c hc
        have := (alS_inv hl (k + 26)).2.2 (k + c) (by omega)
        rwa [show epL f k (k + c) = c by unfold epL; rw [if_neg (by omega), if_pos (by omega)]; omega] at this
      have : ∀ n, n ≤ 26 → cnb (alS (epL f k) (k + 26)).1 n = n := by
        intro n
        induction n with
        | zero => intro _; rfl
        | succ n ih =>
          intro hn
          rw [cnb_succ, ih (by omega), if_pos (all n (by omega))]
      rw [this 26 (by omega)] at y
      omega
    · have := cnb_le (alS (epL f k) (k + 26)).1 26
      omega
  have loop : ∀ (m i : Nat) (g : FF) (v5 : Value), i + m = k + 26 → OS f g → (∀ j, j < (alS (epL f k) i).2.1 → g 19 j = (alS (epL f k) i).2.2 j) → XP G mX6_layAlphabet (d + 1) 7 [.ref 14, .int (nI k), .int (alS (epL f k) i).1, .int (nI (alS (epL f k) i).2.1), .int (nI i), v5] [] sw g Q := by
    intro m
    induction m with
    | zero =>
      intro i g v5 hi ho hr
      have z : i = k + 26 := by omega
      subst z
      have hle : nI k + 26 ≤ nI (k + 26) := by rw [n_26, nI_add]; exact nI_le (Nat.le_refl _) (by omega)
      refine bX6_layAlphabet_7 (fun _ => hq g ho (by rw [full] at hr; exact hr)) (fun h => absurd hle h) (fun h => absurd hle h) (fun h => absurd hle h) (fun h => absurd hle h) (fun h => absurd hle h) (fun h => absurd hle h) (fun h => absurd hle h) (fun h => absurd hle h)
    | succ m ih =>
      intro i g v5 hi ho hr
      have hc : epL f k i < 32 := by have := hl i; omega
      have hms : (alS (epL f k) i).2.1 ≤ 26 := by rw [(alS_inv hl i).1]; exact cnb_le _ _
      have seen : bt (alS (epL f k) i).1 (epL f k i) = true → ∀ v : Value, XP G mX6_layAlphabet (d + 1) 7 [.ref 14, .int (nI k), .int (alS (epL f k) i).1, .int (nI (alS (epL f k) i).2.1), .int (nI i + 1), v] [] sw g Q := by
        intro hs v
        have e : alS (epL f k) (i + 1) = alS (epL f k) i := if_pos hs
        rw [nI_1, ← e]
        exact ih (i + 1) g v (by omega) ho (by rw [e]; exact hr)
      have fresh : ¬ bt (alS (epL f k) i).1 (epL f k i) = true → ∀ v : Value, XP G mX6_layAlphabet (d + 1) 7 [.ref 14, .int (nI k), .int ((alS (epL f k) i).1 ||| ((1 : Int32) <<< (nI (epL f k i) &&& 31))), .int (nI (alS (epL f k) i).2.1 + 1), .int (nI i + 1), v] [] sw (upd2 g 19 (nI (alS (epL f k) i).2.1).toNatClampNeg (nI (epL f k i))) Q := by
        intro hs v
        have e : alS (epL f k) (i + 1) = ((alS (epL f k) i).1 ||| ((1 : Int32) <<< (nI (epL f k i) &&& 31)), (alS (epL f k) i).2.1 + 1, upd (alS (epL f k) i).2.2 (alS (epL f k) i).2.1 (nI (epL f k i))) := if_neg hs
        rw [nI_1, nI_1, nI_clamp (by omega)]
        have := ih (i + 1) (upd2 g 19 (alS (epL f k) i).2.1 (nI (epL f k i))) v (by omega) (ho.up (by omega)) (by
          rw [e]
          intro j hj
          have hj' : j < (alS (epL f k) i).2.1 + 1 := hj
          show upd2 g 19 _ _ 19 j = upd _ _ _ j
          rw [upd2_self]
          by_cases y : j = (alS (epL f k) i).2.1
          · subst y; rw [pk_us, pk_us]
          · rw [pk_un y, pk_un y]; exact hr j (by omega))
        rw [e] at this
        exact this
      have nle : ¬ nI k + 26 ≤ nI i := by rw [n_26, nI_add]; exact nI_ge (by omega) (by omega)
      have nfull : ¬ bt (alS (epL f k) i).1 (epL f k i) = true → ¬ (26 : Int32) ≤ nI (alS (epL f k) i).2.1 := fun hs => by
        have := alS_room hl hs
        rw [n_26]
        exact nI_ge (by omega) (by omega)
      have vin3 : ¬ bt (alS (epL f k) i).1 (epL f k i) = true → vp_in (nI (alS (epL f k) i).2.1) 26 := fun hs => vp_in_nI (alS_room hl hs) (by omega)
      by_cases y : i < k
      · have e1 : epL f k i = byt f i - 65 := if_pos y
        have lt : tAt g (nI i) - 65 = nI (epL f k i) := by
          rw [tAt_byt (ho.TK hT) (by omega), ho.byt, n_65, pk_sub (hb i y).1, e1]
        have nki : ¬ nI k ≤ nI i := nI_ge y (by omega)
        refine bX6_layAlphabet_7 (fun h => absurd h nle) (fun _ h => absurd h nki) (fun _ h => absurd h nki) (fun _ h => absurd h nki) (fun _ h => absurd h nki) (fun _ _ h => ?_) (fun _ _ h h2 => ?_) (fun _ _ h h2 => ?_) (fun _ _ h h2 => ?_)
        · rw [lt] at h ⊢; exact seen ((bit1_bt hc).mp h) _
        · rw [lt] at h; exact absurd h2 (nfull (by rw [(bit0_bt hc).mp h]; decide))
        · rw [lt] at h; exact vin3 (by rw [(bit0_bt hc).mp h]; decide)
        · rw [lt] at h ⊢; exact fresh (by rw [(bit0_bt hc).mp h]; decide) _
      · have e1 : epL f k i = i - k := by unfold epL; rw [if_neg y, if_pos (by omega)]
        have lt : nI i - nI k = nI (epL f k i) := by rw [e1]; exact pk_sub (by omega)
        have nki : nI k ≤ nI i := nI_le (by omega) (by omega)
        refine bX6_layAlphabet_7 (fun h => absurd h nle) (fun _ _ h => ?_) (fun _ _ h h2 => ?_) (fun _ _ h h2 => ?_) (fun _ _ h h2 => ?_) (fun _ h => absurd nki h) (fun _ h => absurd nki h) (fun _ h => absurd nki h) (fun _ h => absurd nki h)
        · rw [lt] at h ⊢; exact seen ((bit1_bt hc).mp h) _
        · rw [lt] at h; exact absurd h2 (nfull (by rw [(bit0_bt hc).mp h]; decide))
        · rw [lt] at h; exact vin3 (by rw [(bit0_bt hc).mp h]; decide)
        · rw [lt] at h ⊢; exact fresh (by rw [(bit0_bt hc).mp h]; decide) _
  exact bX6_layAlphabet_0 (loop (k + 26) 0 f _ (by omega) OS.rf (fun j h => absurd h (Nat.not_lt_zero _)))
theorem alS_full {f : FF} {k : Nat} (hl : ∀ i, epL f k i < 26) : (∀ c, c < 26 → bt (alS (epL f k) (k + 26)).1 c = true) ∧ (alS (epL f k) (k + 26)).2.1 = 26 := by
  have all : ∀ c, c < 26 → bt (alS (epL f k) (k + 26)).1 c = true := by
    intro c hc
    have := (alS_inv hl (k + 26)).2.2 (k + c) (by omega)
    rwa [show epL f k (k + c) = c by unfold epL; rw [if_neg (by omega), if_pos (by omega)]; omega] at this
  refine ⟨all, ?_⟩
  rw [(alS_inv hl _).1]
  have : ∀ n, n ≤ 26 → cnb (alS (epL f k) (k + 26)).1 n = n := by
    intro n
    induction n with
    | zero => intro _; rfl
    | succ n ih =>
      intro hn
      rw [cnb_succ, ih (by omega), if_pos (all n (by omega))]
  exact this 26 (by omega)
theorem sp_laysAlphabet {G : GC} {d : Nat} {sw : Bool} {f : FF} {Q : QQ} {k : Nat} (hk : k ≤ 30) (hb : ∀ j, j < k → 65 ≤ byt f j ∧ byt f j ≤ 90)
    (hq : ∀ g, OM f g → (∀ j, j < 26 → g 111 j = (alS (epL f k) (k + 26)).2.2 j) → Q none sw g) : XP G mX11_laysAlphabet (d + 1) 0 [.ref 82, .int (nI k), .null, .null, .null, .null] [] sw f Q := by
  have hl := epL_lt hb
  have full := (alS_full hl).2
  have loop : ∀ (m i : Nat) (g : FF) (v5 : Value), i + m = k + 26 → OM f g → (∀ j, j < (alS (epL f k) i).2.1 → g 111 j = (alS (epL f k) i).2.2 j) → XP G mX11_laysAlphabet (d + 1) 7 [.ref 82, .int (nI k), .int (alS (epL f k) i).1, .int (nI (alS (epL f k) i).2.1), .int (nI i), v5] [] sw g Q := by
    intro m
    induction m with
    | zero =>
      intro i g v5 hi ho hr
      have z : i = k + 26 := by omega
      subst z
      have hle : nI k + 26 ≤ nI (k + 26) := by rw [n_26, nI_add]; exact nI_le (Nat.le_refl _) (by omega)
      refine bX11_laysAlphabet_7 (fun _ => hq g ho (by rw [full] at hr; exact hr)) (fun h => absurd hle h) (fun h => absurd hle h) (fun h => absurd hle h) (fun h => absurd hle h) (fun h => absurd hle h) (fun h => absurd hle h) (fun h => absurd hle h)
    | succ m ih =>
      intro i g v5 hi ho hr
      have hc : epL f k i < 32 := by have := hl i; omega
      have hms : (alS (epL f k) i).2.1 ≤ 26 := by rw [(alS_inv hl i).1]; exact cnb_le _ _
      have seen : bt (alS (epL f k) i).1 (epL f k i) = true → ∀ v : Value, XP G mX11_laysAlphabet (d + 1) 7 [.ref 82, .int (nI k), .int (alS (epL f k) i).1, .int (nI (alS (epL f k) i).2.1), .int (nI i + 1), v] [] sw g Q := by
        intro hs v
        have e : alS (epL f k) (i + 1) = alS (epL f k) i := if_pos hs
        rw [nI_1, ← e]
        exact ih (i + 1) g v (by omega) ho (by rw [e]; exact hr)
      have fresh : ¬ bt (alS (epL f k) i).1 (epL f k i) = true → ∀ v : Value, XP G mX11_laysAlphabet (d + 1) 7 [.ref 82, .int (nI k), .int ((alS (epL f k) i).1 ||| ((1 : Int32) <<< (nI (epL f k i) &&& 31))), .int (nI (alS (epL f k) i).2.1 + 1), .int (nI i + 1), v] [] sw (upd2 g 111 (nI (alS (epL f k) i).2.1).toNatClampNeg (nI (epL f k i))) Q := by
        intro hs v
        have e : alS (epL f k) (i + 1) = ((alS (epL f k) i).1 ||| ((1 : Int32) <<< (nI (epL f k i) &&& 31)), (alS (epL f k) i).2.1 + 1, upd (alS (epL f k) i).2.2 (alS (epL f k) i).2.1 (nI (epL f k i))) := if_neg hs
        rw [nI_1, nI_1, nI_clamp (by omega)]
        have := ih (i + 1) (upd2 g 111 (alS (epL f k) i).2.1 (nI (epL f k i))) v (by omega) (ho.up (by omega)) (by
          rw [e]
          intro j hj
          have hj' : j < (alS (epL f k) i).2.1 + 1 := hj
          show upd2 g 111 _ _ 111 j = upd _ _ _ j
          rw [upd2_self]
          by_cases y : j = (alS (epL f k) i).2.1
          · subst y; rw [pk_us, pk_us]
          · rw [pk_un y, pk_un y]; exact hr j (by omega))
        rw [e] at this
        exact this
      have nle : ¬ nI k + 26 ≤ nI i := by rw [n_26, nI_add]; exact nI_ge (by omega) (by omega)
      have vin3 : ¬ bt (alS (epL f k) i).1 (epL f k i) = true → vp_in (nI (alS (epL f k) i).2.1) 26 := fun hs => vp_in_nI (alS_room hl hs) (by omega)
      have hB : hasB (alS (epL f k) i).1 (nI (epL f k i)) ↔ bt (alS (epL f k) i).1 (epL f k i) = true := bitI_bt hc
      by_cases y : i < k
      · have e1 : epL f k i = byt f i - 65 := if_pos y
        have lt : oct g (nI i) - 65 = nI (epL f k i) := by
          rw [oct_byt (by omega), ho.byt, n_65, pk_sub (hb i y).1, e1]
        have nki : ¬ nI k ≤ nI i := nI_ge y (by omega)
        refine bX11_laysAlphabet_7 (fun h => absurd h nle) (fun _ h => absurd h nki) (fun _ h => absurd h nki) (fun _ h => absurd h nki) (fun _ _ => vp_in_nI (by omega) (by omega)) (fun _ _ h => ?_) (fun _ _ h => ?_) (fun _ _ h => ?_)
        · rw [lt, hB] at h; exact vin3 h
        · rw [lt, hB] at h; rw [lt]; exact fresh h _
        · rw [lt, hB] at h; rw [lt]; exact seen h _
      · have e1 : epL f k i = i - k := by unfold epL; rw [if_neg y, if_pos (by omega)]
        have lt : nI i - nI k = nI (epL f k i) := by rw [e1]; exact pk_sub (by omega)
        have nki : nI k ≤ nI i := nI_le (by omega) (by omega)
        refine bX11_laysAlphabet_7 (fun h => absurd h nle) (fun _ _ h => ?_) (fun _ _ h => ?_) (fun _ _ h => ?_) (fun _ h => absurd nki h) (fun _ h => absurd nki h) (fun _ h => absurd nki h) (fun _ h => absurd nki h)
        · rw [lt, hB] at h; exact vin3 h
        · rw [lt, hB] at h; rw [lt]; exact fresh h _
        · rw [lt, hB] at h; rw [lt]; exact seen h _
  exact bX11_laysAlphabet_0 (loop (k + 26) 0 f _ (by omega) OM.rf (fun j h => absurd h (Nat.not_lt_zero _)))
theorem n_90 : (90 : Int32) = nI 90 := rfl
theorem n_25 : (25 : Int32) = nI 25 := rfl
theorem in_byt {f : FF} {j : Nat} : (65 ≤ nI (byt f j) ∧ nI (byt f j) ≤ 90) ↔ (65 ≤ byt f j ∧ byt f j ≤ 90) := by
  have := byt_lt f j
  rw [n_65, n_90, nI_leI (by omega) (by omega), nI_leI (by omega) (by omega)]
theorem epL_cg {f g : FF} (h : g 90 = f 90) (k : Nat) : epL g k = epL f k := by
  funext i
  unfold epL
  rw [byt_cg h]
theorem op_epitaph (G : GC) : OP23 G RR := by
  intro a1 a2 a3 a4 hz sw f hR
  obtain ⟨h1, h2, h3, h4, h5, h6, h7⟩ := id hR
  by_cases c1 : 1 ≤ a1 ∧ a1 ≤ 30
  rotate_left
  · exact bX10_epitaph_0 (d := 996) (fun _ => ⟨_, rfl, bX11_epitaph_0 (d := 997) (fun _ => ⟨rfl, hR⟩) (fun h => absurd h c1) (fun h => absurd h c1) (fun h => absurd h c1) (fun h => absurd h c1)⟩) (fun h => absurd h c1) (fun h => absurd h c1) (fun h => absurd h c1)
  by_cases c2 : 1 ≤ a2 ∧ a2 ≤ 30
  rotate_left
  · exact bX10_epitaph_0 (d := 996) (fun h => absurd c1 h) (fun _ _ => ⟨_, rfl, bX11_epitaph_0 (d := 997) (fun h => absurd c1 h) (fun _ _ => ⟨rfl, hR⟩) (fun _ h => absurd h c2) (fun _ h => absurd h c2) (fun _ h => absurd h c2)⟩) (fun _ h => absurd h c2) (fun _ h => absurd h c2)
  by_cases c3 : 0 ≤ a4 ∧ a4 ≤ a2 - 1
  rotate_left
  · exact bX10_epitaph_0 (d := 996) (fun h => absurd c1 h) (fun _ h => absurd c2 h) (fun _ _ _ => ⟨_, rfl, bX11_epitaph_0 (d := 997) (fun h => absurd c1 h) (fun _ h => absurd c2 h) (fun _ _ _ => ⟨rfl, hR⟩) (fun _ _ h => absurd h c3) (fun _ _ h => absurd h c3)⟩) (fun _ _ h => absurd h c3)
  obtain ⟨k, hk1, hk, rfl⟩ := le1_rng (K := 30) (by decide) c1 (by omega)
  obtain ⟨m, hm1, hm, rfl⟩ := le1_rng (K := 30) (by decide) c2 (by omega)
  have em1 : nI m - 1 = nI (m - 1) := by rw [n_1]; exact pk_sub hm1
  have c3' := c3
  rw [em1] at c3'
  obtain ⟨w, hw, rfl⟩ := rng (K := m - 1) (nI_toInt (by omega)) c3'
  have ekm : nI k + nI m = nI (k + m) := nI_add _ _
  have ekw : nI k + nI w = nI (k + w) := nI_add _ _
  refine bX10_epitaph_0 (d := 996) (fun h => absurd c1 h) (fun _ h => absurd c2 h) (fun _ _ h => absurd c3 h) (fun _ _ _ => ?_)
  rw [ekm]
  refine sp_take (by omega) h1 (fun hle g hs ht ho hp => ?_) (fun hle => ?_)
  rotate_left
  · refine bX10_epitaph_42 (d := 996) (fun h => absurd rfl h) (fun _ => ⟨_, rfl, ?_⟩)
    have hle2 : ¬ nI k + nI m ≤ f 82 10 := by rw [ekm, h1.2.1]; exact hle
    exact bX11_epitaph_0 (d := 997) (fun h => absurd c1 h) (fun _ h => absurd c2 h) (fun _ _ h => absurd c3 h) (fun _ _ _ h => absurd h hle2) (fun _ _ _ _ => ⟨rfl, hR⟩)
  refine bX10_epitaph_42 (d := 996) (fun _ => ?_) (fun h => absurd h (by decide))
  have g90 : g 90 = f 90 := ho 90 (by omega)
  -- the reference: a fault, or the alphabet
  have refF : ∀ (u : FF) (j : Nat), (∀ c, c ≠ 1 → u c = f c) → u 1 1 = 0 → j < k + m → (∀ i, i < j → 65 ≤ byt f i ∧ byt f i ≤ 90) → ¬ (65 ≤ byt f j ∧ byt f j ≤ 90) → XP G mX11_epitaph 999 0 [.ref 82, .int (nI k), .int (nI m), .int a3, .int (nI w), .null, .null] [] sw u (fun v2 sw2 f2 => v2 = some (.int (-1000 - nI j)) ∧ RR sw2 f2) := by
    intro u j hu hu1 hj hgood hbad
    have hle2 : nI k + nI m ≤ u 82 10 := by rw [hu 82 (by omega), h1.2.1, ekm]; exact hle
    refine bX11_epitaph_0 (d := 997) (fun h => absurd c1 h) (fun _ h => absurd c2 h) (fun _ _ h => absurd c3 h) (fun _ _ _ _ => ?_) (fun _ _ _ h => absurd hle2 h)
    have ub : ∀ i, i < 2 ^ 31 → oct (upd2 u 82 10 0) (nI i) = nI (byt f i) := fun i hi => by rw [oct_byt hi, byt_cg (f := f) (by rw [upd2_ne _ _ _ (by omega), hu 90 (by omega)])]
    have loop : ∀ (n i : Nat), i + n = j → XP G mX11_epitaph 999 52 [.ref 82, .int (nI k), .int (nI m), .int a3, .int (nI w), .int (nI i), .null] [] sw (upd2 u 82 10 0) (fun v2 sw2 f2 => v2 = some (.int (-1000 - nI j)) ∧ RR sw2 f2) := by
      intro n
      induction n with
      | zero =>
        intro i hi
        have z : i = j := by omega
        subst z
        have nle : ¬ nI k + nI m ≤ nI i := by rw [ekm]; exact nI_ge (by omega) (by omega)
        refine bX11_epitaph_52 (d := 997) (fun h => absurd h nle) (fun _ => vp_in_nI (by omega) (by omega)) (fun _ h => ?_) (fun _ h => ⟨rfl, ?_⟩)
        · rw [ub i (by omega), in_byt] at h; exact absurd h hbad
        · exact RR_sumsM hR hu hu1 OS.rf OM.rf
      | succ n ih =>
        intro i hi
        have nle : ¬ nI k + nI m ≤ nI i := by rw [ekm]; exact nI_ge (by omega) (by omega)
        refine bX11_epitaph_52 (d := 997) (fun h => absurd h nle) (fun _ => vp_in_nI (by omega) (by omega)) (fun _ h => ?_) (fun _ h => ?_)
        · rw [nI_1]; exact ih (i + 1) (by omega)
        · rw [ub i (by omega), in_byt] at h; exact absurd (hgood i (by omega)) h
    exact loop j 0 (by omega)
  have refG : ∀ (u u0 : FF) (r : Int32), (∀ c, c ≠ 1 → u0 c = f c) → u0 1 1 = 0 → OS u0 u → (∀ i, i < k + m → 65 ≤ byt f i ∧ byt f i ≤ 90) → (∀ v : FF, (∀ j, j < 26 → v 111 j = (alS (epL f k) (k + 26)).2.2 j) → v 90 = f 90 → RR sw v → XP G mX11_epitaph 999 94 [.ref 82, .int (nI k), .int (nI m), .int a3, .int (nI w), .int (nI (k + m)), .null] [] sw v (fun v2 sw2 f2 => v2 = some (.int r) ∧ RR sw2 f2)) → XP G mX11_epitaph 999 0 [.ref 82, .int (nI k), .int (nI m), .int a3, .int (nI w), .null, .null] [] sw u (fun v2 sw2 f2 => v2 = some (.int r) ∧ RR sw2 f2) := by
    intro u u0 r hu0 hu1 os hgood hr
    have hle2 : nI k + nI m ≤ u 82 10 := by rw [os 82 (by omega), hu0 82 (by omega), h1.2.1, ekm]; exact hle
    refine bX11_epitaph_0 (d := 997) (fun h => absurd c1 h) (fun _ h => absurd c2 h) (fun _ _ h => absurd c3 h) (fun _ _ _ _ => ?_) (fun _ _ _ h => absurd hle2 h)
    have e90 : upd2 u 82 10 0 90 = f 90 := by rw [upd2_ne _ _ _ (by omega), os 90 (by omega), hu0 90 (by omega)]
    have ub : ∀ i, i < 2 ^ 31 → oct (upd2 u 82 10 0) (nI i) = nI (byt f i) := fun i hi => by rw [oct_byt hi, byt_cg e90]
    have loop : ∀ (n i : Nat), i + n = k + m → XP G mX11_epitaph 999 52 [.ref 82, .int (nI k), .int (nI m), .int a3, .int (nI w), .int (nI i), .null] [] sw (upd2 u 82 10 0) (fun v2 sw2 f2 => v2 = some (.int r) ∧ RR sw2 f2) := by
      intro n
      induction n with
      | zero =>
        intro i hi
        have z : i = k + m := by omega
        subst z
        have hle9 : nI k + nI m ≤ nI (k + m) := by rw [ekm]; exact nI_le (Nat.le_refl _) (by omega)
        refine bX11_epitaph_52 (d := 997) (fun _ => ?_) (fun h => absurd hle9 h) (fun h => absurd hle9 h) (fun h => absurd hle9 h)
        refine sp_laysAlphabet (d := 997) hk (fun j hj => by rw [byt_cg e90]; exact hgood j (by omega)) (fun v om hv => ?_)
        rw [epL_cg e90] at hv
        exact hr v hv (by rw [om 90 (by omega), e90]) (RR_sumsM hR hu0 hu1 os om)
      | succ n ih =>
        intro i hi
        have nle : ¬ nI k + nI m ≤ nI i := by rw [ekm]; exact nI_ge (by omega) (by omega)
        refine bX11_epitaph_52 (d := 997) (fun h => absurd h nle) (fun _ => vp_in_nI (by omega) (by omega)) (fun _ h => ?_) (fun _ h => ?_)
        · rw [nI_1]; exact ih (i + 1) (by omega)
        · rw [ub i (by omega), in_byt] at h; exact absurd (hgood i (by omega)) h
    exact loop (k + m) 0 (by omega)
  have gb : ∀ j, j < k + m → g 2 j = nI (byt f j) := fun j hj => by rw [ht.2.2.2 j hj, byt_eq, byt_cg g90]
  refine sp_holdsOnly (d := 997) ht (fun hgood u ou tu => ?_) (fun j hj hgood hbad u ou u1 u5 => ?_)
  rotate_left
  · refine bX10_epitaph_58 (d := 996) (fun h => absurd rfl h) (fun _ => ⟨_, rfl, ?_⟩)
    rw [u5]
    refine refF u j (fun c hc => by rw [ou c hc, ho c hc]) u1 hj (fun i hi => ?_) ?_
    · have := hgood i hi
      rw [gb i (by omega), in_byt] at this
      exact this
    · rw [gb j hj, in_byt] at hbad
      exact hbad
  refine bX10_epitaph_58 (d := 996) (fun _ => ?_) (fun h => absurd h (by decide))
  have good : ∀ i, i < k + m → 65 ≤ byt f i ∧ byt f i ≤ 90 := fun i hi => by
    have := hgood i hi
    rw [gb i hi, in_byt] at this
    exact this
  have u90 : u 90 = f 90 := by rw [ou 90 (by omega), g90]
  have uo : ∀ c, c ≠ 1 → u c = f c := fun c hc => by rw [ou c hc, ho c hc]
  rw [ekw]
  refine bX6_cipher_0 (d := 996) (sp_layAlphabet (d := 996) hk (by omega) tu (fun j hj => by rw [byt_cg u90]; exact good j (by omega)) (fun v os hv => ?_))
  rw [epL_cg u90] at hv
  have tv := os.TK tu
  have v90 : v 90 = f 90 := by rw [os 90 (by omega), u90]
  have gd := good (k + w) (by omega)
  have lt : tAt v (nI (k + w)) - 65 = nI (byt f (k + w) - 65) := by rw [tAt_byt tv (by omega), byt_cg v90, n_65, pk_sub gd.1]
  have in26 : vp_in (nI (byt f (k + w) - 65)) 26 := vp_in_nI (by omega) (by omega)
  have in25 : 0 ≤ nI (byt f (k + w) - 65) ∧ nI (byt f (k + w) - 65) ≤ 25 := ⟨nI_pos' (by omega), by rw [n_25]; exact nI_le (by omega) (by omega)⟩
  refine bX6_cipher_5 (d := 996) (fun hb => ?_) (fun _ h => ?_) (fun _ _ => by rw [lt]; exact in26) (fun hb _ => ?_)
  · -- back
    rw [lt]
    obtain ⟨j, hj, ej⟩ := (alS_inv (epL_lt (fun j hj => good j (by omega) : ∀ j, j < k → _)) (k + 26)).2.1 (byt f (k + w) - 65) (by omega) ((alS_full (epL_lt (fun j hj => good j (by omega) : ∀ j, j < k → _))).1 _ (by omega))
    rw [(alS_full (epL_lt (fun j hj => good j (by omega) : ∀ j, j < k → _))).2] at hj
    obtain ⟨p, ⟨hp26, hpe⟩, hpm⟩ := pk_least (fun p => p < 26 ∧ (alS (epL f k) (k + 26)).2.2 p = nI (byt f (k + w) - 65)) ⟨j, hj, ej⟩
    have loop : ∀ (n i : Nat), i + n = p → XP G mX6_cipher 998 48 [.ref 14, .int (nI k), .int a3, .int (nI (k + w)), .int (nI (byt f (k + w) - 65)), .int (nI i)] [] sw v (fun v' sw' f' => XP G mX10_epitaph 999 82 [.ref 0, .int (nI k), .int (nI m), .int a3, .int (nI w)] (retst v' []) sw' f' (fun v sw1 f1 => ∃ r : Int32, v = some (.int r) ∧ XP G mX11_epitaph 999 0 [.ref 82, .int (nI k), .int (nI m), .int a3, .int (nI w), .null, .null] [] sw1 f1 (fun v2 sw2 f2 => v2 = some (.int r) ∧ RR sw2 f2))) := by
      intro n
      induction n with
      | zero =>
        intro i hi
        have z : i = p := by omega
        subst z
        have n26 : ¬ (26 : Int32) ≤ nI i := by rw [n_26]; exact nI_ge (by omega) (by omega)
        refine bX6_cipher_48 (d := 996) (fun h => absurd h n26) (fun _ => vp_in_nI (by omega) (by omega)) (fun _ h => ?_) (fun _ h => ?_)
        · rw [nI_clamp (by omega), hv i hp26] at h; exact absurd hpe h
        · refine bX10_epitaph_82 ⟨_, rfl, refG v u _ uo tu.2.2.1 os good (fun z hz1 hz2 hz3 => ?_)⟩
          have lz : oct z (nI k + nI w) - 65 = nI (byt f (k + w) - 65) := by rw [ekw, oct_byt (by omega), byt_cg hz2, n_65, pk_sub gd.1]
          refine bX11_epitaph_94 (d := 997) (by rw [ekw]; exact vp_in_nI (by omega) (by omega)) (fun _ => ?_) (fun h => absurd h hb) (fun h => absurd h hb)
          rw [lz]
          have loop2 : ∀ (n q : Nat), q + n = i → XP G mX11_epitaph 999 122 [.ref 82, .int (nI k), .int (nI m), .int a3, .int (nI w), .int (nI (byt f (k + w) - 65)), .int (nI q)] [] sw z (fun v2 sw2 f2 => v2 = some (.int (nI i)) ∧ RR sw2 f2) := by
            intro n
            induction n with
            | zero =>
              intro q hq
              have z9 : q = i := by omega
              subst z9
              refine bX11_epitaph_122 (d := 997) (vp_in_nI (by omega) (by omega)) (fun _ => ⟨rfl, hz3⟩) (fun h => ?_)
              rw [nI_clamp (by omega), hz1 q (by omega)] at h
              exact absurd hpe h
            | succ n ih =>
              intro q hq
              refine bX11_epitaph_122 (d := 997) (vp_in_nI (by omega) (by omega)) (fun h => ?_) (fun _ => ?_)
              · rw [nI_clamp (by omega), hz1 q (by omega)] at h
                exact absurd ⟨(by omega : q < 26), h⟩ (hpm q (by omega))
              · rw [nI_1]; exact ih (q + 1) (by omega)
          exact loop2 i 0 (by omega)
      | succ n ih =>
        intro i hi
        have n26 : ¬ (26 : Int32) ≤ nI i := by rw [n_26]; exact nI_ge (by omega) (by omega)
        refine bX6_cipher_48 (d := 996) (fun h => absurd h n26) (fun _ => vp_in_nI (by omega) (by omega)) (fun _ h => ?_) (fun _ h => ?_)
        · rw [nI_1]; exact ih (i + 1) (by omega)
        · rw [nI_clamp (by omega), hv i (by omega)] at h
          exact absurd ⟨(by omega : i < 26), h⟩ (hpm i (by omega))
    exact loop p 0 (by omega)
  · rw [lt] at h; exact absurd in25 h
  · rw [lt]
    refine bX10_epitaph_82 ⟨_, rfl, refG v u _ uo tu.2.2.1 os good (fun z hz1 hz2 hz3 => ?_)⟩
    have lz : oct z (nI k + nI w) - 65 = nI (byt f (k + w) - 65) := by rw [ekw, oct_byt (by omega), byt_cg hz2, n_65, pk_sub gd.1]
    refine bX11_epitaph_94 (d := 997) (by rw [ekw]; exact vp_in_nI (by omega) (by omega)) (fun h => absurd hb h) (fun _ => by rw [lz]; exact in26) (fun _ => ⟨?_, hz3⟩)
    rw [lz, nI_clamp (by omega), hz1 _ (by omega), hv _ (by omega)]
