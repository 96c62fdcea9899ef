/-! ===== rows sorted by beginning ===== -/
def insP (s row : Nat → Nat) (x : Nat) : Nat → Nat
  | 0 => 0
  | a + 1 => if x < s (row a) then insP s row x a else a + 1
def insA (s : Nat → Nat) : Nat → Nat → Nat
  | 0 => fun _ => 0
  | k + 1 => fun j => if j < insP s (insA s k) (s k) k then insA s k j else if j = insP s (insA s k) (s k) k then k else insA s k (j - 1)
theorem insP_le (s row : Nat → Nat) (x : Nat) : ∀ a, insP s row x a ≤ a := by
  intro a
  induction a with
  | zero => exact Nat.le_refl _
  | succ a ih =>
    show (if x < s (row a) then insP s row x a else a + 1) ≤ _
    split <;> omega
theorem insA_lt (s : Nat → Nat) : ∀ k j, j < k → insA s k j < k := by
  intro k
  induction k with
  | zero => intro j h; omega
  | succ k ih =>
    intro j hj
    have p := insP_le s (insA s k) (s k) k
    show (if j < insP s (insA s k) (s k) k then insA s k j else if j = insP s (insA s k) (s k) k then k else insA s k (j - 1)) < k + 1
    split
    · have := ih j (by omega); omega
    · split
      · omega
      · have := ih (j - 1) (by omega); omega
theorem sp_sort {G : GC} {d : Nat} {sw : Bool} {f : FF} {Q : QQ} {s dd : Nat → Nat} {n : Nat} (hn1 : 1 ≤ n) (hn : n ≤ 16) (hs : ∀ i, s i < 256) (hf : ∀ j, j < n → f 15 j = nI (s j) ∧ f 16 j = nI (dd j))
    (hq : ∀ g, OS f g → (∀ j, j < n → g 15 j = nI (s (insA s n j)) ∧ g 16 j = nI (dd (insA s n j))) → Q none sw g) : XP G mX6_sortByBeginning d 0 [.ref 14, .int (nI n), .null, .null, .null, .null] [] sw f Q := by
  have outer : ∀ (k i : Nat) (g : FF) (v3 v4 v5 : Value), 1 ≤ i → i + k = n → OS f g → (∀ j, j < i → g 15 j = nI (s (insA s i j)) ∧ g 16 j = nI (dd (insA s i j))) → (∀ j, i ≤ j → j < n → g 15 j = nI (s j) ∧ g 16 j = nI (dd j)) → XP G mX6_sortByBeginning d 2 [.ref 14, .int (nI n), .int (nI i), v3, v4, v5] [] sw g Q := by
    intro k
    induction k with
    | zero =>
      intro i g v3 v4 v5 hi1 hi os hr _
      have z : i = n := by omega
      subst z
      have hle : nI i ≤ nI i := nI_le (Nat.le_refl _) (by omega)
      exact bX6_sortByBeginning_2 (fun _ => hq g os hr) (fun h => absurd hle h) (fun h => absurd hle h) (fun h => absurd hle h)
    | succ k ih =>
      intro i g v3 v4 v5 hi1 hi os hr hr2
      have nle : ¬ nI n ≤ nI i := nI_ge (by omega) (by omega)
      have vi : vp_in (nI i) 16 := vp_in_nI (by omega) (by omega)
      refine bX6_sortByBeginning_2 (fun h => absurd h nle) (fun _ => vi) (fun _ => vi) (fun _ => ?_)
      rw [nI_clamp (by omega), (hr2 i (Nat.le_refl _) (by omega)).1, (hr2 i (Nat.le_refl _) (by omega)).2]
      have si := hs i
      have inner : ∀ (a : Nat) (u : FF), a ≤ i → OS f u → insP s (insA s i) (s i) a = insP s (insA s i) (s i) i → (∀ j, j < a → u 15 j = nI (s (insA s i j)) ∧ u 16 j = nI (dd (insA s i j))) → (∀ j, a < j → j ≤ i → u 15 j = nI (s (insA s i (j - 1))) ∧ u 16 j = nI (dd (insA s i (j - 1)))) → (∀ j, i < j → j < n → u 15 j = nI (s j) ∧ u 16 j = nI (dd j)) → XP G mX6_sortByBeginning d 25 [.ref 14, .int (nI n), .int (nI i), .int (nI (s i)), .int (nI (dd i)), .int (nI a)] [] sw u Q := by
        intro a
        induction a with
        | zero =>
          intro u ha uo hp u1 u2 u3
          have h00 : nI 0 ≤ 0 := by decide
          have v0 : vp_in (nI 0) 16 := vp_in_nI (by omega) (by omega)
          refine bX6_sortByBeginning_25 (fun _ => v0) (fun _ => v0) (fun _ => ?_) (fun h => absurd h00 h) (fun h => absurd h00 h) (fun h => absurd h00 h) (fun h => absurd h00 h) (fun h => absurd h00 h) (fun h => absurd h00 h) (fun h => absurd h00 h) (fun h => absurd h00 h) (fun h => absurd h00 h)
          rw [nI_clamp (by omega), nI_1]
          have P : insP s (insA s i) (s i) i = 0 := by rw [← hp]; rfl
          refine ih (i + 1) _ _ _ _ (by omega) (by omega) ((uo.up (by omega)).up (by omega)) (fun j hj => ?_) (fun j j1 j2 => ?_)
          · rw [upd2_ne _ _ _ (by omega), upd2_self, upd2_self, upd2_ne _ _ _ (by omega)]
            have e : insA s (i + 1) j = if j < 0 then insA s i j else if j = 0 then i else insA s i (j - 1) := by rw [← P]; rfl
            rw [e, if_neg (by omega)]
            by_cases y : j = 0
            · subst y; rw [pk_us, pk_us, if_pos rfl]; exact ⟨rfl, rfl⟩
            · rw [pk_un y, pk_un y, if_neg y]; exact u2 j (by omega) (by omega)
          · rw [upd2_ne _ _ _ (by omega), upd2_self, upd2_self, upd2_ne _ _ _ (by omega), pk_un (by omega), pk_un (by omega)]
            exact u3 j (by omega) j2
        | succ a ia =>
          intro u ha uo hp u1 u2 u3
          have n0 : ¬ nI (a + 1) ≤ 0 := nI_ge (b := a + 1) (a := 0) (by omega) (by omega)
          have va : vp_in (nI (a + 1)) 16 := vp_in_nI (by omega) (by omega)
          have va1 : vp_in (nI (a + 1) - 1) 16 := by rw [nI_pred]; exact vp_in_nI (by omega) (by omega)
          have ca1 : (nI (a + 1) - 1).toNatClampNeg = a := by rw [nI_pred]; exact nI_clamp (by omega)
          have ca : (nI (a + 1)).toNatClampNeg = a + 1 := nI_clamp (by omega)
          have sa := hs (insA s i a)
          have ua := u1 a (by omega)
          refine bX6_sortByBeginning_25 (fun h => absurd h n0) (fun h => absurd h n0) (fun h => absurd h n0) (fun _ => va1) (fun _ _ => va) (fun _ _ => va) (fun _ h => ?_) (fun _ _ => va1) (fun _ _ => va) (fun _ _ => va1) (fun _ _ => va) (fun _ h => ?_)
          · rw [ca1, ua.1, nI_leI (by omega) (by omega)] at h
            rw [ca, nI_1]
            have P : insP s (insA s i) (s i) i = a + 1 := by rw [← hp]; exact if_neg (by omega)
            refine ih (i + 1) _ _ _ _ (by omega) (by omega) ((uo.up (by omega)).up (by omega)) (fun j hj => ?_) (fun j j1 j2 => ?_)
            · rw [upd2_ne _ _ _ (by omega), upd2_self, upd2_self, upd2_ne _ _ _ (by omega)]
              have e : insA s (i + 1) j = if j < a + 1 then insA s i j else if j = a + 1 then i else insA s i (j - 1) := by rw [← P]; rfl
              rw [e]
              by_cases y : j = a + 1
              · subst y; rw [pk_us, pk_us, if_neg (by omega), if_pos rfl]; exact ⟨rfl, rfl⟩
              · rw [pk_un y, pk_un y]
                by_cases z : j < a + 1
                · rw [if_pos z]; exact u1 j z
                · rw [if_neg z, if_neg y]; exact u2 j (by omega) (by omega)
            · rw [upd2_ne _ _ _ (by omega), upd2_self, upd2_self, upd2_ne _ _ _ (by omega), pk_un (by omega), pk_un (by omega)]
              exact u3 j (by omega) j2
          · rw [ca1, ua.1, nI_leI (by omega) (by omega)] at h
            rw [ca, ca1, pk_m1]
            have w16 : upd2 u 15 (a + 1) (u 15 a) 16 a = u 16 a := by rw [upd2_ne _ _ _ (by omega)]
            rw [w16]
            refine ia _ (by omega) ((uo.up (by omega)).up (by omega)) ?_ (fun j hj => ?_) (fun j j1 j2 => ?_) (fun j j1 j2 => ?_)
            · rw [← hp]
              exact (if_pos (by omega)).symm
            · rw [upd2_ne _ _ _ (by omega), upd2_self, upd2_self, upd2_ne _ _ _ (by omega), pk_un (by omega), pk_un (by omega)]
              exact u1 j (by omega)
            · rw [upd2_ne _ _ _ (by omega), upd2_self, upd2_self, upd2_ne _ _ _ (by omega)]
              by_cases y : j = a + 1
              · subst y; rw [pk_us, pk_us]; exact ua
              · rw [pk_un y, pk_un y]; exact u2 j (by omega) j2
            · rw [upd2_ne _ _ _ (by omega), upd2_self, upd2_self, upd2_ne _ _ _ (by omega), pk_un (by omega), pk_un (by omega)]
              exact u3 j j1 j2
      exact inner i g (Nat.le_refl _) os rfl hr (fun j j1 j2 => by omega) (fun j j1 j2 => hr2 j (by omega) j2)
  refine bX6_sortByBeginning_0 (outer (n - 1) 1 f _ _ _ (by omega) (by omega) OS.rf (fun j hj => ?_) (fun j _ j2 => hf j j2))
  have z : j = 0 := by omega
  subst z
  exact hf 0 (by omega)
theorem sp_laysRow {G : GC} {d : Nat} {sw : Bool} {f : FF} {Q : QQ} {n : Nat} (hn : n ≤ 10)
    (hq : ∀ g, (∀ c, c ≠ 106 → g c = f c) → (∀ j, j < n → g 106 j = nI (insA (fun k => byt f (2 * k)) n j)) → Q none sw g) : XP G mX11_laysRow (d + 1) 0 [.ref 82, .int (nI n), .null, .null] [] sw f Q := by
  generalize hs : (fun k => byt f (2 * k)) = s at hq
  have hsb : ∀ i, byt f (2 * i) = s i := fun i => by rw [← hs]
  have hs256 : ∀ i, s i < 256 := fun i => by rw [← hsb]; exact byt_lt f _
  have outer : ∀ (k i : Nat) (g : FF) (v3 : Value), i + k = n → (∀ c, c ≠ 106 → g c = f c) → (∀ j, j < i → g 106 j = nI (insA s i j)) → XP G mX11_laysRow (d + 1) 2 [.ref 82, .int (nI n), .int (nI i), v3] [] sw g Q := by
    intro k
    induction k with
    | zero =>
      intro i g v3 hi os hr
      have z : i = n := by omega
      subst z
      have hle : nI i ≤ nI i := nI_le (Nat.le_refl _) (by omega)
      exact bX11_laysRow_2 (fun _ => hq g os hr) (fun h => absurd hle h)
    | succ k ih =>
      intro i g v3 hi os hr
      have nle : ¬ nI n ≤ nI i := nI_ge (by omega) (by omega)
      refine bX11_laysRow_2 (fun h => absurd h nle) (fun _ => ?_)
      have si := hs256 i
      have inner : ∀ (a : Nat) (u : FF), a ≤ i → (∀ c, c ≠ 106 → u c = f c) → insP s (insA s i) (s i) a = insP s (insA s i) (s i) i → (∀ j, j < a → u 106 j = nI (insA s i j)) → (∀ j, a < j → j ≤ i → u 106 j = nI (insA s i (j - 1))) → XP G mX11_laysRow (d + 1) 9 [.ref 82, .int (nI n), .int (nI i), .int (nI a)] [] sw u Q := by
        intro a
        induction a with
        | zero =>
          intro u ha uo hp u1 u2
          have h00 : nI 0 ≤ 0 := by decide
          have v0 : vp_in (nI 0) 10 := vp_in_nI (by omega) (by omega)
          refine bX11_laysRow_9 (fun _ => v0) (fun _ => ?_) (fun h => absurd h00 h) (fun h => absurd h00 h) (fun h => absurd h00 h) (fun h => absurd h00 h) (fun h => absurd h00 h) (fun h => absurd h00 h) (fun h => absurd h00 h) (fun h => absurd h00 h)
          rw [nI_clamp (by omega), nI_1]
          have P : insP s (insA s i) (s i) i = 0 := by rw [← hp]; rfl
          refine ih (i + 1) _ _ (by omega) (fun c hc => by rw [upd2_ne _ _ _ hc]; exact uo c hc) (fun j hj => ?_)
          rw [upd2_self]
          have e : insA s (i + 1) j = if j < 0 then insA s i j else if j = 0 then i else insA s i (j - 1) := by rw [← P]; rfl
          rw [e, if_neg (by omega)]
          by_cases y : j = 0
          · subst y; rw [pk_us, if_pos rfl]
          · rw [pk_un y, if_neg y]; exact u2 j (by omega) (by omega)
        | succ a ia =>
          intro u ha uo hp u1 u2
          have n0 : ¬ nI (a + 1) ≤ 0 := nI_ge (b := a + 1) (a := 0) (by omega) (by omega)
          have va : vp_in (nI (a + 1)) 10 := vp_in_nI (by omega) (by omega)
          have va1 : vp_in (nI (a + 1) - 1) 10 := by rw [nI_pred]; exact vp_in_nI (by omega) (by omega)
          have ca1 : (nI (a + 1) - 1).toNatClampNeg = a := by rw [nI_pred]; exact nI_clamp (by omega)
          have ca : (nI (a + 1)).toNatClampNeg = a + 1 := nI_clamp (by omega)
          have ia' := insA_lt s i a (by omega)
          have sa := hs256 (insA s i a)
          have ua := u1 a (by omega)
          have e1 : 2 * nI (insA s i a) = nI (2 * insA s i a) := by rw [n_2, pk_mul]
          have e2 : 2 * nI i = nI (2 * i) := by rw [n_2, pk_mul]
          have o1 : oct u (nI (2 * insA s i a)) = nI (s (insA s i a)) := by rw [oct_byt (by omega), byt_cg (uo 90 (by omega)), hsb]
          have o2 : oct u (nI (2 * i)) = nI (s i) := by rw [oct_byt (by omega), byt_cg (uo 90 (by omega)), hsb]
          refine bX11_laysRow_9 (fun h => absurd h n0) (fun h => absurd h n0) (fun _ => va1) (fun _ => by rw [ca1, ua, e1]; exact vp_in_nI (by omega) (by omega)) (fun _ => by rw [e2]; exact vp_in_nI (by omega) (by omega)) (fun _ _ => va) (fun _ h => ?_) (fun _ _ => va1) (fun _ _ => va) (fun _ h => ?_)
          · rw [ca1, ua, e1, e2, o1, o2, nI_leI (by omega) (by omega)] at h
            rw [ca, nI_1]
            have P : insP s (insA s i) (s i) i = a + 1 := by rw [← hp]; exact if_neg (by omega)
            refine ih (i + 1) _ _ (by omega) (fun c hc => by rw [upd2_ne _ _ _ hc]; exact uo c hc) (fun j hj => ?_)
            rw [upd2_self]
            have e : insA s (i + 1) j = if j < a + 1 then insA s i j else if j = a + 1 then i else insA s i (j - 1) := by rw [← P]; rfl
            rw [e]
            by_cases y : j = a + 1
            · subst y; rw [pk_us, if_neg (by omega), if_pos rfl]
            · rw [pk_un y]
              by_cases z : j < a + 1
              · rw [if_pos z]; exact u1 j z
              · rw [if_neg z, if_neg y]; exact u2 j (by omega) (by omega)
          · rw [ca1, ua, e1, e2, o1, o2, nI_leI (by omega) (by omega)] at h
            rw [ca, ca1, nI_pred]
            refine ia _ (by omega) (fun c hc => by rw [upd2_ne _ _ _ hc]; exact uo c hc) ?_ (fun j hj => ?_) (fun j j1 j2 => ?_)
            · rw [← hp]
              exact (if_pos (by omega)).symm
            · rw [upd2_self, pk_un (by omega)]
              exact u1 j (by omega)
            · rw [upd2_self]
              by_cases y : j = a + 1
              · subst y; rw [pk_us]; exact ua
              · rw [pk_un y]; exact u2 j (by omega) j2
      exact inner i g (Nat.le_refl _) os rfl hr (fun j j1 j2 => by omega)
  exact bX11_laysRow_0 (outer n 0 f _ (by omega) (fun _ _ => rfl) (fun j hj => absurd hj (by omega)))
/-! ===== circuits that suffice ===== -/
def mxN (a b : Nat) : Nat := if a < b then b else a
def argm (r : Nat → Nat) : Nat → Nat
  | 0 => 0
  | c + 1 => if 1 ≤ c ∧ r c < r (argm r c) then c else argm r c
def enR (S D : Nat → Nat) (m : Nat) : Nat → Nat → Nat
  | 0 => fun _ => 0
  | i + 1 => fun c => if c = argm (enR S D m i) m then mxN (S i) (enR S D m i (argm (enR S D m i) m)) + D i else enR S D m i c
abbrev enOK (S D : Nat → Nat) (m later i : Nat) : Prop := mxN (S i) (enR S D m i (argm (enR S D m i) m)) ≤ S i + later
theorem argm_lt (r : Nat → Nat) : ∀ m, 1 ≤ m → argm r m < m := by
  intro m
  induction m with
  | zero => intro h; omega
  | succ m ih =>
    intro _
    show (if 1 ≤ m ∧ r m < r (argm r m) then m else argm r m) < m + 1
    split
    · omega
    · by_cases y : 1 ≤ m
      · have := ih y; omega
      · have : m = 0 := by omega
        subst this
        exact Nat.lt_succ_self 0
theorem enR_le {S D : Nat → Nat} {m : Nat} (hS : ∀ i, S i < 256) (hD : ∀ i, D i < 256) : ∀ i c, enR S D m i c ≤ 255 + 255 * i := by
  intro i
  induction i with
  | zero => intro c; exact Nat.zero_le _
  | succ i ih =>
    intro c
    show (if c = argm (enR S D m i) m then mxN (S i) (enR S D m i (argm (enR S D m i) m)) + D i else enR S D m i c) ≤ _
    have a := hS i
    have b := hD i
    have e := ih (argm (enR S D m i) m)
    have e2 := ih c
    unfold mxN
    split
    · split <;> omega
    · omega
theorem argm_at {r : Nat → Nat} {i : Nat} (h1 : ∀ c, c < i → 1 ≤ r c) (h2 : ∀ c, i ≤ c → r c = 0) : ∀ m, i < m → argm r m = i := by
  intro m
  induction m with
  | zero => intro h; omega
  | succ m ih =>
    intro hm
    show (if 1 ≤ m ∧ r m < r (argm r m) then m else argm r m) = i
    by_cases y : m = i
    · subst y
      by_cases z : 1 ≤ m
      · have a := argm_lt r m z
        have b := h1 _ a
        rw [if_pos ⟨z, by rw [h2 m (Nat.le_refl _)]; omega⟩]
      · rw [if_neg (fun w => z w.1)]
        have : m = 0 := by omega
        subst this
        rfl
    · have := ih (by omega)
      rw [this, h2 i (Nat.le_refl _), if_neg (by omega)]
theorem en_full {S D : Nat → Nat} {n later : Nat} (hD : ∀ i, i < n → D i ≠ 0) : ∀ i, i < n → enOK S D n later i := by
  have inv : ∀ i, i ≤ n → (∀ c, c < i → 1 ≤ enR S D n i c) ∧ ∀ c, i ≤ c → enR S D n i c = 0 := by
    intro i
    induction i with
    | zero => intro _; exact ⟨fun c h => absurd h (by omega), fun _ _ => rfl⟩
    | succ i ih =>
      intro hi
      obtain ⟨a, b⟩ := ih (by omega)
      have e := argm_at a b n (by omega)
      have d0 := hD i (by omega)
      refine ⟨fun c hc => ?_, fun c hc => ?_⟩
      · show 1 ≤ (if c = argm (enR S D n i) n then mxN (S i) (enR S D n i (argm (enR S D n i) n)) + D i else enR S D n i c)
        rw [e]
        by_cases y : c = i
        · rw [if_pos y]; omega
        · rw [if_neg y]; exact a c (by omega)
      · show (if c = argm (enR S D n i) n then mxN (S i) (enR S D n i (argm (enR S D n i) n)) + D i else enR S D n i c) = 0
        rw [e, if_neg (by omega)]
        exact b c (by omega)
  intro i hi
  obtain ⟨a, b⟩ := inv i (by omega)
  show mxN (S i) (enR S D n i (argm (enR S D n i) n)) ≤ S i + later
  rw [argm_at a b n hi, b i (Nat.le_refl _)]
  unfold mxN
  rw [if_neg (by omega)]
  omega
theorem mxN_nI {a b : Nat} (ha : a < 2 ^ 31) (hb : b < 2 ^ 31) : (if nI a < nI b then nI b else nI a) = nI (mxN a b) := lg_if ha hb
theorem mxN_le {a b B : Nat} (ha : a ≤ B) (hb : b ≤ B) : mxN a b ≤ B := by unfold mxN; split <;> omega
theorem mxN_ge (a b : Nat) : a ≤ mxN a b := by unfold mxN; split <;> omega
theorem sp_suffices {G : GC} {d : Nat} {sw : Bool} {f : FF} {Q : QQ} {S D : Nat → Nat} {m n later : Nat} (hm1 : 1 ≤ m) (hm : m ≤ 16) (hn : n ≤ 16) (hl : later ≤ 20) (hS : ∀ i, S i < 256) (hD : ∀ i, D i < 256) (hf : ∀ j, j < n → f 15 j = nI (S j) ∧ f 16 j = nI (D j))
    (hy : (∀ i, i < n → enOK S D m later i) → ∀ g, (∀ c, c ≠ 17 → g c = f c) → Q (some (.int 1)) sw g) (hz : ¬ (∀ i, i < n → enOK S D m later i) → ∀ g, (∀ c, c ≠ 17 → g c = f c) → Q (some (.int 0)) sw g) : XP G mX6_suffices d 0 [.ref 14, .int (nI m), .int (nI n), .int (nI later), .null, .null, .null] [] sw f Q := by
  have main : ∀ (k i : Nat) (g : FF) (v5 v6 : Value), i + k = n → (∀ c, c ≠ 17 → g c = f c) → (∀ c, c < m → g 17 c = nI (enR S D m i c)) → (∀ j, j < i → enOK S D m later j) → XP G mX6_suffices d 26 [.ref 14, .int (nI m), .int (nI n), .int (nI later), .int (nI i), v5, v6] [] sw g Q := by
    intro k
    induction k with
    | zero =>
      intro i g v5 v6 hi go gr gk
      have z : i = n := by omega
      subst z
      have hle : nI i ≤ nI i := nI_le (Nat.le_refl _) (by omega)
      exact bX6_suffices_26 (fun _ => hy gk g go) (fun h => absurd hle h)
    | succ k ih =>
      intro i g v5 v6 hi go gr gk
      have nle : ¬ nI n ≤ nI i := nI_ge (by omega) (by omega)
      refine bX6_suffices_26 (fun h => absurd h nle) (fun _ => ?_)
      have B := enR_le (m := m) hS hD i
      have inner : ∀ (l c : Nat), 1 ≤ c → c + l = m → XP G mX6_suffices d 38 [.ref 14, .int (nI m), .int (nI n), .int (nI later), .int (nI i), .int (nI (argm (enR S D m i) c)), .int (nI c)] [] sw g Q := by
        intro l
        induction l with
        | zero =>
          intro c hc1 hc
          have z : c = m := by omega
          subst z
          have hle : nI c ≤ nI c := nI_le (Nat.le_refl _) (by omega)
          have al := argm_lt (enR S D c i) c hc1
          have vi : vp_in (nI i) 16 := vp_in_nI (by omega) (by omega)
          have va : vp_in (nI (argm (enR S D c i) c)) 16 := vp_in_nI (by omega) (by omega)
          have ci : (nI i).toNatClampNeg = i := nI_clamp (by omega)
          have ca : (nI (argm (enR S D c i) c)).toNatClampNeg = argm (enR S D c i) c := nI_clamp (by omega)
          have f15 : g 15 i = nI (S i) := by rw [go 15 (by omega)]; exact (hf i (by omega)).1
          have f16 : g 16 i = nI (D i) := by rw [go 16 (by omega)]; exact (hf i (by omega)).2
          have b1 := B (argm (enR S D c i) c)
          have b2 := hS i
          have b3 := hD i
          have mx := mxN_le (a := S i) (b := enR S D c i (argm (enR S D c i) c)) (B := 255 + 255 * i) (by omega) b1
          have E : (if g 15 i < g 17 (argm (enR S D c i) c) then g 17 (argm (enR S D c i) c) else g 15 i) = nI (mxN (S i) (enR S D c i (argm (enR S D c i) c))) := by
            rw [f15, gr _ al, mxN_nI (by omega) (by omega)]
          refine bX6_suffices_38 (fun _ => vi) (fun _ => va) (fun _ => vi) (fun _ _ => vi) (fun _ _ => va) (fun _ h => ?_) (fun _ h => ?_) (fun h => absurd hle h) (fun h => absurd hle h) (fun h => absurd hle h) (fun h => absurd hle h)
          · rw [ci, ca, E, f15, nI_add, nI_leI (by omega) (by omega)] at h
            rw [ci, ca, E, f16, nI_add, nI_1]
            refine ih (i + 1) _ _ _ (by omega) (fun c' hc' => by rw [upd2_ne _ _ _ hc']; exact go c' hc') (fun c' hc' => ?_) (fun j hj => ?_)
            · rw [upd2_self]
              show _ = nI (if c' = argm (enR S D c i) c then mxN (S i) (enR S D c i (argm (enR S D c i) c)) + D i else enR S D c i c')
              by_cases y : c' = argm (enR S D c i) c
              · rw [if_pos y, y, pk_us]
              · rw [if_neg y, pk_un y]; exact gr c' hc'
            · by_cases y : j = i
              · subst y; exact h
              · exact gk j (by omega)
          · rw [ci, ca, E, f15, nI_add, nI_leI (by omega) (by omega)] at h
            exact hz (fun all => h (all i (by omega))) g go
        | succ l il =>
          intro c hc1 hc
          have nle : ¬ nI m ≤ nI c := nI_ge (by omega) (by omega)
          have al := argm_lt (enR S D m i) c hc1
          have cc : (nI c).toNatClampNeg = c := nI_clamp (by omega)
          have ca : (nI (argm (enR S D m i) c)).toNatClampNeg = argm (enR S D m i) c := nI_clamp (by omega)
          have b1 := B c
          have b2 := B (argm (enR S D m i) c)
          have I := il (c + 1) (by omega) (by omega)
          refine bX6_suffices_38 (fun h => absurd h nle) (fun h => absurd h nle) (fun h => absurd h nle) (fun h => absurd h nle) (fun h => absurd h nle) (fun h => absurd h nle) (fun h => absurd h nle) (fun _ => vp_in_nI (by omega) (by omega)) (fun _ => vp_in_nI (by omega) (by omega)) (fun _ h => ?_) (fun _ h => ?_)
          · rw [cc, ca, gr _ (by omega), gr _ (by omega), nI_leI (by omega) (by omega)] at h
            rw [show argm (enR S D m i) (c + 1) = argm (enR S D m i) c from if_neg (by omega), ← nI_1] at I
            exact I
          · rw [cc, ca, gr _ (by omega), gr _ (by omega), nI_leI (by omega) (by omega)] at h
            rw [show argm (enR S D m i) (c + 1) = c from if_pos (by omega), ← nI_1] at I
            exact I
      have := inner (m - 1) 1 (by omega) (by omega)
      rw [show argm (enR S D m i) 1 = 0 from if_neg (fun z => absurd z.1 (by decide))] at this
      exact this
  have zero : ∀ (k i : Nat) (g : FF), i + k = m → (∀ c, c ≠ 17 → g c = f c) → (∀ c, c < i → g 17 c = 0) → XP G mX6_suffices d 3 [.ref 14, .int (nI m), .int (nI n), .int (nI later), .int (nI i), .null, .null] [] sw g Q := by
    intro k
    induction k with
    | zero =>
      intro i g hi go gr
      have z : i = m := by omega
      subst z
      have hle : nI i ≤ nI i := nI_le (Nat.le_refl _) (by omega)
      exact bX6_suffices_3 (fun _ => main n 0 g _ _ (by omega) go (fun c hc => gr c hc) (fun j hj => absurd hj (by omega))) (fun h => absurd hle h) (fun h => absurd hle h)
    | succ k ih =>
      intro i g hi go gr
      refine bX6_suffices_3 (fun h => absurd h (nI_ge (by omega) (by omega))) (fun _ => vp_in_nI (by omega) (by omega)) (fun _ => ?_)
      rw [nI_clamp (by omega), nI_1]
      refine ih (i + 1) _ (by omega) (fun c hc => by rw [upd2_ne _ _ _ hc]; exact go c hc) (fun c hc => ?_)
      rw [upd2_self]
      by_cases y : c = i
      · subst y; rw [pk_us]
      · rw [pk_un y]; exact gr c (by omega)
  exact bX6_suffices_0 (zero m 0 f (by omega) (fun _ _ => rfl) (fun c hc => absurd hc (by omega)))
theorem sp_areEnough {G : GC} {d : Nat} {sw : Bool} {f : FF} {Q : QQ} {R S D : Nat → Nat} {m n later : Nat} (hm1 : 1 ≤ m) (hm : m ≤ 10) (hn : n ≤ 10) (hl : later ≤ 20) (hS : ∀ i, S i < 256) (hD : ∀ i, D i < 256) (hf : ∀ j, j < n → f 106 j = nI (R j) ∧ R j < 10 ∧ byt f (2 * R j) = S j ∧ byt f (2 * R j + 1) = D j)
    (hy : (∀ i, i < n → enOK S D m later i) → ∀ g, (∀ c, c ≠ 107 → g c = f c) → Q (some (.int 1)) sw g) (hz : ¬ (∀ i, i < n → enOK S D m later i) → ∀ g, (∀ c, c ≠ 107 → g c = f c) → Q (some (.int 0)) sw g) : XP G mX11_areEnough (d + 1) 0 [.ref 82, .int (nI n), .int (nI m), .int (nI later), .null, .null, .null, .null] [] sw f Q := by
  have main : ∀ (k i : Nat) (g : FF) (v5 v6 v7 : Value), i + k = n → (∀ c, c ≠ 107 → g c = f c) → (∀ c, c < m → g 107 c = nI (enR S D m i c)) → (∀ j, j < i → enOK S D m later j) → XP G mX11_areEnough (d + 1) 26 [.ref 82, .int (nI n), .int (nI m), .int (nI later), .int (nI i), v5, v6, v7] [] sw g Q := by
    intro k
    induction k with
    | zero =>
      intro i g v5 v6 v7 hi go gr gk
      have z : i = n := by omega
      subst z
      have hle : nI i ≤ nI i := nI_le (Nat.le_refl _) (by omega)
      exact bX11_areEnough_26 (fun _ => hy gk g go) (fun h => absurd hle h)
    | succ k ih =>
      intro i g v5 v6 v7 hi go gr gk
      have nle : ¬ nI n ≤ nI i := nI_ge (by omega) (by omega)
      refine bX11_areEnough_26 (fun h => absurd h nle) (fun _ => ?_)
      have B := enR_le (m := m) hS hD i
      have inner : ∀ (l c : Nat), 1 ≤ c → c + l = m → XP G mX11_areEnough (d + 1) 38 [.ref 82, .int (nI n), .int (nI m), .int (nI later), .int (nI i), .int (nI (argm (enR S D m i) c)), .int (nI c), v7] [] sw g Q := by
        intro l
        induction l with
        | zero =>
          intro c hc1 hc
          have z : c = m := by omega
          subst z
          have hle : nI c ≤ nI c := nI_le (Nat.le_refl _) (by omega)
          have al := argm_lt (enR S D c i) c hc1
          obtain ⟨q1, q2, q3, q4⟩ := hf i (by omega)
          have vi : vp_in (nI i) 10 := vp_in_nI (by omega) (by omega)
          have va : vp_in (nI (argm (enR S D c i) c)) 10 := vp_in_nI (by omega) (by omega)
          have ci : (nI i).toNatClampNeg = i := nI_clamp (by omega)
          have ca : (nI (argm (enR S D c i) c)).toNatClampNeg = argm (enR S D c i) c := nI_clamp (by omega)
          have r1 : 2 * g 106 i = nI (2 * R i) := by rw [go 106 (by omega), q1, n_2, pk_mul]
          have r2 : nI (2 * R i) + 1 = nI (2 * R i + 1) := nI_1 _
          have o1 : oct g (nI (2 * R i)) = nI (S i) := by rw [oct_byt (by omega), byt_cg (go 90 (by omega)), q3]
          have o2 : oct g (nI (2 * R i + 1)) = nI (D i) := by rw [oct_byt (by omega), byt_cg (go 90 (by omega)), q4]
          have b1 := B (argm (enR S D c i) c)
          have b2 := hS i
          have b3 := hD i
          have mx := mxN_le (a := S i) (b := enR S D c i (argm (enR S D c i) c)) (B := 255 + 255 * i) (by omega) b1
          have mg := mxN_ge (S i) (enR S D c i (argm (enR S D c i) c))
          have E : mxI (nI (S i)) (g 107 (argm (enR S D c i) c)) = nI (mxN (S i) (enR S D c i (argm (enR S D c i) c))) := by
            rw [gr _ al]; exact lg_mx (by omega) (by omega)
          refine bX11_areEnough_38 (fun _ => vi) (fun _ => by rw [ci, r1]; exact vp_in_nI (by omega) (by omega)) (fun _ => va) (fun _ _ => vi) (fun _ _ => by rw [ci, r1, r2]; exact vp_in_nI (by omega) (by omega)) (fun _ _ => va) (fun _ h => ?_) (fun _ h => ?_) (fun h => absurd hle h) (fun h => absurd hle h) (fun h => absurd hle h) (fun h => absurd hle h)
          · rw [ci, ca, r1, o1, E, pk_sub mg, nI_leI (by omega) (by omega)] at h
            rw [ci, ca, r1, r2, o1, o2, E, nI_add, nI_1]
            refine ih (i + 1) _ _ _ _ (by omega) (fun c' hc' => by rw [upd2_ne _ _ _ hc']; exact go c' hc') (fun c' hc' => ?_) (fun j hj => ?_)
            · rw [upd2_self]
              show _ = nI (if c' = argm (enR S D c i) c then mxN (S i) (enR S D c i (argm (enR S D c i) c)) + D i else enR S D c i c')
              by_cases y : c' = argm (enR S D c i) c
              · rw [if_pos y, y, pk_us]
              · rw [if_neg y, pk_un y]; exact gr c' hc'
            · by_cases y : j = i
              · subst y; show mxN _ _ ≤ _; omega
              · exact gk j (by omega)
          · rw [ci, ca, r1, o1, E, pk_sub mg, nI_leI (by omega) (by omega)] at h
            exact hz (fun all => h (by have t : mxN _ _ ≤ _ := all i (by omega); omega)) g go
        | succ l il =>
          intro c hc1 hc
          have nle : ¬ nI m ≤ nI c := nI_ge (by omega) (by omega)
          have al := argm_lt (enR S D m i) c hc1
          have cc : (nI c).toNatClampNeg = c := nI_clamp (by omega)
          have ca : (nI (argm (enR S D m i) c)).toNatClampNeg = argm (enR S D m i) c := nI_clamp (by omega)
          have b1 := B c
          have b2 := B (argm (enR S D m i) c)
          have I := il (c + 1) (by omega) (by omega)
          refine bX11_areEnough_38 (fun h => absurd h nle) (fun h => absurd h nle) (fun h => absurd h nle) (fun h => absurd h nle) (fun h => absurd h nle) (fun h => absurd h nle) (fun h => absurd h nle) (fun h => absurd h nle) (fun _ => vp_in_nI (by omega) (by omega)) (fun _ => vp_in_nI (by omega) (by omega)) (fun _ h => ?_) (fun _ h => ?_)
          · rw [cc, ca, gr _ (by omega), gr _ (by omega), nI_leI (by omega) (by omega)] at h
            rw [show argm (enR S D m i) (c + 1) = argm (enR S D m i) c from if_neg (by omega), ← nI_1] at I
            exact I
          · rw [cc, ca, gr _ (by omega), gr _ (by omega), nI_leI (by omega) (by omega)] at h
            rw [show argm (enR S D m i) (c + 1) = c from if_pos (by omega), ← nI_1] at I
            exact I
      have := inner (m - 1) 1 (by omega) (by omega)
      rw [show argm (enR S D m i) 1 = 0 from if_neg (fun z => absurd z.1 (by decide))] at this
      exact this
  have zero : ∀ (k i : Nat) (g : FF), i + k = m → (∀ c, c ≠ 107 → g c = f c) → (∀ c, c < i → g 107 c = 0) → XP G mX11_areEnough (d + 1) 3 [.ref 82, .int (nI n), .int (nI m), .int (nI later), .int (nI i), .null, .null, .null] [] sw g Q := by
    intro k
    induction k with
    | zero =>
      intro i g hi go gr
      have z : i = m := by omega
      subst z
      have hle : nI i ≤ nI i := nI_le (Nat.le_refl _) (by omega)
      exact bX11_areEnough_3 (fun _ => main n 0 g _ _ _ (by omega) go (fun c hc => gr c hc) (fun j hj => absurd hj (by omega))) (fun h => absurd hle h) (fun h => absurd hle h)
    | succ k ih =>
      intro i g hi go gr
      refine bX11_areEnough_3 (fun h => absurd h (nI_ge (by omega) (by omega))) (fun _ => vp_in_nI (by omega) (by omega)) (fun _ => ?_)
      rw [nI_clamp (by omega), nI_1]
      refine ih (i + 1) _ (by omega) (fun c hc => by rw [upd2_ne _ _ _ hc]; exact go c hc) (fun c hc => ?_)
      rw [upd2_self]
      by_cases y : c = i
      · subst y; rw [pk_us]
      · rw [pk_un y]; exact gr c (by omega)
  exact bX11_areEnough_0 (zero m 0 f (by omega) (fun _ _ => rfl) (fun c hc => absurd hc (by omega)))
