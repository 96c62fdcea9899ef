/-! ===== what stood in the rows before does not matter ===== -/
def AgL (i : Nat) (L L2 : LLs) : Prop := ∀ j, j < i → L2.1 j = L.1 j ∧ L2.2.1 j = L.2.1 j ∧ L2.2.2.1 j = L.2.2.1 j ∧ L2.2.2.2 j = L.2.2.2 j
theorem AgL.set {i : Nat} {L L2 : LLs} (a : AgL i L L2) (x y z w : Int32) : AgL (i + 1) (lsE (lsC (lsV (lsA L i x) i y) i z) i w) (lsE (lsC (lsV (lsA L2 i x) i y) i z) i w) := by
  intro j hj
  by_cases c : j = i
  · subst c
    exact ⟨pk_us.trans pk_us.symm, pk_us.trans pk_us.symm, pk_us.trans pk_us.symm, pk_us.trans pk_us.symm⟩
  · have b := a j (by omega)
    exact ⟨(pk_un c).trans (b.1.trans (pk_un c).symm), (pk_un c).trans (b.2.1.trans (pk_un c).symm), (pk_un c).trans (b.2.2.1.trans (pk_un c).symm), (pk_un c).trans (b.2.2.2.trans (pk_un c).symm)⟩
theorem RUc.sw {t : Nat → Int32} {n i : Nat} {S1 : St} {L L2 : LLs} {x y : Int32} {r : Except Int32 (St × LLs)} (h : RUc t n i S1 (lsV (lsA L i x) i y) r) (a : AgL i L L2) : ∃ r2, RUc t n i S1 (lsV (lsA L2 i x) i y) r2 ∧ (∀ e, r = .error e → r2 = .error e) ∧ ∀ S' L', r = .ok (S', L') → ∃ L2', r2 = .ok (S', L2') ∧ AgL (i + 1) L' L2' := by
  obtain ⟨r2, h2, ⟨e, z1, z2⟩ | ⟨S2, z1, z2⟩⟩ := h
  · subst z2
    exact ⟨_, ⟨_, h2, Or.inl ⟨e, z1, rfl⟩⟩, fun _ h => by rw [Except.error.inj h], fun _ _ h => absurd h (by simp)⟩
  · subst z2
    refine ⟨_, ⟨_, h2, Or.inr ⟨S2, z1, rfl⟩⟩, fun _ h => absurd h (by simp), fun S' L' h => ?_⟩
    have e1 := Except.ok.inj h
    have e2 : S2 = S' := congrArg Prod.fst e1
    subst e2
    have e3 : lsE (lsC (lsV (lsA L i x) i y) i (nI S1.k)) i (nI S2.k) = L' := congrArg Prod.snd e1
    subst e3
    exact ⟨_, rfl, a.set x y _ _⟩
theorem RUL.sw {t : Nat → Int32} {n i : Nat} {S : St} {L L2 : LLs} {r : Except Int32 (St × LLs)} (h : RUL t n i S L r) (a : AgL i L L2) : ∃ r2, RUL t n i S L2 r2 ∧ (∀ e, r = .error e → r2 = .error e) ∧ ∀ S' L', r = .ok (S', L') → ∃ L2', r2 = .ok (S', L2') ∧ AgL (i + 1) L' L2' := by
  rcases h with ⟨h1, z⟩ | ⟨h1, h2, z⟩ | ⟨h1, h2, r1, k1, ⟨e, z1, z⟩ | ⟨S1, z1, z2⟩⟩ | ⟨h0, h1, h2, z⟩
  · subst z
    exact ⟨_, Or.inl ⟨h1, rfl⟩, fun _ h => h, fun _ _ h => absurd h (by simp)⟩
  · subst z
    exact ⟨_, Or.inr (Or.inl ⟨h1, h2, rfl⟩), fun _ h => h, fun _ _ h => absurd h (by simp)⟩
  · subst z
    exact ⟨_, Or.inr (Or.inr (Or.inl ⟨h1, h2, r1, k1, Or.inl ⟨e, z1, rfl⟩⟩)), fun _ h => by rw [Except.error.inj h], fun _ _ h => absurd h (by simp)⟩
  · obtain ⟨r2, b1, b2, b3⟩ := z2.sw a
    exact ⟨r2, Or.inr (Or.inr (Or.inl ⟨h1, h2, r1, k1, Or.inr ⟨S1, z1, b1⟩⟩)), b2, b3⟩
  · obtain ⟨r2, b1, b2, b3⟩ := z.sw a
    exact ⟨r2, Or.inr (Or.inr (Or.inr ⟨h0, h1, h2, b1⟩)), b2, b3⟩
theorem LWz.sw {t : Nat → Int32} {n : Nat} {r : Except Int32 (St × LLs × Nat)} : ∀ (m i : Nat) (S : St) (L L2 : LLs), LWz t n m i S L r → AgL i L L2 → ∃ r2, LWz t n m i S L2 r2 ∧ (∀ e, r = .error e → r2 = .error e) ∧ ∀ S' L' k, r = .ok (S', L', k) → ∃ L2', r2 = .ok (S', L2', k) ∧ AgL k L' L2' := by
  intro m
  induction m with
  | zero => intro i S L L2 h; exact h.elim
  | succ m ih =>
    intro i S L L2 h a
    obtain ⟨ru, hu, hr⟩ := h
    obtain ⟨ru2, b1, b2, b3⟩ := hu.sw a
    rcases hr with ⟨e, z, z2⟩ | ⟨S1, L1, z1, z2⟩
    · subst z z2
      exact ⟨_, ⟨ru2, b1, Or.inl ⟨e, b2 e rfl, rfl⟩⟩, fun _ h => by rw [Except.error.inj h], fun _ _ _ h => absurd h (by simp)⟩
    · subst z1
      obtain ⟨L12, c1, c2⟩ := b3 S1 L1 rfl
      rcases z2 with ⟨y1, y⟩ | ⟨y1, y2, y⟩ | ⟨y1, y2, y3⟩
      · subst y
        refine ⟨_, ⟨ru2, b1, Or.inr ⟨S1, L12, c1, Or.inl ⟨y1, rfl⟩⟩⟩, fun _ h => absurd h (by simp), fun S' L' k h => ?_⟩
        have e1 := Except.ok.inj h
        have e2 : S1 = S' := congrArg Prod.fst e1
        have e3 : L1 = L' := congrArg (fun x => x.2.1) e1
        have e4 : i + 1 = k := congrArg (fun x => x.2.2) e1
        subst e2 e3 e4
        exact ⟨L12, rfl, c2⟩
      · subst y
        exact ⟨_, ⟨ru2, b1, Or.inr ⟨S1, L12, c1, Or.inr (Or.inl ⟨y1, y2, rfl⟩)⟩⟩, fun _ h => h, fun _ _ _ h => absurd h (by simp)⟩
      · obtain ⟨r2, d1, d2, d3⟩ := ih (i + 1) S1.adv L1 L12 y3 c2
        exact ⟨r2, ⟨ru2, b1, Or.inr ⟨S1, L12, c1, Or.inr (Or.inr ⟨y1, y2, d1⟩)⟩⟩, d2, d3⟩
