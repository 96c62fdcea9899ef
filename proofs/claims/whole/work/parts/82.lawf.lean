/-! ===== a law that was read keeps the form of a law in force ===== -/
theorem wfSeg.cg {sg wi sg' wi' : Nat → Int32} {a b : Nat} {q : Bool} (h : wfSeg sg wi a b q) (hs : ∀ k, k < b → sg' k = sg k ∧ wi' k = wi k) : wfSeg sg' wi' a b q := by
  obtain ⟨dep, bo, h1, h2, h3, h4⟩ := h
  refine ⟨dep, bo, h1, h2, h3, fun k k1 k2 => ⟨(h4 k k1 k2).1, ?_⟩⟩
  have w := (h4 k k1 k2).2
  unfold wfStep at w ⊢
  rw [(hs k k2).1, (hs k k2).2]
  exact w
def AGr (S S' : St) : Prop := S.k ≤ S'.k ∧ ∀ j, j < S.k → S'.sg j = S.sg j ∧ S'.wt j = S.wt j ∧ S'.su j = S.su j
theorem AGr.tr {S S1 S2 : St} (a : AGr S S1) (b : AGr S1 S2) : AGr S S2 := ⟨Nat.le_trans a.1 b.1, fun j hj => by
  have x := b.2 j (Nat.lt_of_lt_of_le hj a.1)
  have y := a.2 j hj
  exact ⟨x.1.trans y.1, x.2.1.trans y.2.1, x.2.2.trans y.2.2⟩⟩
theorem EXt.ag {S S' : St} (e : EXt none S S') : AGr S S' := ⟨e.1, fun j hj => ⟨e.2.1 j hj, e.2.2.1 j hj (by simp)⟩⟩
theorem GDs.seg {S S' : St} {q : Bool} (g : GDs S S') (e : EXt none S S') (h0 : S.dp S.k = 0) (h1 : S'.dp S'.k = 1) (h2 : S'.bb S'.k = q) : wfSeg S'.sg S'.wt S.k S'.k q :=
  ⟨S'.dp, S'.bb, ((e.2.2.2 S.k (Nat.le_refl _)).1).trans h0, h1, h2, fun k k1 k2 => ⟨(g k k1 k2).1, (g k k1 k2).2.2⟩⟩
def REi (S : St) (L : LLs) (i : Nat) : Prop := ∃ v c e : Nat, v ≤ c ∧ c ≤ e ∧ e ≤ S.k ∧ L.2.1 i = nI v ∧ L.2.2.1 i = nI c ∧ L.2.2.2 i = nI e ∧ (∀ k, v ≤ k → k < e → enc (S.sg k) (S.wt k) (S.su k)) ∧ (v < c → wfSeg S.sg S.wt v c false) ∧ wfSeg S.sg S.wt c e true ∧ ((L.1 i = 114 ∨ L.1 i = 119 ∨ L.1 i = 108) → v < c)
theorem REi.ag {S S' : St} {L L' : LLs} {i : Nat} (h : REi S L i) (a : AGr S S') (e : L'.1 i = L.1 i ∧ L'.2.1 i = L.2.1 i ∧ L'.2.2.1 i = L.2.2.1 i ∧ L'.2.2.2 i = L.2.2.2 i) : REi S' L' i := by
  obtain ⟨v, c, e', h1, h2, h3, h4, h5, h6, h7, h8, h9, h10⟩ := h
  refine ⟨v, c, e', h1, h2, Nat.le_trans h3 a.1, e.2.1.trans h4, e.2.2.1.trans h5, e.2.2.2.trans h6, fun k k1 k2 => ?_, fun z => ?_, ?_, by rw [e.1]; exact h10⟩
  · have x := a.2 k (by omega)
    rw [x.1, x.2.1, x.2.2]
    exact h7 k k1 k2
  · exact (h8 z).cg (fun k hk => by have x := a.2 k (by omega); exact ⟨x.1, x.2.1⟩)
  · exact h9.cg (fun k hk => by have x := a.2 k (by omega); exact ⟨x.1, x.2.1⟩)
theorem St.rst_dp (S : St) : S.rst.dp S.rst.k = 0 := if_pos rfl
theorem St.rst_ag (S : St) : AGr S S.rst := ⟨Nat.le_refl _, fun _ _ => ⟨rfl, rfl, rfl⟩⟩
theorem RUc.re {t : Nat → Int32} {n i : Nat} {S1 S' : St} {L L' : LLs} (h : RUc t n i S1 L (.ok (S', L'))) (hn : n ≤ 240) (hp : S1.p ≤ n) (hk : S1.k ≤ S1.p) : AGr S1 S' ∧ L' = lsE (lsC L i (nI S1.k)) i (nI S'.k) ∧ (∀ k, S1.k ≤ k → k < S'.k → enc (S'.sg k) (S'.wt k) (S'.su k)) ∧ wfSeg S'.sg S'.wt S1.k S'.k true := by
  obtain ⟨r2, h2, ⟨e, _, z⟩ | ⟨S2, z1, z2⟩⟩ := h
  · exact absurd z (by simp)
  · subst z1
    have e1 := Except.ok.inj z2
    have e2 : S' = S2 := congrArg Prod.fst e1
    subst e2
    have e3 : L' = lsE (lsC L i (nI S1.k)) i (nI S'.k) := congrArg Prod.snd e1
    obtain ⟨w1, w2, w3, w4⟩ := h2.wf hn _ rfl hp hk (St.rst_dp S1)
    exact ⟨S1.rst_ag.tr w1.ag, e3, fun k k1 k2 => (w2 k k1 k2).2.1, w2.seg w1 (St.rst_dp S1) w3 w4⟩
theorem RUL.re {t : Nat → Int32} {n i : Nat} {S S' : St} {L L' : LLs} (h : RUL t n i S L (.ok (S', L'))) (hn : n ≤ 240) (hp : S.p ≤ n) (hk : S.k ≤ S.p) : AGr S S' ∧ REi S' L' i ∧ ∀ j, j ≠ i → L'.1 j = L.1 j ∧ L'.2.1 j = L.2.1 j ∧ L'.2.2.1 j = L.2.2.1 j ∧ L'.2.2.2 j = L.2.2.2 j := by
  rcases h with ⟨_, z⟩ | ⟨_, _, z⟩ | ⟨h1, h2, r1, k1, ⟨e, _, z⟩ | ⟨S1, z1, z2⟩⟩ | ⟨h0, h1, h2, z⟩
  · exact absurd z (by simp)
  · exact absurd z (by simp)
  · exact absurd z (by simp)
  · subst z1
    have q := tx_ne1 (P := hasV) h1 (by decide)
    have l := k1.len _ rfl q
    have lk : S1.k + (S.p + 1) ≤ S1.p + S.k := l.2.2.1
    have lt : S.k < S1.k := (l.2.2.2 (by decide)).2
    obtain ⟨w1, w2, w3, w4⟩ := k1.wf hn _ rfl q (Nat.le_succ_of_le hk) (by rw [St.rst_dp]; omega)
    rw [St.rst_dp] at w3
    have a1 : AGr S S1 := (St.rst_ag S.adv).tr w1.ag
    have sv : wfSeg S1.sg S1.wt S.k S1.k false := w2.seg w1 (St.rst_dp S.adv) w3 w4
    obtain ⟨b1, b2, b3, b4⟩ := z2.re hn l.1 (by omega)
    subst b2
    refine ⟨a1.tr b1, ⟨S.k, S1.k, S'.k, a1.1, b1.1, Nat.le_refl _, pk_us, pk_us, pk_us, fun k x1 x2 => ?_, fun _ => sv.cg (fun k hk => by have x := b1.2 k hk; exact ⟨x.1, x.2.1⟩), b4, fun _ => lt⟩, fun j hj => ⟨pk_un hj, pk_un hj, pk_un hj, pk_un hj⟩⟩
    rcases Nat.lt_or_ge k S1.k with y | y
    · have x := b1.2 k y
      rw [x.1, x.2.1, x.2.2]
      exact (w2 k x1 y).2.1
    · exact b3 k y x2
  · have q := tx_ne1 (P := isLt) h1 (by decide)
    obtain ⟨b1, b2, b3, b4⟩ := z.re hn (S1 := S.adv) q (Nat.le_succ_of_le hk)
    subst b2
    refine ⟨b1, ⟨S.k, S.k, S'.k, Nat.le_refl _, b1.1, Nat.le_refl _, pk_us, pk_us, pk_us, b3, fun z => absurd z (Nat.lt_irrefl _), b4, fun z => ?_⟩, fun j hj => ⟨pk_un hj, pk_un hj, pk_un hj, pk_un hj⟩⟩
    have e : (lsE (lsC (lsV (lsA L i (tx t n S.p)) i (nI S.k)) i (nI S.adv.k)) i (nI S'.k)).1 i = tx t n S.p := pk_us
    rw [e] at z
    exact absurd z h0
theorem LWz.re {t : Nat → Int32} {n : Nat} (hn : n ≤ 240) {S' : St} {L' : LLs} {k : Nat} : ∀ (m i : Nat) (S : St) (L : LLs), LWz t n m i S L (.ok (S', L', k)) → S.p ≤ n → S.k ≤ S.p → (∀ j, j < i → REi S L j) → 1 ≤ k ∧ k ≤ 16 ∧ S'.k ≤ 240 ∧ ∀ j, j < k → REi S' L' j := by
  intro m
  induction m with
  | zero => intro i S L h; exact h.elim
  | succ m ih =>
    intro i S L h hp hk hj
    obtain ⟨ru, hu, hr⟩ := h
    rcases hr with ⟨e, _, z⟩ | ⟨S1, L1, z1, z2⟩
    · exact absurd z (by simp)
    · subst z1
      have o := hu.ok hp hk
      obtain ⟨a1, a2, a3⟩ := hu.re hn hp hk
      have all : ∀ j, j < i + 1 → REi S1 L1 j := fun j hj1 => by
        by_cases c : j = i
        · subst c; exact a2
        · exact (hj j (by omega)).ag a1 (a3 j c)
      rcases z2 with ⟨_, y⟩ | ⟨_, _, y⟩ | ⟨y1, _, y2⟩
      · have e1 := Except.ok.inj y
        have e2 : S' = S1 := congrArg Prod.fst e1
        have e3 : L' = L1 := congrArg (fun x => x.2.1) e1
        have e4 : k = i + 1 := congrArg (fun x => x.2.2) e1
        subst e2 e3 e4
        exact ⟨by omega, by omega, by omega, all⟩
      · exact absurd y (by simp)
      · exact ih (i + 1) S1.adv L1 y2 y1 (Nat.le_succ_of_le o.2.2.2) all
