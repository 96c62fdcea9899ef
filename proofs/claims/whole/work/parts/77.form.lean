/-! ===== the steps that a text makes are well formed ===== -/
def WFk (S : St) (k : Nat) : Prop := S.dp k ≤ 40 ∧ enc (S.sg k) (S.wt k) (S.su k) ∧ wfStep S.sg S.wt S.dp S.bb S.k k
def EXt (J : Option Nat) (S S' : St) : Prop := S.k ≤ S'.k ∧ (∀ i, i < S.k → S'.sg i = S.sg i) ∧ (∀ i, i < S.k → some i ≠ J → S'.wt i = S.wt i ∧ S'.su i = S.su i) ∧ (∀ i, i ≤ S.k → S'.dp i = S.dp i ∧ S'.bb i = S.bb i)
theorem EXt.rf (J : Option Nat) (S : St) : EXt J S S := ⟨Nat.le_refl _, fun _ _ => rfl, fun _ _ _ => ⟨rfl, rfl⟩, fun _ _ => ⟨rfl, rfl⟩⟩
theorem EXt.tr {J J' : Option Nat} {S S1 S2 : St} (a : EXt J S S1) (b : EXt J' S1 S2) (h : ∀ i, J' = some i → S.k ≤ i) : EXt J S S2 :=
  ⟨Nat.le_trans a.1 b.1, fun i hi => (b.2.1 i (Nat.lt_of_lt_of_le hi a.1)).trans (a.2.1 i hi), fun i hi hj => by
    have ne : some i ≠ J' := fun e => by have := h i e.symm; omega
    have x := b.2.2.1 i (Nat.lt_of_lt_of_le hi a.1) ne
    have y := a.2.2.1 i hi hj
    exact ⟨x.1.trans y.1, x.2.trans y.2⟩, fun i hi => by
    have x := b.2.2.2 i (Nat.le_trans hi a.1)
    have y := a.2.2.2 i hi
    exact ⟨x.1.trans y.1, x.2.trans y.2⟩⟩
theorem WFk.ex {J : Option Nat} {S S' : St} {k : Nat} (h : WFk S k) (hk : k < S.k) (hJ : some k ≠ J) (e : EXt J S S') : WFk S' k := by
  obtain ⟨h1, h2, s1, s2, s3, s4, s5⟩ := h
  have a := e.2.1 k hk
  have b := e.2.2.1 k hk hJ
  have c := e.2.2.2 k (Nat.le_of_lt hk)
  have c1 := e.2.2.2 (k + 1) hk
  refine ⟨by rw [c.1]; exact h1, by rw [a, b.1, b.2]; exact h2, ?_, ?_, ?_, ?_, ?_⟩
  · rw [a, c.1, c1.1, c1.2]; exact s1
  · rw [a, c.1, c1.1, c1.2]; exact s2
  · rw [a, c.1, c1.1, c1.2]; exact s3
  · rw [a, c.1, c.2, c1.1, c1.2]; exact s4
  · rw [a, b.1, c.1, c.2, c1.1]
    intro hs
    obtain ⟨x1, x2, x3, t, t1, t2, t3, t4, t5⟩ := s5 hs
    have y := e.2.2.2 t t3
    exact ⟨x1, x2, x3, t, t1, t2, Nat.le_trans t3 e.1, by rw [y.1]; exact t4, by rw [y.2]; exact t5⟩
theorem EXt.put (S : St) (c w : Int32) : EXt none S (S.put c w) :=
  ⟨Nat.le_succ _, fun i hi => pk_un (by omega), fun i hi _ => ⟨pk_un (by omega), pk_un (by omega)⟩, fun i hi => ⟨if_neg (by omega), if_neg (by omega)⟩⟩
theorem EXt.adv (S : St) : EXt none S S.adv := EXt.rf none S
theorem EXt.goto (S : St) (p : Nat) : EXt none S (S.goto p) := EXt.rf none S
theorem EXt.land (S : St) (J : Option Nat) : EXt J S (S.land J) := by
  cases J with
  | none => exact EXt.rf none S
  | some j => exact ⟨Nat.le_refl _, fun _ _ => rfl, fun i hi hj => ⟨pk_un (fun e => hj (by rw [e])), pk_un (fun e => hj (by rw [e]))⟩, fun _ _ => ⟨rfl, rfl⟩⟩
theorem St.put_dp (S : St) (c w : Int32) : (S.put c w).dp (S.k + 1) = dnx c (S.dp S.k) := if_pos rfl
theorem St.put_bb (S : St) (c w : Int32) : (S.put c w).bb (S.k + 1) = bnx c := if_pos rfl
theorem St.put_dk (S : St) (c w : Int32) : (S.put c w).dp S.k = S.dp S.k := if_neg (by omega)
theorem St.put_bk (S : St) (c w : Int32) : (S.put c w).bb S.k = S.bb S.k := if_neg (by omega)
theorem St.put_sg (S : St) (c w : Int32) : (S.put c w).sg S.k = c := pk_us
theorem St.put_wt (S : St) (c w : Int32) : (S.put c w).wt S.k = w := pk_us
theorem St.put_su (S : St) (c w : Int32) : (S.put c w).su S.k = 1048576 * nI (opc c) + w := pk_us
/-- a step that is no jump -/
theorem WFk.put {S : St} {c w : Int32} (hd : S.dp S.k ≤ 40) (he : enc c w (1048576 * nI (opc c) + w)) (h1 : (c = 48 ∨ c = 97) ∨ ((c = 43 ∨ c = 45 ∨ c = 42 ∨ c = 47 ∨ c = 37) ∧ 2 ≤ S.dp S.k) ∨ ((c = 60 ∨ c = 62 ∨ c = 61) ∧ 2 ≤ S.dp S.k) ∨ (c = 33 ∧ 1 ≤ S.dp S.k ∧ S.bb S.k = true)) : WFk (S.put c w) S.k := by
  refine ⟨by rw [St.put_dk]; exact hd, by rw [St.put_sg, St.put_wt, St.put_su]; exact he, ?_⟩
  unfold wfStep
  rw [St.put_sg, St.put_wt, St.put_dk, St.put_bk, St.put_dp, St.put_bb]
  rcases h1 with z | ⟨z, q⟩ | ⟨z, q⟩ | ⟨z, q, q2⟩
  · rcases z with z | z <;> subst z <;> refine ⟨fun _ => ⟨rfl, rfl⟩, fun z => absurd z (by decide), fun z => absurd z (by decide), fun z => absurd z (by decide), fun z => absurd z (by decide)⟩
  · rcases z with z | z | z | z | z <;> subst z <;> refine ⟨fun z => absurd z (by decide), fun _ => ⟨q, ?_, rfl⟩, fun z => absurd z (by decide), fun z => absurd z (by decide), fun z => absurd z (by decide)⟩ <;> (show S.dp S.k - 1 + 1 = _; omega)
  · rcases z with z | z | z <;> subst z <;> refine ⟨fun z => absurd z (by decide), fun z => absurd z (by decide), fun _ => ⟨q, ?_, rfl⟩, fun z => absurd z (by decide), fun z => absurd z (by decide)⟩ <;> (show S.dp S.k - 1 + 1 = _; omega)
  · subst z
    exact ⟨fun z => absurd z (by decide), fun z => absurd z (by decide), fun z => absurd z (by decide), fun _ => ⟨q, q2, rfl, rfl⟩, fun z => absurd z (by decide)⟩
theorem enc_a {c : Int32} (h : isS c ∨ isT c ∨ isC c ∨ c = 33) : enc c 0 (1048576 * nI (opc c) + 0) := by
  rcases h with (z | z) | (z | z | z) | (z | z | z) | z <;> subst z
  · exact Or.inr (Or.inr (Or.inl ⟨rfl, by decide⟩))
  · exact Or.inr (Or.inr (Or.inr (Or.inl ⟨rfl, by decide⟩)))
  · exact Or.inr (Or.inr (Or.inr (Or.inr (Or.inl ⟨rfl, by decide⟩))))
  · exact Or.inr (Or.inr (Or.inr (Or.inr (Or.inr (Or.inl ⟨rfl, by decide⟩)))))
  · exact Or.inr (Or.inr (Or.inr (Or.inr (Or.inr (Or.inr (Or.inl ⟨rfl, by decide⟩))))))
  · exact Or.inr (Or.inr (Or.inr (Or.inr (Or.inr (Or.inr (Or.inr (Or.inl ⟨rfl, by decide⟩)))))))
  · exact Or.inr (Or.inr (Or.inr (Or.inr (Or.inr (Or.inr (Or.inr (Or.inr (Or.inl ⟨rfl, by decide⟩))))))))
  · exact Or.inr (Or.inr (Or.inr (Or.inr (Or.inr (Or.inr (Or.inr (Or.inr (Or.inr (Or.inl ⟨rfl, by decide⟩)))))))))
  · exact Or.inr (Or.inr (Or.inr (Or.inr (Or.inr (Or.inr (Or.inr (Or.inr (Or.inr (Or.inr (Or.inl ⟨rfl, by decide⟩))))))))))
theorem enc_n {v : Int32} (h : isN v 99999) : enc 48 v (1048576 * nI (opc 48) + v) := Or.inl ⟨rfl, h, by rw [show (1048576 : Int32) * nI (opc 48) = 0 from by decide, Int32.zero_add]⟩
theorem enc_l {c : Int32} (h : ¬ fx c = -1) : enc 97 (fx c) (1048576 * nI (opc 97) + fx c) := by
  refine Or.inr (Or.inl ⟨rfl, ?_, by rw [show (1048576 : Int32) * nI (opc 97) = 1048576 from by decide]⟩)
  unfold fx at h ⊢
  repeat' split
  all_goals first | (constructor <;> decide) | (exfalso; simp_all)
/-- a jump that waits to land -/
def PNj (S : St) (j : Nat) : Prop := j < S.k ∧ ((S.sg j = 38 ∧ S.su j = 11534336) ∨ (S.sg j = 124 ∧ S.su j = 12582912)) ∧ S.dp j = 1 ∧ S.bb j = true ∧ S.dp (j + 1) = 0
theorem PNj.ex {S S' : St} {j : Nat} (h : PNj S j) (e : EXt none S S') : PNj S' j := by
  obtain ⟨h1, h2, h3, h4, h5⟩ := h
  have a := e.2.1 j h1
  have b := e.2.2.1 j h1 (by simp)
  have c := e.2.2.2 j (Nat.le_of_lt h1)
  have c1 := e.2.2.2 (j + 1) h1
  exact ⟨Nat.lt_of_lt_of_le h1 e.1, by rw [a, b.2]; exact h2, by rw [c.1]; exact h3, by rw [c.2]; exact h4, by rw [c1.1]; exact h5⟩
theorem PNj.land {S : St} {j : Nat} (h : PNj S j) (hk : S.k ≤ 240) (hd : S.dp S.k = 1) (hb : S.bb S.k = true) : WFk (S.land (some j)) j := by
  obtain ⟨h1, h2, h3, h4, h5⟩ := h
  have ew : (S.land (some j)).wt j = nI S.k := pk_us
  have es : (S.land (some j)).su j = 1048576 * (S.su j / 1048576) + nI S.k := pk_us
  refine ⟨by show S.dp j ≤ 40; omega, ?_, ?_⟩
  · rw [ew, es]
    show enc (S.sg j) _ _
    rcases h2 with ⟨z, z2⟩ | ⟨z, z2⟩
    · rw [z, z2]
      exact Or.inr (Or.inr (Or.inr (Or.inr (Or.inr (Or.inr (Or.inr (Or.inr (Or.inr (Or.inr (Or.inr (Or.inl ⟨rfl, nI_isN hk (by omega), by rw [show (1048576 : Int32) * (11534336 / 1048576) = 11534336 from by decide]⟩)))))))))))
    · rw [z, z2]
      exact Or.inr (Or.inr (Or.inr (Or.inr (Or.inr (Or.inr (Or.inr (Or.inr (Or.inr (Or.inr (Or.inr (Or.inr ⟨rfl, nI_isN hk (by omega), by rw [show (1048576 : Int32) * (12582912 / 1048576) = 12582912 from by decide]⟩)))))))))))
  · unfold wfStep
    rw [ew]
    show ((S.sg j = 48 ∨ S.sg j = 97) → _) ∧ ((S.sg j = 43 ∨ S.sg j = 45 ∨ S.sg j = 42 ∨ S.sg j = 47 ∨ S.sg j = 37) → _) ∧ ((S.sg j = 60 ∨ S.sg j = 62 ∨ S.sg j = 61) → _) ∧ (S.sg j = 33 → _) ∧ ((S.sg j = 38 ∨ S.sg j = 124) → S.dp j = 1 ∧ S.bb j = true ∧ S.dp (j + 1) = 0 ∧ ∃ t : Nat, nI S.k = nI t ∧ j < t ∧ t ≤ S.k ∧ S.dp t = 1 ∧ S.bb t = true)
    have k5 : S.dp j = 1 ∧ S.bb j = true ∧ S.dp (j + 1) = 0 ∧ ∃ t : Nat, nI S.k = nI t ∧ j < t ∧ t ≤ S.k ∧ S.dp t = 1 ∧ S.bb t = true := ⟨h3, h4, h5, S.k, rfl, h1, Nat.le_refl _, hd, hb⟩
    rcases h2 with ⟨z, _⟩ | ⟨z, _⟩ <;> rw [z] <;> exact ⟨fun q => absurd q (by decide), fun q => absurd q (by decide), fun q => absurd q (by decide), fun q => absurd q (by decide), fun _ => k5⟩
theorem PNj.put {S : St} {c : Int32} (hc : c = 38 ∨ c = 124) (hd : S.dp S.k = 1) (hb : S.bb S.k = true) : PNj (S.put c 0) S.k := by
  refine ⟨Nat.lt_succ_self _, ?_, by rw [St.put_dk]; exact hd, by rw [St.put_bk]; exact hb, ?_⟩
  · rw [St.put_sg, St.put_su]
    rcases hc with z | z <;> subst z
    · exact Or.inl ⟨rfl, by decide⟩
    · exact Or.inr ⟨rfl, by decide⟩
  · rw [St.put_dp, hd]
    rcases hc with z | z <;> subst z <;> rfl
def GDs (S S' : St) : Prop := ∀ k, S.k ≤ k → k < S'.k → WFk S' k
theorem GDs.tr {J : Option Nat} {S S1 S2 : St} (a : GDs S S1) (b : GDs S1 S2) (e : EXt J S1 S2) (hJ : ∀ i, J = some i → i < S.k) : GDs S S2 := by
  intro k h1 h2
  rcases Nat.lt_or_ge k S1.k with z | z
  · exact (a k h1 z).ex z (fun q => by have := hJ k q.symm; omega) e
  · exact b k z h2
theorem GDs.rf (S : St) : GDs S S := fun k h1 h2 => by omega
theorem GDs.put {S S1 : St} {c w : Int32} (a : GDs S S1) (h : WFk (S1.put c w) S1.k) : GDs S (S1.put c w) := by
  intro k h1 h2
  rw [St.put_k] at h2
  rcases Nat.lt_or_ge k S1.k with z | z
  · exact (a k h1 z).ex z (by simp) (EXt.put S1 c w)
  · have : k = S1.k := by omega
    subst this
    exact h
def MWz (n K : Nat) (J : Option Nat) (o : Nat) (S S' : St) : Prop := match K with
  | 0 => S.dp S.k + 2 * (6 - o) + 1 ≤ 40 → EXt none S S' ∧ GDs S S' ∧ S'.dp S'.k = S.dp S.k + 1 ∧ S'.bb S'.k = false
  | 1 => S.dp S.k + 2 * (6 - o) + 1 ≤ 40 → 1 ≤ S.dp S.k → S.bb S.k = false → EXt none S S' ∧ GDs S S' ∧ S'.dp S'.k = S.dp S.k ∧ S'.bb S'.k = false
  | 2 => S.dp S.k + 2 * (6 - o) + 2 ≤ 40 → EXt none S S' ∧ GDs S S' ∧ S'.dp S'.k = S.dp S.k + 1 ∧ S'.bb S'.k = false
  | 3 => S.dp S.k + 2 * (6 - o) + 2 ≤ 40 → 1 ≤ S.dp S.k → S.bb S.k = false → EXt none S S' ∧ GDs S S' ∧ S'.dp S'.k = S.dp S.k ∧ S'.bb S'.k = false
  | 4 => S.dp S.k + 2 * (6 - o) + 3 ≤ 40 → EXt none S S' ∧ GDs S S' ∧ S'.dp S'.k = S.dp S.k + 1 ∧ S'.bb S'.k = false
  | 8 => S.dp S.k = 1 → S.bb S.k = true → (∀ j, J = some j → PNj S j) → EXt J S S' ∧ GDs S S' ∧ (∀ j, J = some j → WFk S' j) ∧ S'.dp S'.k = 1 ∧ S'.bb S'.k = true
  | 10 => S.dp S.k = 1 → S.bb S.k = true → (∀ j, J = some j → PNj S j) → EXt J S S' ∧ GDs S S' ∧ (∀ j, J = some j → WFk S' j) ∧ S'.dp S'.k = 1 ∧ S'.bb S'.k = true
  | _ => S.dp S.k = 0 → EXt none S S' ∧ GDs S S' ∧ S'.dp S'.k = 1 ∧ S'.bb S'.k = true
theorem PL.wf {t : Nat → Int32} {n : Nat} (hn : n ≤ 240) {K : Nat} {J : Option Nat} {o : Nat} {S : St} {r : Except Int32 St} (h : PL t n K J o S r) : ∀ S', r = .ok S' → S.p ≤ n → S.k ≤ S.p → MWz n K J o S S' := by
  refine PL.ind (M := fun K J o S r => ∀ S', r = .ok S' → S.p ≤ n → S.k ≤ S.p → MWz n K J o S S') h ?facB ?facX ?facE ?facO ?facL ?facN ?facM ?prodO ?prodE ?prodZ ?prodS ?prodF ?sumO ?sumE ?sumZ ?sumS ?sumF ?comE ?comX ?comF ?comO ?tB ?tO ?tE ?tN ?tC ?bX ?bO ?bE ?bC ?bF ?parO ?parE ?parZ ?parS ?parF ?conO ?conE ?conZ ?conS ?conF
  case facB =>
    intro o S S1 h1 h2 h3 h4 ih
    intro S' hr hp hk hd; cases hr
    exact ih S1 rfl (tx_in h1 (by decide)) (Nat.le_succ_of_le hk) (by show S.dp S.k + 2 * (6 - (o + 1)) + 3 ≤ 40; omega)
  case facL =>
    intro o S h1 h2
    intro S' hr hp hk hd; cases hr
    exact ⟨EXt.put S.adv _ _, (GDs.rf S.adv).put (WFk.put (by show S.dp S.k ≤ 40; omega) (enc_l h2) (Or.inl (Or.inr rfl))), St.put_dp S.adv _ _, St.put_bb S.adv _ _⟩
  case facN =>
    intro o S p' v h1 h2 h3
    intro S' hr hp hk hd; cases hr
    exact ⟨EXt.put (S.goto p') _ _, (GDs.rf (S.goto p')).put (WFk.put (by show S.dp S.k ≤ 40; omega) (enc_n (numR_in h3).2.2) (Or.inl (Or.inl rfl))), St.put_dp (S.goto p') _ _, St.put_bb (S.goto p') _ _⟩
  case prodO =>
    intro o S S1 r h1 h2 i1 i2
    intro S' hr hp hk hd
    have l := h1.len _ rfl hp
    obtain ⟨a1, a2, a3, a4⟩ := i1 S1 rfl hp hk (by omega)
    obtain ⟨c1, c2, c3, c4⟩ := i2 S' hr l.1 (by omega) (by omega) (by omega) a4
    exact ⟨a1.tr c1 (fun i hi => absurd hi (by simp)), a2.tr c2 c1 (fun i hi => absurd hi (by simp)), by rw [c3, a3], c4⟩
  case sumO =>
    intro o S S1 r h1 h2 i1 i2
    intro S' hr hp hk hd
    have l := h1.len _ rfl hp
    obtain ⟨a1, a2, a3, a4⟩ := i1 S1 rfl hp hk (by omega)
    obtain ⟨c1, c2, c3, c4⟩ := i2 S' hr l.1 (by omega) (by omega) (by omega) a4
    exact ⟨a1.tr c1 (fun i hi => absurd hi (by simp)), a2.tr c2 c1 (fun i hi => absurd hi (by simp)), by rw [c3, a3], c4⟩
  case prodZ =>
    intro o S h1
    intro S' hr hp hk hd h1d hb; cases hr
    exact ⟨EXt.rf _ _, GDs.rf _, rfl, hb⟩
  case sumZ =>
    intro o S h1
    intro S' hr hp hk hd h1d hb; cases hr
    exact ⟨EXt.rf _ _, GDs.rf _, rfl, hb⟩
  case prodS =>
    intro o S S1 r h1 h2 h3 i1 i2
    intro S' hr hp hk hd h1d hb
    have q := tx_ne1 (P := isT) h1 (by decide)
    have l := h2.len _ rfl q
    simp only [St.adv_p, St.adv_k] at l
    obtain ⟨a1, a2, a3, a4⟩ := i1 S1 rfl q (Nat.le_succ_of_le hk) hd
    have a3' : S1.dp S1.k = S.dp S.k + 1 := a3
    have a2' : GDs S S1 := a2
    have a1' : EXt none S S1 := a1
    have e1 : dnx (tx t n S.p) (S1.dp S1.k) = S.dp S.k := by rw [a3']; rcases h1 with z | z | z <;> rw [z] <;> rfl
    have e2 : bnx (tx t n S.p) = false := by rcases h1 with z | z | z <;> rw [z] <;> rfl
    have w : WFk (S1.put (tx t n S.p) 0) S1.k := WFk.put (by omega) (enc_a (Or.inr (Or.inl h1))) (Or.inr (Or.inl ⟨Or.inr (Or.inr h1), by omega⟩))
    have pd := (St.put_dp S1 (tx t n S.p) 0).trans e1
    have pb := (St.put_bb S1 (tx t n S.p) 0).trans e2
    obtain ⟨c1, c2, c3, c4⟩ := i2 S' hr l.1 (by simp only [St.put_p, St.put_k]; omega) (by rw [St.put_k, pd]; exact hd) (by rw [St.put_k, pd]; exact h1d) (by rw [St.put_k]; exact pb)
    exact ⟨(a1'.tr (EXt.put S1 _ _) (fun i hi => absurd hi (by simp))).tr c1 (fun i hi => absurd hi (by simp)), (a2'.put w).tr c2 c1 (fun i hi => absurd hi (by simp)), by rw [c3, St.put_k, pd], c4⟩
  case sumS =>
    intro o S S1 r h1 h2 h3 i1 i2
    intro S' hr hp hk hd h1d hb
    have q := tx_ne1 (P := isS) h1 (by decide)
    have l := h2.len _ rfl q
    simp only [St.adv_p, St.adv_k] at l
    obtain ⟨a1, a2, a3, a4⟩ := i1 S1 rfl q (Nat.le_succ_of_le hk) hd
    have a3' : S1.dp S1.k = S.dp S.k + 1 := a3
    have a2' : GDs S S1 := a2
    have a1' : EXt none S S1 := a1
    have e1 : dnx (tx t n S.p) (S1.dp S1.k) = S.dp S.k := by rw [a3']; rcases h1 with z | z <;> rw [z] <;> rfl
    have e2 : bnx (tx t n S.p) = false := by rcases h1 with z | z <;> rw [z] <;> rfl
    have w : WFk (S1.put (tx t n S.p) 0) S1.k := WFk.put (by omega) (enc_a (Or.inl h1)) (Or.inr (Or.inl ⟨by rcases h1 with z | z; exact Or.inl z; exact Or.inr (Or.inl z), by omega⟩))
    have pd := (St.put_dp S1 (tx t n S.p) 0).trans e1
    have pb := (St.put_bb S1 (tx t n S.p) 0).trans e2
    obtain ⟨c1, c2, c3, c4⟩ := i2 S' hr l.1 (by simp only [St.put_p, St.put_k]; omega) (by rw [St.put_k, pd]; exact hd) (by rw [St.put_k, pd]; exact h1d) (by rw [St.put_k]; exact pb)
    exact ⟨(a1'.tr (EXt.put S1 _ _) (fun i hi => absurd hi (by simp))).tr c1 (fun i hi => absurd hi (by simp)), (a2'.put w).tr c2 c1 (fun i hi => absurd hi (by simp)), by rw [c3, St.put_k, pd], c4⟩
  case comO =>
    intro o S S1 S2 h1 h2 h3 i1 i2
    intro S' hr hp hk hd; cases hr
    have l := h1.len _ rfl hp
    have q := tx_ne1 (P := isC) h2 (by decide)
    obtain ⟨a1, a2, a3, a4⟩ := i1 S1 rfl hp hk (by omega)
    obtain ⟨c1, c2, c3, c4⟩ := i2 S2 rfl q (by simp only [St.adv_p, St.adv_k]; omega) (by show S1.dp S1.k + 2 * (6 - o) + 3 ≤ 40; omega)
    have c3' : S2.dp S2.k = S1.dp S1.k + 1 := c3
    have c2' : GDs S1 S2 := c2
    have c1' : EXt none S1 S2 := c1
    have e1 : dnx (tx t n S1.p) (S2.dp S2.k) = 1 := by rw [c3', a3, hd]; rcases h2 with z | z | z <;> rw [z] <;> rfl
    have e2 : bnx (tx t n S1.p) = true := by rcases h2 with z | z | z <;> rw [z] <;> rfl
    have w : WFk (S2.put (tx t n S1.p) 0) S2.k := WFk.put (by omega) (enc_a (Or.inr (Or.inr (Or.inl h2)))) (Or.inr (Or.inr (Or.inl ⟨h2, by omega⟩)))
    exact ⟨(a1.tr c1' (fun i hi => absurd hi (by simp))).tr (EXt.put S2 _ _) (fun i hi => absurd hi (by simp)), (a2.tr c2' c1' (fun i hi => absurd hi (by simp))).put w, (St.put_dp S2 _ _).trans e1, (St.put_bb S2 _ _).trans e2⟩
  case tB =>
    intro o S r h1 h2 ih
    exact fun S' hr hp hk => ih S' hr hp hk
  case tC =>
    intro o S r h1 h2 h3 ih
    exact fun S' hr hp hk => ih S' hr hp hk
  case tN =>
    intro o S S1 h1 h2 h3 ih
    intro S' hr hp hk hd; cases hr
    obtain ⟨a1, a2, a3, a4⟩ := ih S1 rfl (tx_in h1 (by decide)) (Nat.le_succ_of_le hk) hd
    have a2' : GDs S S1 := a2
    have a1' : EXt none S S1 := a1
    exact ⟨a1'.tr (EXt.put S1 _ _) (fun i hi => absurd hi (by simp)), a2'.put (WFk.put (by omega) (enc_a (Or.inr (Or.inr (Or.inr rfl)))) (Or.inr (Or.inr (Or.inr ⟨rfl, by omega, a4⟩)))), (St.put_dp S1 _ _).trans a3, St.put_bb S1 _ _⟩
  case bC =>
    intro o S S1 h1 h2 h3 h4 ih
    intro S' hr hp hk hd; cases hr
    exact ih S1 rfl (tx_in h1 (by decide)) (Nat.le_succ_of_le hk) hd
  case parO =>
    intro o S S1 r h1 h2 i1 i2
    intro S' hr hp hk hd
    have l := h1.len _ rfl hp
    obtain ⟨a1, a2, a3, a4⟩ := i1 S1 rfl hp hk hd
    obtain ⟨c1, c2, c3, c4, c5⟩ := i2 S' hr l.1 (by omega) a3 a4 (fun i hi => absurd hi (by simp))
    exact ⟨a1.tr c1 (fun i hi => absurd hi (by simp)), a2.tr c2 c1 (fun i hi => absurd hi (by simp)), c4, c5⟩
  case conO =>
    intro o S S1 r h1 h2 i1 i2
    intro S' hr hp hk hd
    have l := h1.len _ rfl hp
    obtain ⟨a1, a2, a3, a4⟩ := i1 S1 rfl hp hk hd
    obtain ⟨c1, c2, c3, c4, c5⟩ := i2 S' hr l.1 (by omega) a3 a4 (fun i hi => absurd hi (by simp))
    exact ⟨a1.tr c1 (fun i hi => absurd hi (by simp)), a2.tr c2 c1 (fun i hi => absurd hi (by simp)), c4, c5⟩
  case parZ =>
    intro o S j h1
    intro S' hr hp hk hd hb hj; cases hr
    refine ⟨EXt.land S j, fun k x y => by rw [St.land_k] at y; omega, fun j0 e => ?_, ?_, ?_⟩
    · subst e
      exact (hj j0 rfl).land (by omega) hd hb
    · cases j <;> exact hd
    · cases j <;> exact hb
  case conZ =>
    intro o S j h1
    intro S' hr hp hk hd hb hj; cases hr
    refine ⟨EXt.land S j, fun k x y => by rw [St.land_k] at y; omega, fun j0 e => ?_, ?_, ?_⟩
    · subst e
      exact (hj j0 rfl).land (by omega) hd hb
    · cases j <;> exact hd
    · cases j <;> exact hb
  case parS =>
    intro o S S1 j r h1 h2 h3 i1 i2
    intro S' hr hp hk hd hb hj
    have q := tx_in h1 (by decide)
    have pp : ((S.adv.land j).put 38 0).p ≤ n := by simp only [St.put_p, St.land_p, St.adv_p]; omega
    have kp : ((S.adv.land j).put 38 0).k ≤ ((S.adv.land j).put 38 0).p := by simp only [St.put_p, St.land_p, St.adv_p, St.put_k, St.land_k, St.adv_k]; omega
    have l := h2.len _ rfl pp
    have lk : S1.k ≤ S1.p := by omega
    have kl : (S.adv.land j).k = S.k := by rw [St.land_k]; rfl
    have dl : (S.adv.land j).dp S.k = 1 := by cases j <;> exact hd
    have bl : (S.adv.land j).bb S.k = true := by cases j <;> exact hb
    have dl' : (S.adv.land j).dp (S.adv.land j).k = 1 := by rw [kl]; exact dl
    have bl' : (S.adv.land j).bb (S.adv.land j).k = true := by rw [kl]; exact bl
    have d0 : ((S.adv.land j).put 38 0).dp ((S.adv.land j).put 38 0).k = 0 := (St.put_dp _ _ _).trans (by rw [dl']; rfl)
    obtain ⟨a1, a2, a3, a4⟩ := i1 S1 rfl pp kp d0
    have pn : PNj S1 S.k := by
      have := (PNj.put (c := 38) (Or.inl rfl) dl' bl').ex a1
      rw [kl] at this
      exact this
    obtain ⟨c1, c2, c3, c4, c5⟩ := i2 S' hr l.1 lk a3 a4 (fun x hx => by have := Option.some.inj hx; subst this; exact pn)
    have e0 : EXt j S (S.adv.land j) := EXt.land S.adv j
    have e1 : EXt none (S.adv.land j) S1 := (EXt.put _ _ _).tr a1 (fun i hi => absurd hi (by simp))
    have e2 : EXt j S S1 := e0.tr e1 (fun i hi => absurd hi (by simp))
    refine ⟨e2.tr c1 (fun i hi => by have := Option.some.inj hi; omega), fun k x y => ?_, fun j0 hj0 => ?_, c4, c5⟩
    · rcases Nat.lt_or_ge k S1.k with z | z
      · rcases Nat.eq_or_lt_of_le x with z2 | z2
        · subst z2; exact c3 S.k rfl
        · exact (a2 k (by simp only [St.put_k, St.land_k, St.adv_k]; omega) z).ex z (fun e => by have := Option.some.inj e; omega) c1
      · exact c2 k z y
    · subst hj0
      have hj1 := hj j0 rfl
      have w0 : WFk (S.adv.land (some j0)) j0 := PNj.land (S := S.adv) hj1 (by show S.k ≤ 240; omega) hd hb
      have hlt := hj1.1
      have hl1 := e2.1
      exact (w0.ex (by rw [kl]; exact hlt) (by simp) e1).ex (Nat.lt_of_lt_of_le hlt hl1) (fun e => by have := Option.some.inj e; omega) c1
  case conS =>
    intro o S S1 j r h1 h2 h3 i1 i2
    intro S' hr hp hk hd hb hj
    have q := tx_in h1 (by decide)
    have pp : ((S.adv.land j).put 124 0).p ≤ n := by simp only [St.put_p, St.land_p, St.adv_p]; omega
    have kp : ((S.adv.land j).put 124 0).k ≤ ((S.adv.land j).put 124 0).p := by simp only [St.put_p, St.land_p, St.adv_p, St.put_k, St.land_k, St.adv_k]; omega
    have l := h2.len _ rfl pp
    have lk : S1.k ≤ S1.p := by omega
    have kl : (S.adv.land j).k = S.k := by rw [St.land_k]; rfl
    have dl : (S.adv.land j).dp S.k = 1 := by cases j <;> exact hd
    have bl : (S.adv.land j).bb S.k = true := by cases j <;> exact hb
    have dl' : (S.adv.land j).dp (S.adv.land j).k = 1 := by rw [kl]; exact dl
    have bl' : (S.adv.land j).bb (S.adv.land j).k = true := by rw [kl]; exact bl
    have d0 : ((S.adv.land j).put 124 0).dp ((S.adv.land j).put 124 0).k = 0 := (St.put_dp _ _ _).trans (by rw [dl']; rfl)
    obtain ⟨a1, a2, a3, a4⟩ := i1 S1 rfl pp kp d0
    have pn : PNj S1 S.k := by
      have := (PNj.put (c := 124) (Or.inr rfl) dl' bl').ex a1
      rw [kl] at this
      exact this
    obtain ⟨c1, c2, c3, c4, c5⟩ := i2 S' hr l.1 lk a3 a4 (fun x hx => by have := Option.some.inj hx; subst this; exact pn)
    have e0 : EXt j S (S.adv.land j) := EXt.land S.adv j
    have e1 : EXt none (S.adv.land j) S1 := (EXt.put _ _ _).tr a1 (fun i hi => absurd hi (by simp))
    have e2 : EXt j S S1 := e0.tr e1 (fun i hi => absurd hi (by simp))
    refine ⟨e2.tr c1 (fun i hi => by have := Option.some.inj hi; omega), fun k x y => ?_, fun j0 hj0 => ?_, c4, c5⟩
    · rcases Nat.lt_or_ge k S1.k with z | z
      · rcases Nat.eq_or_lt_of_le x with z2 | z2
        · subst z2; exact c3 S.k rfl
        · exact (a2 k (by simp only [St.put_k, St.land_k, St.adv_k]; omega) z).ex z (fun e => by have := Option.some.inj e; omega) c1
      · exact c2 k z y
    · subst hj0
      have hj1 := hj j0 rfl
      have w0 : WFk (S.adv.land (some j0)) j0 := PNj.land (S := S.adv) hj1 (by show S.k ≤ 240; omega) hd hb
      have hlt := hj1.1
      have hl1 := e2.1
      exact (w0.ex (by rw [kl]; exact hlt) (by simp) e1).ex (Nat.lt_of_lt_of_le hlt hl1) (fun e => by have := Option.some.inj e; omega) c1
  case facX => intros; contradiction
  case facE => intros; contradiction
  case facO => intros; contradiction
  case facM => intros; contradiction
  case prodE => intros; contradiction
  case prodF => intros; contradiction
  case sumE => intros; contradiction
  case sumF => intros; contradiction
  case comE => intros; contradiction
  case comX => intros; contradiction
  case comF => intros; contradiction
  case tO => intros; contradiction
  case tE => intros; contradiction
  case bX => intros; contradiction
  case bO => intros; contradiction
  case bE => intros; contradiction
  case bF => intros; contradiction
  case parE => intros; contradiction
  case parF => intros; contradiction
  case conE => intros; contradiction
  case conF => intros; contradiction
