/-! ===== the class reads a law ===== -/
def COL (sw : Bool) (f g : FF) : Prop := (∀ c, c ≠ 1 → c ≠ lwR sw → c ≠ lwR sw + 5 → c ≠ lwR sw + 6 → g c = f c) ∧ (∀ j, (j < 3 ∨ 5 < j) → g 1 j = f 1 j) ∧ ∀ j, j ≠ 1 → g (lwR sw) j = f (lwR sw) j
theorem lwR_or (sw : Bool) : lwR sw = 25 ∨ lwR sw = 36 := isLw_R sw
theorem COL.rf (sw : Bool) (f : FF) : COL sw f f := ⟨fun _ _ _ _ _ => rfl, fun _ _ => rfl, fun _ _ => rfl⟩
theorem COL.tr {sw : Bool} {f g h : FF} (a : COL sw f g) (b : COL sw g h) : COL sw f h := ⟨fun c h1 h2 h3 h4 => (b.1 c h1 h2 h3 h4).trans (a.1 c h1 h2 h3 h4), fun j hj => (b.2.1 j hj).trans (a.2.1 j hj), fun j hj => (b.2.2 j hj).trans (a.2.2 j hj)⟩
theorem COT.col {f g : FF} (sw : Bool) (h : COT f g) : COL sw f g := ⟨fun c h1 _ _ _ => h.1 c h1, h.2, fun j _ => by rw [h.1 (lwR sw) (by have := lwR_or sw; omega)]⟩
def CLS (f0 f : FF) (sw : Bool) (S : St) : Prop := COL sw f0 f ∧ f 1 3 = nI S.p ∧ f (lwR sw) 1 = nI S.k ∧ f (lwR sw + 5) = S.sg ∧ f (lwR sw + 6) = S.wt
theorem CLS.txx {f0 f : FF} {sw : Bool} {S : St} {n : Nat} (h : CLS f0 f sw S) (ht : TX f0 n) : TX f n := by
  have q := lwR_or sw
  exact ht.cg (h.1.2.1 2 (by omega)) (h.1.1 2 (by omega) (by omega) (by omega) (by omega)) (h.1.1 90 (by omega) (by omega) (by omega) (by omega))
theorem CLS.n90 {f0 f : FF} {sw : Bool} {S : St} (h : CLS f0 f sw S) : f 90 = f0 90 := by
  have q := lwR_or sw
  exact h.1.1 90 (by omega) (by omega) (by omega) (by omega)
theorem CLS.sign {f0 f : FF} {sw : Bool} {S : St} {n : Nat} (h : CLS f0 f sw S) (ht : TX f0 n) (hp : S.p ≤ n) : tAt f (f 1 3) = tx (f0 90) n S.p := by
  have := ht.2.1
  rw [h.2.1, (h.txx ht).at (by omega), h.n90]
theorem CLS.ot {f0 f g : FF} {sw : Bool} {S : St} {p : Nat} (h : CLS f0 f sw S) (o : COT f g) (e : g 1 3 = nI p) : CLS f0 g sw (S.goto p) := by
  have q := lwR_or sw
  exact ⟨h.1.tr (o.col sw), e, by rw [o.1 _ (by omega)]; exact h.2.2.1, by rw [o.1 _ (by omega)]; exact h.2.2.2.1, by rw [o.1 _ (by omega)]; exact h.2.2.2.2⟩
theorem CLS.adv {f0 f : FF} {sw : Bool} {S : St} (h : CLS f0 f sw S) : CLS f0 (upd2 f 1 3 (f 1 3 + 1)) sw S.adv :=
  h.ot ((COT.rf f).up (by omega)) (by rw [upd2_self, pk_us, h.2.1, nI_1])
theorem sp_put {G : GC} {d : Nat} {sw : Bool} {f0 f : FF} {Q : QQ} {S : St} {c w : Int32} (h : CLS f0 f sw S) (hk : S.k < 240) (hQ : ∀ g, CLS f0 g sw (S.put c w) → Q (some (.int (nI S.k))) sw g) : XP G mX1_put d 0 [.ref (lwR sw), .int c, .int w] [] sw f Q := by
  have q := lwR_or sw
  obtain ⟨h1, h2, h3, h4, h5⟩ := h
  have n1 : ¬ (240 : Int32) ≤ f (lwR sw) 1 := by rw [h3]; exact nI_ge (a := S.k) (b := 240) hk (by omega)
  have e1 : (upd2 f (lwR sw + 5) ((f (lwR sw) 1).toNatClampNeg) c) (lwR sw) 1 = nI S.k := by rw [upd2_ne _ _ _ (by omega)]; exact h3
  refine bX1_put_0 (isLw_R sw) (fun h => absurd h n1) (fun _ => by rw [h3]; exact vp_in_nI (by omega) (by omega)) (fun _ => by rw [e1]; exact vp_in_nI (by omega) (by omega)) (fun _ => ?_)
  rw [e1, upd2_self _ (lwR sw), pk_us, upd2_ne (i := lwR sw + 6) _ _ _ (show lwR sw ≠ lwR sw + 6 by omega), e1, nI_1, h3, nI_clamp (by omega), show nI (S.k + 1) - (1 : Int32) = nI S.k from by rw [← nI_add]; exact Int32.add_sub_cancel _ _]
  refine hQ _ ⟨⟨fun x a1 a2 a3 a4 => ?_, fun j hj => ?_, fun j hj => ?_⟩, ?_, ?_, ?_, ?_⟩
  · rw [upd2_ne _ _ _ a2, upd2_ne _ _ _ a4, upd2_ne _ _ _ a3]; exact h1.1 x a1 a2 a3 a4
  · rw [upd2_ne _ _ _ (by omega), upd2_ne _ _ _ (by omega), upd2_ne _ _ _ (by omega)]; exact h1.2.1 j hj
  · rw [upd2_self, pk_un (by omega), upd2_ne _ _ _ (by omega), upd2_ne _ _ _ (by omega)]; exact h1.2.2 j hj
  · rw [upd2_ne _ _ _ (by omega), upd2_ne _ _ _ (by omega), upd2_ne _ _ _ (by omega)]; exact h2
  · rw [upd2_self, pk_us]; rfl
  · rw [upd2_ne _ _ _ (by omega), upd2_ne _ _ _ (by omega), upd2_self, h4]; rfl
  · rw [upd2_ne _ _ _ (by omega), upd2_self, upd2_ne _ _ _ (by omega), h5]; rfl
def jI : Option Nat → Int32
  | none => -1
  | some j => nI j
theorem sp_land {G : GC} {d : Nat} {sw : Bool} {f0 f : FF} {Q : QQ} {S : St} {J : Option Nat} (h : CLS f0 f sw S) (hk : S.k ≤ 240) (hj : ∀ j, J = some j → j < S.k) (hQ : ∀ g, CLS f0 g sw (S.land J) → Q none sw g) : XP G mX1_land d 0 [.ref (lwR sw), .int (jI J)] [] sw f Q := by
  have q := lwR_or sw
  cases J with
  | none => exact bX1_land_0 (isLw_R sw) (fun _ => hQ f h) (fun h => absurd (by decide) h) (fun h => absurd (by decide) h)
  | some j =>
    have hj := hj j rfl
    obtain ⟨h1, h2, h3, h4, h5⟩ := h
    have n1 : ¬ (jI (some j)) < 0 := by
      show ¬ nI j < 0
      exact fun z => absurd (Int32.lt_iff_toInt_lt.mp z) (by rw [nI_toInt (by omega)]; simp)
    refine bX1_land_0 (isLw_R sw) (fun h => absurd h n1) (fun _ => vp_in_nI (by omega) (by omega)) (fun _ => ?_)
    have e1 : (jI (some j)).toNatClampNeg = j := nI_clamp (by omega)
    rw [e1, h3]
    refine hQ _ ⟨⟨fun x a1 a2 a3 a4 => ?_, fun j hj => ?_, fun j hj => ?_⟩, ?_, ?_, ?_, ?_⟩
    · rw [upd2_ne _ _ _ a4]; exact h1.1 x a1 a2 a3 a4
    · rw [upd2_ne _ _ _ (by omega)]; exact h1.2.1 j hj
    · rw [upd2_ne _ _ _ (by omega)]; exact h1.2.2 j hj
    · rw [upd2_ne _ _ _ (by omega)]; exact h2
    · rw [upd2_ne _ _ _ (by omega)]; exact h3
    · rw [upd2_ne _ _ _ (by omega)]; exact h4
    · rw [upd2_self, h5]; rfl
/-- what readFactor's lines come to -/
def RFB (G : GC) : Prop := ∀ (d : Nat) (sw : Bool) (f : FF) (Q : QQ) (x1 c : Int32), c = tAt f (f 1 3) → (c = -1 ∨ ∃ i : Nat, i ≤ 255 ∧ c = nI i) →
  (c = 91 → x1 < 6 → XP G mX2_readSum (d + 9) 0 [.ref 24, .int (x1 + 1), .null, .null] [] sw (upd2 f 1 3 (f 1 3 + 1)) (fun v sw' f' => (v = some (.int 0) ∧ Q (some (.int 0)) sw' f') ∨ (v = some (.int 1) ∧ XP G mX8_passes (d + 9) 0 [.ref 1, .int 93] [] sw' f' (fun v2 sw2 f2 => (v2 = some (.int 0) ∨ v2 = some (.int 1)) ∧ Q v2 sw2 f2)))) →
  (c = 91 → ¬ x1 < 6 → XP G mX8_fails (d + 9) 0 [.ref 1, .int 5] [] sw f (fun v sw' f' => (v = some (.int 0) ∨ v = some (.int 1)) ∧ Q v sw' f')) →
  (¬ c = 91 → ¬ fx c = -1 → XP G mX1_put (d + 9) 0 [.ref (lwR sw), .int 97, .int (fx c)] [] sw (upd2 f 1 3 (f 1 3 + 1)) (fun v sw' f' => (∃ i, v = some (.int i)) ∧ Q (some (.int 1)) sw' f')) →
  (¬ c = 91 → fx c = -1 → XP G mX8_readNumber (d + 9) 0 [.ref 1, .null] [] sw f (fun v sw' f' => (v = some (.int 0) ∧ Q (some (.int 0)) sw' f') ∨ (v = some (.int 1) ∧ XP G mX1_put (d + 9) 0 [.ref (lwR sw'), .int 48, .int (f' 1 4)] [] sw' f' (fun v2 sw2 f2 => (∃ i, v2 = some (.int i)) ∧ Q (some (.int 1)) sw2 f2)))) →
  XP G mX2_readFactor (d + 10) 0 [.ref 24, .int x1, .null, .null] [] sw f Q
def dK (K o : Nat) : Nat := match K with
  | 0 => 10 + 3 * (6 - o)
  | 1 => 11 + 3 * (6 - o)
  | 2 => 11 + 3 * (6 - o)
  | 3 => 12 + 3 * (6 - o)
  | 4 => 12 + 3 * (6 - o)
  | 5 => 13 + 3 * (6 - o)
  | 6 => 13 + 4 * (6 - o)
  | 7 => 14 + 4 * (6 - o)
  | 8 => 15 + 4 * (6 - o)
  | 9 => 15 + 4 * (6 - o)
  | 10 => 16 + 4 * (6 - o)
  | _ => 16 + 4 * (6 - o)
def CXP (G : GC) (sw : Bool) (K : Nat) (J : Option Nat) (o e : Nat) (S : St) (f : FF) (Q : QQ) : Prop := match K with
  | 0 => XP G mX2_readFactor e 0 [.ref 24, .int (nI o), .null, .null] [] sw f Q
  | 1 => ∀ (i : Nat) (v : Value), i ≤ S.p → XP G mX2_readProduct e 12 [.ref 24, .int (nI o), .int (nI i), v] [] sw f Q
  | 2 => XP G mX2_readProduct e 0 [.ref 24, .int (nI o), .null, .null] [] sw f Q
  | 3 => ∀ (i : Nat) (v : Value), i ≤ S.p → XP G mX2_readSum e 12 [.ref 24, .int (nI o), .int (nI i), v] [] sw f Q
  | 4 => XP G mX2_readSum e 0 [.ref 24, .int (nI o), .null, .null] [] sw f Q
  | 5 => XP G mX2_readComparison e 0 [.ref 24, .int (nI o), .null] [] sw f Q
  | 6 => XP G mX2_readBracket e 0 [.ref 24, .int (nI o)] [] sw f Q
  | 7 => XP G mX2_readTest e 0 [.ref 24, .int (nI o)] [] sw f Q
  | 8 => ∀ (i : Nat), i ≤ S.p → (∀ j, J = some j → j < S.k) → XP G mX2_readPart e 14 [.ref 24, .int (nI o), .int (jI J), .int (nI i)] [] sw f Q
  | 9 => XP G mX2_readPart e 0 [.ref 24, .int (nI o), .null, .null] [] sw f Q
  | 10 => ∀ (i : Nat), i ≤ S.p → (∀ j, J = some j → j < S.k) → XP G mX2_readCondition e 14 [.ref 24, .int (nI o), .int (jI J), .int (nI i)] [] sw f Q
  | _ => XP G mX2_readCondition e 0 [.ref 24, .int (nI o), .null, .null] [] sw f Q
def Acc (f0 : FF) (sw : Bool) (Q : QQ) : Except Int32 St → Prop
  | .ok S' => ∀ g, CLS f0 g sw S' → Q (some (.int 1)) sw g
  | .error e => ∀ g, COL sw f0 g → g 1 5 = e → Q (some (.int 0)) sw g
theorem nI_lt6 {o : Nat} (h : o < 6) : nI o < 6 := nI_lt (b := 6) h (by omega)
theorem nI_nlt6 {o : Nat} (h : ¬ o < 6) (h2 : o ≤ 6) : ¬ nI o < 6 := fun z => absurd ((nI_ltI (b := 6) (by omega) (by omega)).mp z) h
theorem tx_rg (t : Nat → Int32) (n p : Nat) : tx t n p = -1 ∨ ∃ i : Nat, i ≤ 255 ∧ tx t n p = nI i := by
  unfold tx
  by_cases h : p < n
  · rw [if_pos h]
    obtain ⟨j, hj, ej⟩ := pk_andE (t p) (m := 255) 8 (by decide)
    exact Or.inr ⟨j, by omega, ej⟩
  · exact Or.inl (if_neg h)
theorem n240 {i : Nat} (h : i < 240) : ¬ (240 : Int32) ≤ nI i := nI_ge (a := i) (b := 240) h (by omega)
theorem PL.cls {G : GC} {sw : Bool} {f0 : FF} {n : Nat} (hF : RFB G) (ht : TX f0 n) (hn : n ≤ 240) {K : Nat} {J : Option Nat} {o : Nat} {S : St} {r : Except Int32 St} (h : PL (f0 90) n K J o S r) : ∀ (e : Nat) (f : FF) (Q : QQ), dK K o ≤ e → CLS f0 f sw S → S.p ≤ n → S.k ≤ S.p → o ≤ 6 → Acc f0 sw Q r → CXP G sw K J o e S f Q := by
  refine PL.ind (M := fun K J o S r => ∀ (e : Nat) (f : FF) (Q : QQ), dK K o ≤ e → CLS f0 f sw S → S.p ≤ n → S.k ≤ S.p → o ≤ 6 → Acc f0 sw Q r → CXP G sw K J o e S f Q) h ?facB ?facX ?facE ?facO ?facL ?facN ?facM ?prodO ?prodE ?prodZ ?prodS ?prodF ?sumO ?sumE ?sumZ ?sumS ?sumF ?comE ?comX ?comF ?comO ?tB ?tO ?tE ?tN ?tC ?bX ?bO ?bE ?bC ?bF ?parO ?parE ?parZ ?parS ?parF ?conO ?conE ?conZ ?conS ?conF
  case facB =>
    intro o S S1 h1 h2 h3 h4 i1
    intro e f Q he hc hp hk ho ha
    simp only [dK] at he
    obtain ⟨d, rfl⟩ : ∃ d, e = d + 10 := ⟨e - 10, by omega⟩
    have sg := hc.sign ht hp
    have q := tx_in h1 (by decide)
    have q4 := tx_in h4 (by decide)
    refine hF d sw f Q (nI o) _ sg.symm (tx_rg _ _ _) (fun _ _ => ?_) (fun _ z => absurd (nI_lt6 h2) z) (fun z => absurd h1 z) (fun z => absurd h1 z)
    rw [nI_1]
    refine i1 (d + 9) _ _ (by simp only [dK]; omega) hc.adv q (Nat.le_succ_of_le hk) (by omega) (fun g hg => ?_)
    exact Or.inr ⟨rfl, sp_passes (hg.txx ht) hg.2.1 (Nat.le_of_lt q4) (by decide) (fun _ g2 o2 e2 => ⟨Or.inr rfl, ha g2 (hg.ot o2 e2)⟩) (fun z => absurd (by rw [hg.n90]; exact h4) z)⟩
  case facX =>
    intro o S S1 h1 h2 h3 h4 i1
    intro e f Q he hc hp hk ho ha
    simp only [dK] at he
    obtain ⟨d, rfl⟩ : ∃ d, e = d + 10 := ⟨e - 10, by omega⟩
    have sg := hc.sign ht hp
    have q := tx_in h1 (by decide)
    have l := h3.len _ rfl q
    refine hF d sw f Q (nI o) _ sg.symm (tx_rg _ _ _) (fun _ _ => ?_) (fun _ z => absurd (nI_lt6 h2) z) (fun z => absurd h1 z) (fun z => absurd h1 z)
    rw [nI_1]
    refine i1 (d + 9) _ _ (by simp only [dK]; omega) hc.adv q (Nat.le_succ_of_le hk) (by omega) (fun g hg => ?_)
    exact Or.inr ⟨rfl, sp_passes (hg.txx ht) hg.2.1 l.1 (by decide) (fun z => absurd (by rw [hg.n90] at z; exact z) h4) (fun _ g2 o2 e2 => ⟨Or.inl rfl, ha g2 (hg.1.tr (o2.col sw)) e2⟩)⟩
  case facE =>
    intro o S e h1 h2 h3 i1
    intro e f Q he hc hp hk ho ha
    simp only [dK] at he
    obtain ⟨d, rfl⟩ : ∃ d, e = d + 10 := ⟨e - 10, by omega⟩
    have sg := hc.sign ht hp
    have q := tx_in h1 (by decide)
    refine hF d sw f Q (nI o) _ sg.symm (tx_rg _ _ _) (fun _ _ => ?_) (fun _ z => absurd (nI_lt6 h2) z) (fun z => absurd h1 z) (fun z => absurd h1 z)
    rw [nI_1]
    exact i1 (d + 9) _ _ (by simp only [dK]; omega) hc.adv q (Nat.le_succ_of_le hk) (by omega) (fun g hg h5 => Or.inl ⟨rfl, ha g hg h5⟩)
  case facO =>
    intro o S h1 h2
    intro e f Q he hc hp hk ho ha
    simp only [dK] at he
    obtain ⟨d, rfl⟩ : ∃ d, e = d + 10 := ⟨e - 10, by omega⟩
    have sg := hc.sign ht hp
    exact hF d sw f Q (nI o) _ sg.symm (tx_rg _ _ _) (fun _ z => absurd z (nI_nlt6 h2 ho)) (fun _ _ => sp_fails (w := 5) hc.2.1 (fun g o2 e5 => ⟨Or.inl rfl, ha g (hc.1.tr (o2.col sw)) e5⟩)) (fun z => absurd h1 z) (fun z => absurd h1 z)
  case facL =>
    intro o S h1 h2
    intro e f Q he hc hp hk ho ha
    simp only [dK] at he
    obtain ⟨d, rfl⟩ : ∃ d, e = d + 10 := ⟨e - 10, by omega⟩
    have sg := hc.sign ht hp
    have q := fx_in h2
    exact hF d sw f Q (nI o) _ sg.symm (tx_rg _ _ _) (fun z => absurd z h1) (fun z => absurd z h1) (fun _ _ => sp_put hc.adv (show S.k < 240 by omega) (fun g hg => ⟨⟨_, rfl⟩, ha g hg⟩)) (fun _ z => absurd z h2)
  case facN =>
    intro o S p' v h1 h2 h3
    intro e f Q he hc hp hk ho ha
    simp only [dK] at he
    obtain ⟨d, rfl⟩ : ∃ d, e = d + 10 := ⟨e - 10, by omega⟩
    have sg := hc.sign ht hp
    have q := numR_in h3
    refine hF d sw f Q (nI o) _ sg.symm (tx_rg _ _ _) (fun z => absurd z h1) (fun z => absurd z h1) (fun _ z => absurd h2 z) (fun _ _ => ?_)
    refine sp_readNumber (hc.txx ht) hc.2.1 hp (fun e2 g hr => ?_) (fun p2 v2 g hr _ _ og g3 g4 => ?_)
    · rw [hc.n90, h3] at hr; exact absurd hr (by simp)
    · rw [hc.n90, h3] at hr
      have := Except.ok.inj hr
      injection this with a b
      subst a b
      refine Or.inr ⟨rfl, ?_⟩
      rw [g4]
      exact sp_put (hc.ot og g3) (show S.k < 240 by omega) (fun g2 hg => ⟨⟨_, rfl⟩, ha g2 hg⟩)
  case facM =>
    intro o S e h1 h2 h3
    intro e f Q he hc hp hk ho ha
    simp only [dK] at he
    obtain ⟨d, rfl⟩ : ∃ d, e = d + 10 := ⟨e - 10, by omega⟩
    have sg := hc.sign ht hp
    refine hF d sw f Q (nI o) _ sg.symm (tx_rg _ _ _) (fun z => absurd z h1) (fun z => absurd z h1) (fun _ z => absurd h2 z) (fun _ _ => ?_)
    refine sp_readNumber (hc.txx ht) hc.2.1 hp (fun e2 g hr og g5 => ?_) (fun p2 v2 g hr _ _ og g3 g4 => ?_)
    · rw [hc.n90, h3] at hr
      have := Except.error.inj hr
      subst this
      exact Or.inl ⟨rfl, ha g (hc.1.tr (og.col sw)) g5⟩
    · rw [hc.n90, h3] at hr; exact absurd hr (by simp)
  case prodO =>
    intro o S S1 r h1 h2 i1 i2
    intro e f Q he hc hp hk ho ha
    simp only [dK] at he
    obtain ⟨d, rfl⟩ : ∃ d, e = d + 4 := ⟨e - 4, by omega⟩
    have l := h1.len _ rfl hp
    exact bX2_readProduct_0 (i1 (d + 3) f _ (by simp only [dK]; omega) hc hp hk ho (fun g hg => bX2_readProduct_5 (fun _ => i2 (d + 4) g Q (by simp only [dK]; omega) hg l.1 (by omega) ho ha 0 .null (Nat.zero_le _)) (fun z => absurd z (by decide))))
  case prodE =>
    intro o S e h1 i1
    intro e f Q he hc hp hk ho ha
    simp only [dK] at he
    obtain ⟨d, rfl⟩ : ∃ d, e = d + 4 := ⟨e - 4, by omega⟩
    exact bX2_readProduct_0 (i1 (d + 3) f _ (by simp only [dK]; omega) hc hp hk ho (fun g hg h5 => bX2_readProduct_5 (fun z => absurd rfl z) (fun _ => ha g hg h5)))
  case sumO =>
    intro o S S1 r h1 h2 i1 i2
    intro e f Q he hc hp hk ho ha
    simp only [dK] at he
    obtain ⟨d, rfl⟩ : ∃ d, e = d + 4 := ⟨e - 4, by omega⟩
    have l := h1.len _ rfl hp
    exact bX2_readSum_0 (i1 (d + 3) f _ (by simp only [dK]; omega) hc hp hk ho (fun g hg => bX2_readSum_5 (fun _ => i2 (d + 4) g Q (by simp only [dK]; omega) hg l.1 (by omega) ho ha 0 .null (Nat.zero_le _)) (fun z => absurd z (by decide))))
  case sumE =>
    intro o S e h1 i1
    intro e f Q he hc hp hk ho ha
    simp only [dK] at he
    obtain ⟨d, rfl⟩ : ∃ d, e = d + 4 := ⟨e - 4, by omega⟩
    exact bX2_readSum_0 (i1 (d + 3) f _ (by simp only [dK]; omega) hc hp hk ho (fun g hg h5 => bX2_readSum_5 (fun z => absurd rfl z) (fun _ => ha g hg h5)))
  case parO =>
    intro o S S1 r h1 h2 i1 i2
    intro e f Q he hc hp hk ho ha
    simp only [dK] at he
    obtain ⟨d, rfl⟩ : ∃ d, e = d + 4 := ⟨e - 4, by omega⟩
    have l := h1.len _ rfl hp
    exact bX2_readPart_0 (i1 (d + 3) f _ (by simp only [dK]; omega) hc hp hk ho (fun g hg => bX2_readPart_5 (fun _ => i2 (d + 4) g Q (by simp only [dK]; omega) hg l.1 (by omega) ho ha 0 (Nat.zero_le _) (fun j hj => nomatch hj)) (fun z => absurd z (by decide))))
  case parE =>
    intro o S e h1 i1
    intro e f Q he hc hp hk ho ha
    simp only [dK] at he
    obtain ⟨d, rfl⟩ : ∃ d, e = d + 4 := ⟨e - 4, by omega⟩
    exact bX2_readPart_0 (i1 (d + 3) f _ (by simp only [dK]; omega) hc hp hk ho (fun g hg h5 => bX2_readPart_5 (fun z => absurd rfl z) (fun _ => ha g hg h5)))
  case conO =>
    intro o S S1 r h1 h2 i1 i2
    intro e f Q he hc hp hk ho ha
    simp only [dK] at he
    obtain ⟨d, rfl⟩ : ∃ d, e = d + 4 := ⟨e - 4, by omega⟩
    have l := h1.len _ rfl hp
    exact bX2_readCondition_0 (i1 (d + 3) f _ (by simp only [dK]; omega) hc hp hk ho (fun g hg => bX2_readCondition_5 (fun _ => i2 (d + 4) g Q (by simp only [dK]; omega) hg l.1 (by omega) ho ha 0 (Nat.zero_le _) (fun j hj => nomatch hj)) (fun z => absurd z (by decide))))
  case conE =>
    intro o S e h1 i1
    intro e f Q he hc hp hk ho ha
    simp only [dK] at he
    obtain ⟨d, rfl⟩ : ∃ d, e = d + 4 := ⟨e - 4, by omega⟩
    exact bX2_readCondition_0 (i1 (d + 3) f _ (by simp only [dK]; omega) hc hp hk ho (fun g hg h5 => bX2_readCondition_5 (fun z => absurd rfl z) (fun _ => ha g hg h5)))
  case prodZ =>
    intro o S h1
    intro e f Q he hc hp hk ho ha i v hi
    simp only [dK] at he
    obtain ⟨d, rfl⟩ : ∃ d, e = d + 4 := ⟨e - 4, by omega⟩
    have sg := hc.sign ht hp
    exact bX2_readProduct_12 (fun _ => ha f hc) (fun _ _ => ha f hc) (fun _ z => absurd (by rw [sg] at z; exact z) h1)
  case prodS =>
    intro o S S1 r h1 h2 h3 i1 i2
    intro e f Q he hc hp hk ho ha i v hi
    simp only [dK] at he
    obtain ⟨d, rfl⟩ : ∃ d, e = d + 4 := ⟨e - 4, by omega⟩
    have sg := hc.sign ht hp
    have q := tx_in (c := tx (f0 90) n S.p) rfl (fun z => by rw [z] at h1; revert h1; decide)
    have l := h2.len _ rfl q
    have n1 := n240 (i := i) (by omega)
    simp only [St.adv_p, St.adv_k] at l
    have l2 := l.2.2.2 (by decide)
    have key : XP G mX2_readFactor (d + 3) 0 [.ref 24, .int (nI o), .null, .null] [] sw (upd2 f 1 3 ((f 1 3) + 1)) (fun v sw' f' => XP G mX2_readProduct (d + 4) 58 [.ref 24, .int (nI o), .int (nI i), .int (tAt f (f 1 3))] (retst v []) sw' f' Q) := by
      refine i1 (d + 3) _ _ (by simp only [dK]; omega) hc.adv q (Nat.le_succ_of_le hk) ho (fun g hg => ?_)
      refine bX2_readProduct_58 (fun _ => ?_) (fun z => absurd z (by decide))
      rw [sg]
      refine sp_put hg (by omega) (fun g2 hg2 => bX2_readProduct_72 ?_)
      rw [nI_1]
      exact i2 (d + 4) g2 Q (by simp only [dK]; omega) hg2 l.1 (by simp only [St.put_p, St.put_k]; omega) ho ha (i + 1) _ (by simp only [St.put_p]; omega)
    exact bX2_readProduct_12 (fun z => absurd z n1) (fun _ z => absurd (by rw [sg]; exact h1) z) (fun _ _ => key)
  case prodF =>
    intro o S e h1 h2 i1
    intro e f Q he hc hp hk ho ha i v hi
    simp only [dK] at he
    obtain ⟨d, rfl⟩ : ∃ d, e = d + 4 := ⟨e - 4, by omega⟩
    have sg := hc.sign ht hp
    have q := tx_in (c := tx (f0 90) n S.p) rfl (fun z => by rw [z] at h1; revert h1; decide)
    have n1 := n240 (i := i) (by omega)
    have key : XP G mX2_readFactor (d + 3) 0 [.ref 24, .int (nI o), .null, .null] [] sw (upd2 f 1 3 ((f 1 3) + 1)) (fun v sw' f' => XP G mX2_readProduct (d + 4) 58 [.ref 24, .int (nI o), .int (nI i), .int (tAt f (f 1 3))] (retst v []) sw' f' Q) :=
      i1 (d + 3) _ _ (by simp only [dK]; omega) hc.adv q (Nat.le_succ_of_le hk) ho (fun g hg h5 => bX2_readProduct_58 (fun z => absurd rfl z) (fun _ => ha g hg h5))
    exact bX2_readProduct_12 (fun z => absurd z n1) (fun _ z => absurd (by rw [sg]; exact h1) z) (fun _ _ => key)
  case sumZ =>
    intro o S h1
    intro e f Q he hc hp hk ho ha i v hi
    simp only [dK] at he
    obtain ⟨d, rfl⟩ : ∃ d, e = d + 4 := ⟨e - 4, by omega⟩
    have sg := hc.sign ht hp
    exact bX2_readSum_12 (fun _ => ha f hc) (fun _ z => absurd (Or.inl (by rw [sg] at z; exact z)) h1) (fun _ _ _ => ha f hc) (fun _ _ z => absurd (Or.inr (by rw [sg] at z; exact z)) h1)
  case sumS =>
    intro o S S1 r h1 h2 h3 i1 i2
    intro e f Q he hc hp hk ho ha i v hi
    simp only [dK] at he
    obtain ⟨d, rfl⟩ : ∃ d, e = d + 4 := ⟨e - 4, by omega⟩
    have sg := hc.sign ht hp
    have q := tx_in (c := tx (f0 90) n S.p) rfl (fun z => by rw [z] at h1; revert h1; decide)
    have l := h2.len _ rfl q
    have n1 := n240 (i := i) (by omega)
    simp only [St.adv_p, St.adv_k] at l
    have l2 := l.2.2.2 (by decide)
    have key : XP G mX2_readProduct (d + 3) 0 [.ref 24, .int (nI o), .null, .null] [] sw (upd2 f 1 3 ((f 1 3) + 1)) (fun v sw' f' => XP G mX2_readSum (d + 4) 69 [.ref 24, .int (nI o), .int (nI i), .int (tAt f (f 1 3))] (retst v []) sw' f' Q) := by
      refine i1 (d + 3) _ _ (by simp only [dK]; omega) hc.adv q (Nat.le_succ_of_le hk) ho (fun g hg => ?_)
      refine bX2_readSum_69 (fun _ => ?_) (fun z => absurd z (by decide))
      rw [sg]
      refine sp_put hg (by omega) (fun g2 hg2 => bX2_readSum_83 ?_)
      rw [nI_1]
      exact i2 (d + 4) g2 Q (by simp only [dK]; omega) hg2 l.1 (by simp only [St.put_p, St.put_k]; omega) ho ha (i + 1) _ (by simp only [St.put_p]; omega)
    refine bX2_readSum_12 (fun z => absurd z n1) (fun _ _ => key) (fun _ z1 z2 => ?_) (fun _ _ _ => key)
    rw [sg] at z1 z2
    exact absurd h1 (fun z => z.elim z1 z2)
  case sumF =>
    intro o S e h1 h2 i1
    intro e f Q he hc hp hk ho ha i v hi
    simp only [dK] at he
    obtain ⟨d, rfl⟩ : ∃ d, e = d + 4 := ⟨e - 4, by omega⟩
    have sg := hc.sign ht hp
    have q := tx_in (c := tx (f0 90) n S.p) rfl (fun z => by rw [z] at h1; revert h1; decide)
    have n1 := n240 (i := i) (by omega)
    have key : XP G mX2_readProduct (d + 3) 0 [.ref 24, .int (nI o), .null, .null] [] sw (upd2 f 1 3 ((f 1 3) + 1)) (fun v sw' f' => XP G mX2_readSum (d + 4) 69 [.ref 24, .int (nI o), .int (nI i), .int (tAt f (f 1 3))] (retst v []) sw' f' Q) :=
      i1 (d + 3) _ _ (by simp only [dK]; omega) hc.adv q (Nat.le_succ_of_le hk) ho (fun g hg h5 => bX2_readSum_69 (fun z => absurd rfl z) (fun _ => ha g hg h5))
    refine bX2_readSum_12 (fun z => absurd z n1) (fun _ _ => key) (fun _ z1 z2 => ?_) (fun _ _ _ => key)
    rw [sg] at z1 z2
    exact absurd h1 (fun z => z.elim z1 z2)
  case comE =>
    intro o S e h1 i1
    intro e f Q he hc hp hk ho ha
    simp only [dK] at he
    obtain ⟨d, rfl⟩ : ∃ d, e = d + 4 := ⟨e - 4, by omega⟩
    exact bX2_readComparison_0 (i1 (d + 3) f _ (by simp only [dK]; omega) hc hp hk ho (fun g hg h5 => bX2_readComparison_5 (fun z => absurd rfl z) (fun z => absurd rfl z) (fun z => absurd rfl z) (fun z => absurd rfl z) (fun _ => ha g hg h5)))
  case comX =>
    intro o S S1 h1 h2 i1
    intro e f Q he hc hp hk ho ha
    simp only [dK] at he
    obtain ⟨d, rfl⟩ : ∃ d, e = d + 4 := ⟨e - 4, by omega⟩
    have l := h1.len _ rfl hp
    refine bX2_readComparison_0 (i1 (d + 3) f _ (by simp only [dK]; omega) hc hp hk ho (fun g hg => ?_))
    have sg := hg.sign ht l.1
    refine bX2_readComparison_5 (fun _ z => ?_) (fun _ _ z => ?_) (fun _ _ _ z => ?_) (fun _ _ _ _ => ?_) (fun z => absurd z (by decide))
    · exact absurd (Or.inl (by rw [sg] at z; exact z)) h2
    · exact absurd (Or.inr (Or.inl (by rw [sg] at z; exact z))) h2
    · exact absurd (Or.inr (Or.inr (by rw [sg] at z; exact z))) h2
    · exact sp_fails (w := 1) hg.2.1 (fun g2 o2 e5 => bX2_readComparison_44 (Or.inl rfl) (ha g2 (hg.1.tr (o2.col sw)) e5))
  case comF =>
    intro o S S1 e h1 h2 h3 i1 i2
    intro e f Q he hc hp hk ho ha
    simp only [dK] at he
    obtain ⟨d, rfl⟩ : ∃ d, e = d + 4 := ⟨e - 4, by omega⟩
    have l := h1.len _ rfl hp
    refine bX2_readComparison_0 (i1 (d + 3) f _ (by simp only [dK]; omega) hc hp hk ho (fun g hg => ?_))
    have sg := hg.sign ht l.1
    have q := tx_in (c := tx (f0 90) n S1.p) rfl (fun z => by rw [z] at h2; revert h2; decide)
    have key : XP G mX2_readSum (d + 3) 0 [.ref 24, .int (nI o), .null, .null] [] sw (upd2 g 1 3 ((g 1 3) + 1)) (fun v sw' f' => XP G mX2_readComparison (d + 4) 63 [.ref 24, .int (nI o), .int (tAt g (g 1 3))] (retst v []) sw' f' Q) :=
      i2 (d + 3) _ _ (by simp only [dK]; omega) hg.adv q (by simp only [St.adv_p, St.adv_k]; omega) ho (fun g2 hg2 h5 => bX2_readComparison_63 (fun z => absurd rfl z) (fun _ => ha g2 hg2 h5))
    refine bX2_readComparison_5 (fun _ _ => key) (fun _ _ _ => key) (fun _ _ _ _ => key) (fun _ z1 z2 z3 => ?_) (fun z => absurd z (by decide))
    rw [sg] at z1 z2 z3
    exact absurd h2 (fun z => z.elim z1 (fun z => z.elim z2 z3))
  case comO =>
    intro o S S1 S2 h1 h2 h3 i1 i2
    intro e f Q he hc hp hk ho ha
    simp only [dK] at he
    obtain ⟨d, rfl⟩ : ∃ d, e = d + 4 := ⟨e - 4, by omega⟩
    have l := h1.len _ rfl hp
    refine bX2_readComparison_0 (i1 (d + 3) f _ (by simp only [dK]; omega) hc hp hk ho (fun g hg => ?_))
    have sg := hg.sign ht l.1
    have q := tx_in (c := tx (f0 90) n S1.p) rfl (fun z => by rw [z] at h2; revert h2; decide)
    have l3 := h3.len _ rfl q
    simp only [St.adv_p, St.adv_k] at l3
    have key : XP G mX2_readSum (d + 3) 0 [.ref 24, .int (nI o), .null, .null] [] sw (upd2 g 1 3 ((g 1 3) + 1)) (fun v sw' f' => XP G mX2_readComparison (d + 4) 63 [.ref 24, .int (nI o), .int (tAt g (g 1 3))] (retst v []) sw' f' Q) := by
      refine i2 (d + 3) _ _ (by simp only [dK]; omega) hg.adv q (by simp only [St.adv_p, St.adv_k]; omega) ho (fun g2 hg2 => ?_)
      refine bX2_readComparison_63 (fun _ => ?_) (fun z => absurd z (by decide))
      rw [sg]
      exact sp_put hg2 (by omega) (fun g3 hg3 => bX2_readComparison_77 (ha g3 hg3))
    refine bX2_readComparison_5 (fun _ _ => key) (fun _ _ _ => key) (fun _ _ _ _ => key) (fun _ z1 z2 z3 => ?_) (fun z => absurd z (by decide))
    rw [sg] at z1 z2 z3
    exact absurd h2 (fun z => z.elim z1 (fun z => z.elim z2 z3))
  case tB =>
    intro o S r h1 h2 i1
    intro e f Q he hc hp hk ho ha
    simp only [dK] at he
    obtain ⟨d, rfl⟩ : ∃ d, e = d + 4 := ⟨e - 4, by omega⟩
    have sg := hc.sign ht hp
    refine bX2_readTest_0 (fun z => absurd (by rw [sg]; exact h1) z) (fun z => absurd (by rw [sg]; exact h1) z) (fun z => absurd (by rw [sg]; exact h1) z) (fun _ => ?_)
    refine i1 (d + 3) f _ (by simp only [dK]; omega) hc hp hk ho ?_
    cases r with
    | ok S' => exact fun g hg => bX2_readTest_17 (Or.inr rfl) (ha g hg)
    | error e => exact fun g hg h5 => bX2_readTest_17 (Or.inl rfl) (ha g hg h5)
  case tO =>
    intro o S h1 h2
    intro e f Q he hc hp hk ho ha
    simp only [dK] at he
    obtain ⟨d, rfl⟩ : ∃ d, e = d + 4 := ⟨e - 4, by omega⟩
    have sg := hc.sign ht hp
    have e40 : ¬ tAt f (f 1 3) = 40 := by rw [sg, h1]; decide
    have e33 : tAt f (f 1 3) = 33 := by rw [sg]; exact h1
    exact bX2_readTest_0 (fun _ _ z => absurd z (nI_nlt6 h2 ho)) (fun _ _ _ => sp_fails (w := 5) hc.2.1 (fun g o2 e5 => bX2_readTest_50 (Or.inl rfl) (ha g (hc.1.tr (o2.col sw)) e5))) (fun _ z => absurd e33 z) (fun z => absurd z e40)
  case tE =>
    intro o S e h1 h2 h3 i1
    intro e f Q he hc hp hk ho ha
    simp only [dK] at he
    obtain ⟨d, rfl⟩ : ∃ d, e = d + 4 := ⟨e - 4, by omega⟩
    have sg := hc.sign ht hp
    have e40 : ¬ tAt f (f 1 3) = 40 := by rw [sg, h1]; decide
    have e33 : tAt f (f 1 3) = 33 := by rw [sg]; exact h1
    have q := tx_in h1 (by decide)
    refine bX2_readTest_0 (fun _ _ _ => ?_) (fun _ _ z => absurd (nI_lt6 h2) z) (fun _ z => absurd e33 z) (fun z => absurd z e40)
    rw [nI_1]
    exact i1 (d + 3) _ _ (by simp only [dK]; omega) hc.adv q (Nat.le_succ_of_le hk) (by omega) (fun g hg h5 => bX2_readTest_71 (fun z => absurd rfl z) (fun _ => ha g hg h5))
  case tN =>
    intro o S S1 h1 h2 h3 i1
    intro e f Q he hc hp hk ho ha
    simp only [dK] at he
    obtain ⟨d, rfl⟩ : ∃ d, e = d + 4 := ⟨e - 4, by omega⟩
    have sg := hc.sign ht hp
    have e40 : ¬ tAt f (f 1 3) = 40 := by rw [sg, h1]; decide
    have e33 : tAt f (f 1 3) = 33 := by rw [sg]; exact h1
    have q := tx_in h1 (by decide)
    have l3 := h3.len _ rfl q
    simp only [St.adv_p, St.adv_k] at l3
    refine bX2_readTest_0 (fun _ _ _ => ?_) (fun _ _ z => absurd (nI_lt6 h2) z) (fun _ z => absurd e33 z) (fun z => absurd z e40)
    rw [nI_1]
    exact i1 (d + 3) _ _ (by simp only [dK]; omega) hc.adv q (Nat.le_succ_of_le hk) (by omega) (fun g hg => bX2_readTest_71 (fun _ => sp_put hg (by omega) (fun g3 hg3 => bX2_readTest_86 (ha g3 hg3))) (fun z => absurd z (by decide)))
  case tC =>
    intro o S r h1 h2 h3 i1
    intro e f Q he hc hp hk ho ha
    simp only [dK] at he
    obtain ⟨d, rfl⟩ : ∃ d, e = d + 4 := ⟨e - 4, by omega⟩
    have sg := hc.sign ht hp
    refine bX2_readTest_0 (fun _ z => absurd (by rw [sg] at z; exact z) h2) (fun _ z => absurd (by rw [sg] at z; exact z) h2) (fun _ _ => ?_) (fun z => absurd (by rw [sg] at z; exact z) h1)
    refine i1 (d + 3) f _ (by simp only [dK]; omega) hc hp hk ho ?_
    cases r with
    | ok S' => exact fun g hg => bX2_readTest_35 (Or.inr rfl) (ha g hg)
    | error e => exact fun g hg h5 => bX2_readTest_35 (Or.inl rfl) (ha g hg h5)
  case bX =>
    intro o S h1
    intro e f Q he hc hp hk ho ha
    simp only [dK] at he
    obtain ⟨d, rfl⟩ : ∃ d, e = d + 4 := ⟨e - 4, by omega⟩
    have sg := hc.sign ht hp
    exact bX2_readBracket_0 (fun z => absurd (by rw [sg] at z; exact z) h1) (fun z => absurd (by rw [sg] at z; exact z) h1) (fun _ => sp_fails (w := 1) hc.2.1 (fun g o2 e5 => bX2_readBracket_20 (Or.inl rfl) (ha g (hc.1.tr (o2.col sw)) e5)))
  case bO =>
    intro o S h1 h2
    intro e f Q he hc hp hk ho ha
    simp only [dK] at he
    obtain ⟨d, rfl⟩ : ∃ d, e = d + 4 := ⟨e - 4, by omega⟩
    have sg := hc.sign ht hp
    have e40 : tAt f (f 1 3) = 40 := by rw [sg]; exact h1
    exact bX2_readBracket_0 (fun _ z => absurd z (nI_nlt6 h2 ho)) (fun _ _ => sp_fails (w := 5) hc.2.1 (fun g o2 e5 => bX2_readBracket_35 (Or.inl rfl) (ha g (hc.1.tr (o2.col sw)) e5))) (fun z => absurd e40 z)
  case bE =>
    intro o S e h1 h2 h3 i1
    intro e f Q he hc hp hk ho ha
    simp only [dK] at he
    obtain ⟨d, rfl⟩ : ∃ d, e = d + 4 := ⟨e - 4, by omega⟩
    have sg := hc.sign ht hp
    have e40 : tAt f (f 1 3) = 40 := by rw [sg]; exact h1
    have q := tx_in h1 (by decide)
    refine bX2_readBracket_0 (fun _ _ => ?_) (fun _ z => absurd (nI_lt6 h2) z) (fun z => absurd e40 z)
    rw [nI_1]
    exact i1 (d + 3) _ _ (by simp only [dK]; omega) hc.adv q (Nat.le_succ_of_le hk) (by omega) (fun g hg h5 => bX2_readBracket_56 (fun _ => ha g hg h5) (fun z => absurd rfl z))
  case bC =>
    intro o S S1 h1 h2 h3 h4 i1
    intro e f Q he hc hp hk ho ha
    simp only [dK] at he
    obtain ⟨d, rfl⟩ : ∃ d, e = d + 4 := ⟨e - 4, by omega⟩
    have sg := hc.sign ht hp
    have e40 : tAt f (f 1 3) = 40 := by rw [sg]; exact h1
    have q := tx_in h1 (by decide)
    refine bX2_readBracket_0 (fun _ _ => ?_) (fun _ z => absurd (nI_lt6 h2) z) (fun z => absurd e40 z)
    rw [nI_1]
    have q4 := tx_in h4 (by decide)
    refine i1 (d + 3) _ _ (by simp only [dK]; omega) hc.adv q (Nat.le_succ_of_le hk) (by omega) (fun g hg => bX2_readBracket_56 (fun z => absurd z (by decide)) (fun _ => ?_))
    exact sp_passes (hg.txx ht) hg.2.1 (Nat.le_of_lt q4) (by decide) (fun _ g2 o2 e2 => bX2_readBracket_68 (fun z => absurd z (by decide)) (fun _ => ha g2 (hg.ot o2 e2))) (fun z => absurd (by rw [hg.n90]; exact h4) z)
  case bF =>
    intro o S S1 h1 h2 h3 h4 i1
    intro e f Q he hc hp hk ho ha
    simp only [dK] at he
    obtain ⟨d, rfl⟩ : ∃ d, e = d + 4 := ⟨e - 4, by omega⟩
    have sg := hc.sign ht hp
    have e40 : tAt f (f 1 3) = 40 := by rw [sg]; exact h1
    have q := tx_in h1 (by decide)
    refine bX2_readBracket_0 (fun _ _ => ?_) (fun _ z => absurd (nI_lt6 h2) z) (fun z => absurd e40 z)
    rw [nI_1]
    have l := h3.len _ rfl q
    refine i1 (d + 3) _ _ (by simp only [dK]; omega) hc.adv q (Nat.le_succ_of_le hk) (by omega) (fun g hg => bX2_readBracket_56 (fun z => absurd z (by decide)) (fun _ => ?_))
    exact sp_passes (hg.txx ht) hg.2.1 l.1 (by decide) (fun z => absurd (by rw [hg.n90] at z; exact z) h4) (fun _ g2 o2 e2 => bX2_readBracket_68 (fun _ => ha g2 (hg.1.tr (o2.col sw)) e2) (fun z => absurd rfl z))
  case parZ =>
    intro o S j h1
    intro e f Q he hc hp hk ho ha i hi hj
    simp only [dK] at he
    obtain ⟨d, rfl⟩ : ∃ d, e = d + 4 := ⟨e - 4, by omega⟩
    have sg := hc.sign ht hp
    have fin : XP G mX1_land (d + 3) 0 [.ref (lwR sw), .int (jI j)] [] sw f (fun v sw' f' => XP G mX2_readPart (d + 4) 89 [.ref 24, .int (nI o), .int (jI j), .int (nI i)] (retst v []) sw' f' Q) :=
      sp_land hc (by omega) hj (fun g hg => bX2_readPart_89 (ha g hg))
    exact bX2_readPart_14 (fun _ => fin) (fun _ _ => fin) (fun _ z => absurd (by rw [sg] at z; exact z) h1)
  case parS =>
    intro o S S1 j r h1 h2 h3 i1 i2
    intro e f Q he hc hp hk ho ha i hi hj
    simp only [dK] at he
    obtain ⟨d, rfl⟩ : ∃ d, e = d + 4 := ⟨e - 4, by omega⟩
    have sg := hc.sign ht hp
    have q := tx_in h1 (by decide)
    have n1 := n240 (i := i) (by omega)
    refine bX2_readPart_14 (fun z => absurd z n1) (fun _ z => absurd (by rw [sg]; exact h1) z) (fun _ _ => ?_)
    refine sp_land hc.adv (show S.k ≤ 240 by omega) hj (fun g hg => bX2_readPart_54 ?_)
    refine sp_put hg (by simp only [St.land_k, St.adv_k]; omega) (fun g2 hg2 => bX2_readPart_64 ?_)
    have l := h2.len _ rfl (by simp only [St.put_p, St.land_p, St.adv_p]; omega)
    simp only [St.put_p, St.land_p, St.adv_p, St.put_k, St.land_k, St.adv_k] at l
    refine i1 (d + 3) g2 _ (by simp only [dK]; omega) hg2 (by simp only [St.put_p, St.land_p, St.adv_p]; omega) (by simp only [St.put_p, St.land_p, St.adv_p, St.put_k, St.land_k, St.adv_k]; omega) ho (fun g3 hg3 => bX2_readPart_70 (fun _ => ?_) (fun z => absurd z (by decide)))
    rw [nI_1]
    have e1 : nI (S.adv.land j).k = jI (some S.k) := by rw [St.land_k]; rfl
    rw [e1]
    exact i2 (d + 4) g3 Q (by simp only [dK]; omega) hg3 l.1 (by omega) ho ha (i + 1) (by omega) (fun x hx => by have := Option.some.inj hx; omega)
  case parF =>
    intro o S j e h1 h2 i1
    intro e f Q he hc hp hk ho ha i hi hj
    simp only [dK] at he
    obtain ⟨d, rfl⟩ : ∃ d, e = d + 4 := ⟨e - 4, by omega⟩
    have sg := hc.sign ht hp
    have q := tx_in h1 (by decide)
    have n1 := n240 (i := i) (by omega)
    refine bX2_readPart_14 (fun z => absurd z n1) (fun _ z => absurd (by rw [sg]; exact h1) z) (fun _ _ => ?_)
    refine sp_land hc.adv (show S.k ≤ 240 by omega) hj (fun g hg => bX2_readPart_54 ?_)
    refine sp_put hg (by simp only [St.land_k, St.adv_k]; omega) (fun g2 hg2 => bX2_readPart_64 ?_)
    exact i1 (d + 3) g2 _ (by simp only [dK]; omega) hg2 (by simp only [St.put_p, St.land_p, St.adv_p]; omega) (by simp only [St.put_p, St.land_p, St.adv_p, St.put_k, St.land_k, St.adv_k]; omega) ho (fun g3 hg3 h5 => bX2_readPart_70 (fun z => absurd rfl z) (fun _ => ha g3 hg3 h5))
  case conZ =>
    intro o S j h1
    intro e f Q he hc hp hk ho ha i hi hj
    simp only [dK] at he
    obtain ⟨d, rfl⟩ : ∃ d, e = d + 4 := ⟨e - 4, by omega⟩
    have sg := hc.sign ht hp
    have fin : XP G mX1_land (d + 3) 0 [.ref (lwR sw), .int (jI j)] [] sw f (fun v sw' f' => XP G mX2_readCondition (d + 4) 89 [.ref 24, .int (nI o), .int (jI j), .int (nI i)] (retst v []) sw' f' Q) :=
      sp_land hc (by omega) hj (fun g hg => bX2_readCondition_89 (ha g hg))
    exact bX2_readCondition_14 (fun _ => fin) (fun _ _ => fin) (fun _ z => absurd (by rw [sg] at z; exact z) h1)
  case conS =>
    intro o S S1 j r h1 h2 h3 i1 i2
    intro e f Q he hc hp hk ho ha i hi hj
    simp only [dK] at he
    obtain ⟨d, rfl⟩ : ∃ d, e = d + 4 := ⟨e - 4, by omega⟩
    have sg := hc.sign ht hp
    have q := tx_in h1 (by decide)
    have n1 := n240 (i := i) (by omega)
    refine bX2_readCondition_14 (fun z => absurd z n1) (fun _ z => absurd (by rw [sg]; exact h1) z) (fun _ _ => ?_)
    refine sp_land hc.adv (show S.k ≤ 240 by omega) hj (fun g hg => bX2_readCondition_54 ?_)
    refine sp_put hg (by simp only [St.land_k, St.adv_k]; omega) (fun g2 hg2 => bX2_readCondition_64 ?_)
    have l := h2.len _ rfl (by simp only [St.put_p, St.land_p, St.adv_p]; omega)
    simp only [St.put_p, St.land_p, St.adv_p, St.put_k, St.land_k, St.adv_k] at l
    refine i1 (d + 3) g2 _ (by simp only [dK]; omega) hg2 (by simp only [St.put_p, St.land_p, St.adv_p]; omega) (by simp only [St.put_p, St.land_p, St.adv_p, St.put_k, St.land_k, St.adv_k]; omega) ho (fun g3 hg3 => bX2_readCondition_70 (fun _ => ?_) (fun z => absurd z (by decide)))
    rw [nI_1]
    have e1 : nI (S.adv.land j).k = jI (some S.k) := by rw [St.land_k]; rfl
    rw [e1]
    exact i2 (d + 4) g3 Q (by simp only [dK]; omega) hg3 l.1 (by omega) ho ha (i + 1) (by omega) (fun x hx => by have := Option.some.inj hx; omega)
  case conF =>
    intro o S j e h1 h2 i1
    intro e f Q he hc hp hk ho ha i hi hj
    simp only [dK] at he
    obtain ⟨d, rfl⟩ : ∃ d, e = d + 4 := ⟨e - 4, by omega⟩
    have sg := hc.sign ht hp
    have q := tx_in h1 (by decide)
    have n1 := n240 (i := i) (by omega)
    refine bX2_readCondition_14 (fun z => absurd z n1) (fun _ z => absurd (by rw [sg]; exact h1) z) (fun _ _ => ?_)
    refine sp_land hc.adv (show S.k ≤ 240 by omega) hj (fun g hg => bX2_readCondition_54 ?_)
    refine sp_put hg (by simp only [St.land_k, St.adv_k]; omega) (fun g2 hg2 => bX2_readCondition_64 ?_)
    exact i1 (d + 3) g2 _ (by simp only [dK]; omega) hg2 (by simp only [St.put_p, St.land_p, St.adv_p]; omega) (by simp only [St.put_p, St.land_p, St.adv_p, St.put_k, St.land_k, St.adv_k]; omega) ho (fun g3 hg3 h5 => bX2_readCondition_70 (fun z => absurd rfl z) (fun _ => ha g3 hg3 h5))
