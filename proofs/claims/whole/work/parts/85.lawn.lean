/-! ===== faults are not above 0 ===== -/
theorem PL.neg {t : Nat → Int32} {n : Nat} (hn : n ≤ 240) {K : Nat} {J : Option Nat} {o : Nat} {S : St} {r : Except Int32 St} (h : PL t n K J o S r) : ∀ e, r = .error e → S.p ≤ n → e ≤ 0 := by
  refine PL.ind (M := fun K J o S r => ∀ e, r = .error e → S.p ≤ n → e ≤ 0) h ?facB ?facX ?facE ?facO ?facL ?facN ?facM ?prodO ?prodE ?prodZ ?prodS ?prodF ?sumO ?sumE ?sumZ ?sumS ?sumF ?comE ?comX ?comF ?comO ?tB ?tO ?tE ?tN ?tC ?bX ?bO ?bE ?bC ?bF ?parO ?parE ?parZ ?parS ?parF ?conO ?conE ?conZ ?conS ?conF
  case facX =>
    intro o S S1 h1 h2 h3 h4 i1
    intro e hr hp; rw [← Except.error.inj hr]
    have l := h3.len _ rfl (tx_in h1 (by decide))
    exact er_neg (by omega) (by omega) (by omega)
  case facE =>
    intro o S e h1 h2 h3 i1
    intro e' hr hp; cases hr
    exact i1 _ rfl (tx_in h1 (by decide))
  case facO =>
    intro o S h1 h2
    intro e hr hp; rw [← Except.error.inj hr]
    exact er_neg (by omega) (by omega) (by omega)
  case facM =>
    intro o S e h1 h2 h3
    intro e' hr hp; cases hr
    exact numR_er (by omega) h3
  case prodO =>
    intro o S S1 r h1 h2 i1 i2
    intro e hr hp
    exact i2 e hr (h1.len _ rfl hp).1
  case sumO =>
    intro o S S1 r h1 h2 i1 i2
    intro e hr hp
    exact i2 e hr (h1.len _ rfl hp).1
  case parO =>
    intro o S S1 r h1 h2 i1 i2
    intro e hr hp
    exact i2 e hr (h1.len _ rfl hp).1
  case conO =>
    intro o S S1 r h1 h2 i1 i2
    intro e hr hp
    exact i2 e hr (h1.len _ rfl hp).1
  case prodE =>
    intro o S e h1 i1
    intro e' hr hp; cases hr
    exact i1 _ rfl hp
  case sumE =>
    intro o S e h1 i1
    intro e' hr hp; cases hr
    exact i1 _ rfl hp
  case parE =>
    intro o S e h1 i1
    intro e' hr hp; cases hr
    exact i1 _ rfl hp
  case conE =>
    intro o S e h1 i1
    intro e' hr hp; cases hr
    exact i1 _ rfl hp
  case comE =>
    intro o S e h1 i1
    intro e' hr hp; cases hr
    exact i1 _ rfl hp
  case prodS =>
    intro o S S1 r h1 h2 h3 i1 i2
    intro e hr hp
    exact i2 e hr (h2.len _ rfl (tx_ne1 (P := isT) h1 (by decide))).1
  case sumS =>
    intro o S S1 r h1 h2 h3 i1 i2
    intro e hr hp
    exact i2 e hr (h2.len _ rfl (tx_ne1 (P := isS) h1 (by decide))).1
  case prodF =>
    intro o S e h1 h2 i1
    intro e' hr hp; cases hr
    exact i1 _ rfl (tx_ne1 (P := isT) h1 (by decide))
  case sumF =>
    intro o S e h1 h2 i1
    intro e' hr hp; cases hr
    exact i1 _ rfl (tx_ne1 (P := isS) h1 (by decide))
  case comX =>
    intro o S S1 h1 h2 i1
    intro e hr hp; rw [← Except.error.inj hr]
    have l := h1.len _ rfl hp
    exact er_neg (by omega) (by omega) (by omega)
  case comF =>
    intro o S S1 e h1 h2 h3 i1 i2
    intro e' hr hp; cases hr
    exact i2 _ rfl (tx_ne1 (P := isC) h2 (by decide))
  case tB =>
    intro o S r h1 h2 i1
    exact i1
  case tC =>
    intro o S r h1 h2 h3 i1
    exact i1
  case tO =>
    intro o S h1 h2
    intro e hr hp; rw [← Except.error.inj hr]
    exact er_neg (by omega) (by omega) (by omega)
  case bO =>
    intro o S h1 h2
    intro e hr hp; rw [← Except.error.inj hr]
    exact er_neg (by omega) (by omega) (by omega)
  case tE =>
    intro o S e h1 h2 h3 i1
    intro e' hr hp; cases hr
    exact i1 _ rfl (tx_in h1 (by decide))
  case bE =>
    intro o S e h1 h2 h3 i1
    intro e' hr hp; cases hr
    exact i1 _ rfl (tx_in h1 (by decide))
  case bX =>
    intro o S h1
    intro e hr hp; rw [← Except.error.inj hr]
    exact er_neg (by omega) (by omega) (by omega)
  case bF =>
    intro o S S1 h1 h2 h3 h4 i1
    intro e hr hp; rw [← Except.error.inj hr]
    have l := h3.len _ rfl (tx_in h1 (by decide))
    exact er_neg (by omega) (by omega) (by omega)
  case parS =>
    intro o S S1 j r h1 h2 h3 i1 i2
    intro e hr hp
    have q := tx_in h1 (by decide)
    exact i2 e hr (h2.len _ rfl (by simp only [St.put_p, St.land_p, St.adv_p]; omega)).1
  case conS =>
    intro o S S1 j r h1 h2 h3 i1 i2
    intro e hr hp
    have q := tx_in h1 (by decide)
    exact i2 e hr (h2.len _ rfl (by simp only [St.put_p, St.land_p, St.adv_p]; omega)).1
  case parF =>
    intro o S j e h1 h2 i1
    intro e' hr hp; cases hr
    have q := tx_in h1 (by decide)
    exact i1 _ rfl (by simp only [St.put_p, St.land_p, St.adv_p]; omega)
  case conF =>
    intro o S j e h1 h2 i1
    intro e' hr hp; cases hr
    have q := tx_in h1 (by decide)
    exact i1 _ rfl (by simp only [St.put_p, St.land_p, St.adv_p]; omega)
  case facB => intros; contradiction
  case facL => intros; contradiction
  case facN => intros; contradiction
  case prodZ => intros; contradiction
  case sumZ => intros; contradiction
  case comO => intros; contradiction
  case tN => intros; contradiction
  case bC => intros; contradiction
  case parZ => intros; contradiction
  case conZ => intros; contradiction
theorem RUc.neg {t : Nat → Int32} {n i : Nat} {S1 : St} {L : LLs} {e : Int32} (hn : n ≤ 240) (h : RUc t n i S1 L (.error e)) (hp : S1.p ≤ n) : e ≤ 0 := by
  obtain ⟨r2, h2, ⟨e', z1, z2⟩ | ⟨S2, _, z2⟩⟩ := h
  · have := Except.error.inj z2
    subst this
    exact h2.neg hn e z1 hp
  · exact absurd z2 (by simp)
theorem RUL.neg {t : Nat → Int32} {n i : Nat} {S : St} {L : LLs} {e : Int32} (hn : n ≤ 240) (h : RUL t n i S L (.error e)) (hp : S.p ≤ n) : e ≤ 0 := by
  rcases h with ⟨h1, z⟩ | ⟨h1, h2, z⟩ | ⟨h1, h2, r1, k1, ⟨e', z1, z⟩ | ⟨S1, z1, z2⟩⟩ | ⟨h0, h1, h2, z⟩
  · rw [Except.error.inj z]; exact er_neg (by omega) (by omega) (by omega)
  · rw [Except.error.inj z]; exact er_neg (by omega) (by omega) (by omega)
  · rw [Except.error.inj z]; exact k1.neg hn _ z1 (tx_ne1 (P := hasV) h1 (by decide))
  · subst z1
    exact z2.neg hn (k1.len _ rfl (tx_ne1 (P := hasV) h1 (by decide))).1
  · exact z.neg hn (S1 := S.adv) (tx_ne1 (P := isLt) h1 (by decide))
theorem LWz.neg {t : Nat → Int32} {n : Nat} (hn : n ≤ 240) {e : Int32} : ∀ (m i : Nat) (S : St) (L : LLs), LWz t n m i S L (.error e) → S.p ≤ n → S.k ≤ S.p → e ≤ 0 := by
  intro m
  induction m with
  | zero => intro i S L h; exact h.elim
  | succ m ih =>
    intro i S L h hp hk
    obtain ⟨ru, hu, ⟨e', z, z2⟩ | ⟨S1, L1, z1, z2⟩⟩ := h
    · subst z
      rw [Except.error.inj z2]
      exact hu.neg hn hp
    · subst z1
      have o := hu.ok hp hk
      rcases z2 with ⟨y1, y⟩ | ⟨y1, y2, y⟩ | ⟨y1, y2, y3⟩
      · exact absurd y (by simp)
      · rw [Except.error.inj y]; exact er_neg (by omega) (by omega) (by omega)
      · exact ih (i + 1) S1.adv L1 y3 y1 (Nat.le_succ_of_le o.2.2.2)
theorem RR.law {sw sw' : Bool} {f g : FF} (hR : RR sw f) (o : ∀ c, c ≠ 1 → ¬ (25 ≤ c ∧ c ≤ 31) → ¬ (36 ≤ c ∧ c ≤ 42) → c ≠ 82 → ¬ (91 ≤ c ∧ c ≤ 101) → g c = f c) (o82 : ∀ j, (j < 10 ∨ 19 < j) → g 82 j = f 82 j) (hL : RLw sw' g) (hT : RT g) : RR sw' g := by
  obtain ⟨h1, h2, h3, h4, h5, h6, h7⟩ := hR
  have oo : ∀ c, ((2 ≤ c ∧ c < 25) ∨ c = 0 ∨ (31 < c ∧ c < 36) ∨ (42 < c ∧ c < 82) ∨ (82 < c ∧ c < 91) ∨ 101 < c) → g c = f c := fun c hc => o c (by omega) (by omega) (by omega) (by omega) (by omega)
  exact ⟨hT, h2.cg (oo 4 (by omega)) (oo 6 (by omega)) (oo 86 (by omega)), h3.cg (o82 4 (by omega)) (o82 5 (by omega)) (by rw [oo 32 (by omega)]) (by rw [oo 32 (by omega)]), h4.cg (oo 12 (by omega)) (fun e _ => by rw [oo 13 (by omega)]) (oo 112 (by omega)) (oo 113 (by omega)), hL, h6.cg (fun k hk => oo _ (by omega)) (oo 83 (by omega)), h7.cg (o82 47 (by omega)) (by rw [oo 0 (by omega)]) (fun k hk => oo _ (by omega)) (oo 85 (by omega))⟩
