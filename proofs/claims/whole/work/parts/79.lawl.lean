/-! ===== a law: all its rules; the class's loop ===== -/
theorem RUc.ok {t : Nat → Int32} {n i : Nat} {S1 S' : St} {L L' : LLs} (h : RUc t n i S1 L (.ok (S', L'))) (hp : S1.p ≤ n) (hk : S1.k ≤ S1.p) : S1.p < S'.p ∧ S'.p ≤ n ∧ S'.k ≤ S'.p := by
  obtain ⟨r2, h2, ⟨e, _, z⟩ | ⟨S2, z1, z2⟩⟩ := h
  · exact absurd z (by simp)
  · subst z1
    have e1 := Except.ok.inj z2
    have e2 : S' = S2 := congrArg Prod.fst e1
    subst e2
    have l := h2.len _ rfl hp
    have l2 := l.2.2.2 (by decide)
    have a : S1.p < S'.p := l2.1
    have b : S'.k + S1.p ≤ S'.p + S1.k := l.2.2.1
    exact ⟨a, l.1, by omega⟩
theorem RUL.ok {t : Nat → Int32} {n i : Nat} {S S' : St} {L L' : LLs} (h : RUL t n i S L (.ok (S', L'))) (hp : S.p ≤ n) (hk : S.k ≤ S.p) : i < 16 ∧ S.p < S'.p ∧ S'.p ≤ n ∧ S'.k ≤ S'.p := by
  rcases h with ⟨_, z⟩ | ⟨_, _, z⟩ | ⟨h1, h2, r1, k1, ⟨e, _, z⟩ | ⟨S1, z1, z2⟩⟩ | ⟨_, h1, h2, z⟩
  · exact absurd z (by simp)
  · exact absurd z (by simp)
  · exact absurd z (by simp)
  · subst z1
    have q := tx_ne1 (P := hasV) h1 (by decide)
    have l := k1.len _ rfl q
    have a : S.p + 1 < S1.p := (l.2.2.2 (by decide)).1
    have b : S1.k + (S.p + 1) ≤ S1.p + S.k := l.2.2.1
    have c := z2.ok l.1 (by omega)
    exact ⟨h2, by omega, c.2⟩
  · have q := tx_ne1 (P := isLt) h1 (by decide)
    have c := z.ok (S1 := S.adv) q (Nat.le_succ_of_le hk)
    have a : S.p + 1 < S'.p := c.1
    exact ⟨h2, by omega, c.2⟩
def LWz (t : Nat → Int32) (n : Nat) : Nat → Nat → St → LLs → Except Int32 (St × LLs × Nat) → Prop
  | 0, _, _, _, _ => False
  | m + 1, i, S, L, r => ∃ ru, RUL t n i S L ru ∧ ((∃ e, ru = .error e ∧ r = .error e) ∨ (∃ S' L', ru = .ok (S', L') ∧ ((n ≤ S'.p ∧ r = .ok (S', L', i + 1)) ∨ (S'.p < n ∧ ¬ tx t n S'.p = 59 ∧ r = .error (er 1 S'.p)) ∨ (S'.p < n ∧ tx t n S'.p = 59 ∧ LWz t n m (i + 1) S'.adv L' r))))
theorem LWz.ex {t : Nat → Int32} {n : Nat} : ∀ (m i : Nat) (S : St) (L : LLs), m + i = 17 → i ≤ 16 → S.p ≤ n → S.k ≤ S.p → ∃ r, LWz t n m i S L r := by
  intro m
  induction m with
  | zero => intro i S L h1 h2; omega
  | succ m ih =>
    intro i S L h1 h2 hp hk
    obtain ⟨ru, hu⟩ := RUL.ex (t := t) (n := n) (i := i) (S := S) (L := L) hp
    cases ru with
    | error e => exact ⟨_, _, hu, Or.inl ⟨e, rfl, rfl⟩⟩
    | ok w =>
      obtain ⟨S', L'⟩ := w
      have o := hu.ok hp hk
      rcases Nat.lt_or_ge S'.p n with z | z
      · by_cases h5 : tx t n S'.p = 59
        · obtain ⟨r, hr⟩ := ih (i + 1) S'.adv L' (by omega) (by omega) z (Nat.le_succ_of_le o.2.2.2)
          exact ⟨r, _, hu, Or.inr ⟨S', L', rfl, Or.inr (Or.inr ⟨z, h5, hr⟩)⟩⟩
        · exact ⟨_, _, hu, Or.inr ⟨S', L', rfl, Or.inr (Or.inl ⟨z, h5, rfl⟩)⟩⟩
      · exact ⟨_, _, hu, Or.inr ⟨S', L', rfl, Or.inl ⟨z, rfl⟩⟩⟩
theorem CLV.s0 {f : FF} {sw : Bool} {S : St} {L : LLs} {x : Int32} (h : CLV f sw S L) : CLV (upd2 f (lwR sw) 0 x) sw S L := by
  have q := lwR_or sw
  obtain ⟨⟨_, h2, h3, h4, h5⟩, k1, k2, k3, k4⟩ := h
  exact ⟨⟨COL.rf _ _, by rw [upd2_ne _ _ _ (by omega)]; exact h2, by rw [upd2_self, pk_un (by omega)]; exact h3, by rw [upd2_ne _ _ _ (by omega)]; exact h4, by rw [upd2_ne _ _ _ (by omega)]; exact h5⟩, by rw [upd2_ne _ _ _ (by omega)]; exact k1, by rw [upd2_ne _ _ _ (by omega)]; exact k2, by rw [upd2_ne _ _ _ (by omega)]; exact k3, by rw [upd2_ne _ _ _ (by omega)]; exact k4⟩
theorem LWz.cls {G : GC} {d : Nat} {sw : Bool} {Q : QQ} {n : Nat} {r : Except Int32 (St × LLs × Nat)} (hF : RFB G) (hn : n ≤ 240) (hd : 40 ≤ d) : ∀ (m i : Nat) (S : St) (L : LLs) (f : FF), m + i = 17 → i ≤ 16 → TX f n → LWz (f 90) n m i S L r → CLV f sw S L → S.p ≤ n → S.k ≤ S.p → (∀ e, r = .error e → ∀ g, COQ sw f g → Q (some (.int e)) sw g) → (∀ S' L' k, r = .ok (S', L', k) → ∀ g, COQ sw f g → CLV g sw S' L' → g (lwR sw) 0 = nI k → Q (some (.int (nI k))) sw g) → XP G mX2_readLaw (d + 6) 18 [.ref 24, .int (nI i)] [] sw f Q := by
  intro m
  induction m with
  | zero => intro i S L f h1 h2; omega
  | succ m ih =>
    intro i S L f h1 h2 ht hw hc hp hk hE hO
    have q := lwR_or sw
    obtain ⟨ru, hu, hr⟩ := hw
    have n16 : ¬ (16 : Int32) < nI i := fun z => by
      have := Int32.lt_iff_toInt_lt.mp z
      rw [nI_toInt (by omega), show (16 : Int32).toInt = 16 from rfl] at this
      omega
    refine bX2_readLaw_18 (fun z => absurd z n16) (fun _ => ?_)
    refine hu.cls hF ht hn h2 hc hp hk hd (fun e he g o2 h5 => ?_) (fun S' L' he g o2 hg => ?_)
    · subst he
      rcases hr with ⟨e', z1, z2⟩ | ⟨_, _, z1, _⟩
      · have := Except.error.inj z1
        subst this
        refine bX2_readLaw_29 (fun z => absurd rfl z) (fun z => absurd rfl z) (fun _ => ?_)
        rw [h5]
        exact hE _ z2 g o2
      · exact absurd z1 (by simp)
    · subst he
      have o := hu.ok hp hk
      rcases hr with ⟨e', z1, _⟩ | ⟨S1, L1, z1, z2⟩
      · exact absurd z1 (by simp)
      · have e1 := Except.ok.inj z1
        have e2 : S' = S1 := congrArg Prod.fst e1
        have e3 : L' = L1 := congrArg Prod.snd e1
        subst e2 e3
        have hg0 := hg.s0 (x := nI i + 1)
        have og : COQ sw f (upd2 g (lwR sw) 0 (nI i + 1)) := o2.up (by omega)
        obtain ⟨tg, e90⟩ := ht.oq og
        have sg := hg0.1.sign tg o.2.2.1
        have e0 : (upd2 g (lwR sw) 0 (nI i + 1)) (lwR sw) 0 = nI (i + 1) := by rw [upd2_self, pk_us, nI_1]
        rw [e90] at sg
        refine bX2_readLaw_29 (fun _ z => ?_) (fun _ z => ?_) (fun z => absurd z (by decide))
        · have hlt : S'.p < n := by
            rcases Nat.lt_or_ge S'.p n with y | y
            · exact y
            · exact absurd (sg.trans (tx_m1.mpr y)) z
          refine sp_passes tg hg0.1.2.1 o.2.2.1 (by decide) (fun y g2 o3 e3 => bX2_readLaw_78 (fun _ => ?_) (fun z => absurd z (by decide))) (fun y g2 o3 e5 => bX2_readLaw_78 (fun z => absurd rfl z) (fun _ => ?_))
          · rw [e90] at y
            rcases z2 with ⟨y2, _⟩ | ⟨_, y2, _⟩ | ⟨_, _, y2⟩
            · omega
            · exact absurd y y2
            · have hc2 := hg0.of (hg0.1.ot o3 e3)
              have o4 := og.tr (o3.col sw).coq
              obtain ⟨t4, e94⟩ := ht.oq o4
              rw [nI_1]
              exact ih (i + 1) S'.adv L' g2 (by omega) (by omega) t4 (by rw [e94]; exact y2) hc2 hlt (Nat.le_succ_of_le o.2.2.2) (fun e he g3 o5 => hE e he g3 (o4.tr o5)) (fun S2 L2 k2 he g3 o5 h6 h7 => hO S2 L2 k2 he g3 (o4.tr o5) h6 h7)
          · rw [e90] at y
            rw [e5]
            rcases z2 with ⟨y2, _⟩ | ⟨_, _, y2⟩ | ⟨_, y2, _⟩
            · omega
            · exact hE _ y2 g2 (og.tr (o3.col sw).coq)
            · exact absurd y2 y
        · have hge : n ≤ S'.p := tx_m1.mp (sg.symm.trans z)
          rw [e0]
          rcases z2 with ⟨_, y2⟩ | ⟨y2, _⟩ | ⟨y2, _⟩
          · exact hO _ _ _ y2 _ og hg0 e0
          · omega
          · omega
