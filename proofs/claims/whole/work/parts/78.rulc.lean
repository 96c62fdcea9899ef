/-! ===== the rules of a law: the class ===== -/
def St.rst (S : St) : St := (S.p, S.k, S.sg, S.wt, S.su, updN S.dp S.k 0, S.bb)
abbrev hasV (c : Int32) : Prop := c = 114 ∨ c = 119 ∨ c = 108
abbrev isLt (c : Int32) : Prop := hasV c ∨ c = 118 ∨ c = 120
abbrev LLs : Type := (Nat → Int32) × (Nat → Int32) × (Nat → Int32) × (Nat → Int32)
def lsA (L : LLs) (i : Nat) (x : Int32) : LLs := (upd L.1 i x, L.2.1, L.2.2.1, L.2.2.2)
def lsV (L : LLs) (i : Nat) (x : Int32) : LLs := (L.1, upd L.2.1 i x, L.2.2.1, L.2.2.2)
def lsC (L : LLs) (i : Nat) (x : Int32) : LLs := (L.1, L.2.1, upd L.2.2.1 i x, L.2.2.2)
def lsE (L : LLs) (i : Nat) (x : Int32) : LLs := (L.1, L.2.1, L.2.2.1, upd L.2.2.2 i x)
def RUc (t : Nat → Int32) (n i : Nat) (S1 : St) (L : LLs) (r : Except Int32 (St × LLs)) : Prop := ∃ r2 : Except Int32 St, PL t n 6 none 0 S1.rst r2 ∧ ((∃ e, r2 = .error e ∧ r = .error e) ∨ (∃ S2, r2 = .ok S2 ∧ r = .ok (S2, lsE (lsC L i (nI S1.k)) i (nI S2.k))))
def RUL (t : Nat → Int32) (n i : Nat) (S : St) (L : LLs) (r : Except Int32 (St × LLs)) : Prop :=
  (¬ isLt (tx t n S.p) ∧ r = .error (er 1 S.p)) ∨ (isLt (tx t n S.p) ∧ ¬ i < 16 ∧ r = .error (er 4 S.p)) ∨
  (hasV (tx t n S.p) ∧ i < 16 ∧ ∃ r1 : Except Int32 St, PL t n 4 none 0 S.adv.rst r1 ∧ ((∃ e, r1 = .error e ∧ r = .error e) ∨ (∃ S1, r1 = .ok S1 ∧ RUc t n i S1 (lsV (lsA L i (tx t n S.p)) i (nI S.k)) r))) ∨
  (¬ hasV (tx t n S.p) ∧ isLt (tx t n S.p) ∧ i < 16 ∧ RUc t n i S.adv (lsV (lsA L i (tx t n S.p)) i (nI S.k)) r)
theorem RUc.ex {t : Nat → Int32} {n i : Nat} {S1 : St} {L : LLs} (hp : S1.p ≤ n) : ∃ r, RUc t n i S1 L r := by
  obtain ⟨r2, h2⟩ := PL.ex (t := t) (n := n) _ 6 none 0 S1.rst (by decide) (fun _ _ => rfl) hp (Nat.le_refl _)
  cases r2 with
  | error e => exact ⟨_, _, h2, Or.inl ⟨e, rfl, rfl⟩⟩
  | ok S2 => exact ⟨_, _, h2, Or.inr ⟨S2, rfl, rfl⟩⟩
theorem RUL.ex {t : Nat → Int32} {n i : Nat} {S : St} {L : LLs} (hp : S.p ≤ n) : ∃ r, RUL t n i S L r := by
  by_cases h1 : isLt (tx t n S.p)
  · have q := tx_ne1 (P := isLt) h1 (by decide)
    by_cases h2 : i < 16
    · by_cases h3 : hasV (tx t n S.p)
      · obtain ⟨r1, k1⟩ := PL.ex (t := t) (n := n) _ 4 none 0 S.adv.rst (by decide) (fun _ _ => rfl) q (Nat.le_refl _)
        cases r1 with
        | error e => exact ⟨_, Or.inr (Or.inr (Or.inl ⟨h3, h2, _, k1, Or.inl ⟨e, rfl, rfl⟩⟩))⟩
        | ok S1 =>
          obtain ⟨r, hr⟩ := RUc.ex (t := t) (n := n) (i := i) (S1 := S1) (L := lsV (lsA L i (tx t n S.p)) i (nI S.k)) (k1.len _ rfl q).1
          exact ⟨r, Or.inr (Or.inr (Or.inl ⟨h3, h2, _, k1, Or.inr ⟨S1, rfl, hr⟩⟩))⟩
      · obtain ⟨r, hr⟩ := RUc.ex (t := t) (n := n) (i := i) (S1 := S.adv) (L := lsV (lsA L i (tx t n S.p)) i (nI S.k)) q
        exact ⟨r, Or.inr (Or.inr (Or.inr ⟨h3, h1, h2, hr⟩))⟩
    · exact ⟨_, Or.inr (Or.inl ⟨h1, h2, rfl⟩)⟩
  · exact ⟨_, Or.inl ⟨h1, rfl⟩⟩
def COQ (sw : Bool) (f g : FF) : Prop := (∀ c, c ≠ 1 → ¬ (lwR sw ≤ c ∧ c ≤ lwR sw + 6) → g c = f c) ∧ (∀ j, (j < 3 ∨ 5 < j) → g 1 j = f 1 j)
theorem COQ.rf (sw : Bool) (f : FF) : COQ sw f f := ⟨fun _ _ _ => rfl, fun _ _ => rfl⟩
theorem COQ.tr {sw : Bool} {f g h : FF} (a : COQ sw f g) (b : COQ sw g h) : COQ sw f h := ⟨fun c h1 h2 => (b.1 c h1 h2).trans (a.1 c h1 h2), fun j hj => (b.2 j hj).trans (a.2 j hj)⟩
theorem COL.coq {sw : Bool} {f g : FF} (a : COL sw f g) : COQ sw f g := ⟨fun c h1 h2 => a.1 c h1 (by omega) (by omega) (by omega), a.2.1⟩
theorem COQ.up {sw : Bool} {f g : FF} {c j : Nat} {x : Int32} (a : COQ sw f g) (hc : lwR sw ≤ c ∧ c ≤ lwR sw + 6) : COQ sw f (upd2 g c j x) := by
  have q := lwR_or sw
  exact ⟨fun k h1 h2 => by rw [upd2_ne _ _ _ (by omega)]; exact a.1 k h1 h2, fun k hk => by rw [upd2_ne _ _ _ (by omega)]; exact a.2 k hk⟩
def CLV (f : FF) (sw : Bool) (S : St) (L : LLs) : Prop := CLS f f sw S ∧ f (lwR sw + 1) = L.1 ∧ f (lwR sw + 2) = L.2.1 ∧ f (lwR sw + 3) = L.2.2.1 ∧ f (lwR sw + 4) = L.2.2.2
theorem CLV.of {f g : FF} {sw : Bool} {S S' : St} {L : LLs} (h : CLV f sw S L) (e : CLS f g sw S') : CLV g sw S' L := by
  have q := lwR_or sw
  obtain ⟨_, h2, h3, h4, h5⟩ := h
  refine ⟨⟨COL.rf sw g, e.2⟩, ?_, ?_, ?_, ?_⟩
  · rw [e.1.1 _ (by omega) (by omega) (by omega) (by omega)]; exact h2
  · rw [e.1.1 _ (by omega) (by omega) (by omega) (by omega)]; exact h3
  · rw [e.1.1 _ (by omega) (by omega) (by omega) (by omega)]; exact h4
  · rw [e.1.1 _ (by omega) (by omega) (by omega) (by omega)]; exact h5
theorem CLV.up {f : FF} {sw : Bool} {S : St} {L : LLs} {c i : Nat} {x : Int32} (h : CLV f sw S L) (hc : lwR sw + 1 ≤ c ∧ c ≤ lwR sw + 4) : CLS (upd2 f c i x) (upd2 f c i x) sw S := by
  have q := lwR_or sw
  obtain ⟨⟨_, h2, h3, h4, h5⟩, _⟩ := h
  exact ⟨COL.rf _ _, by rw [upd2_ne _ _ _ (by omega)]; exact h2, by rw [upd2_ne _ _ _ (by omega)]; exact h3, by rw [upd2_ne _ _ _ (by omega)]; exact h4, by rw [upd2_ne _ _ _ (by omega)]; exact h5⟩
theorem CLV.sA {f : FF} {sw : Bool} {S : St} {L : LLs} {i : Nat} {x : Int32} (h : CLV f sw S L) : CLV (upd2 f (lwR sw + 1) i x) sw S (lsA L i x) := by
  have u := h.up (c := lwR sw + 1) (i := i) (x := x) (by omega)
  obtain ⟨_, h1, h2, h3, h4⟩ := h
  refine ⟨u, ?_, ?_, ?_, ?_⟩
  · rw [upd2_self, h1]; rfl
  · rw [upd2_ne _ _ _ (by omega)]; exact h2
  · rw [upd2_ne _ _ _ (by omega)]; exact h3
  · rw [upd2_ne _ _ _ (by omega)]; exact h4
theorem CLV.sV {f : FF} {sw : Bool} {S : St} {L : LLs} {i : Nat} {x : Int32} (h : CLV f sw S L) : CLV (upd2 f (lwR sw + 2) i x) sw S (lsV L i x) := by
  have u := h.up (c := lwR sw + 2) (i := i) (x := x) (by omega)
  obtain ⟨_, h1, h2, h3, h4⟩ := h
  refine ⟨u, ?_, ?_, ?_, ?_⟩
  · rw [upd2_ne _ _ _ (by omega)]; exact h1
  · rw [upd2_self, h2]; rfl
  · rw [upd2_ne _ _ _ (by omega)]; exact h3
  · rw [upd2_ne _ _ _ (by omega)]; exact h4
theorem CLV.sC {f : FF} {sw : Bool} {S : St} {L : LLs} {i : Nat} {x : Int32} (h : CLV f sw S L) : CLV (upd2 f (lwR sw + 3) i x) sw S (lsC L i x) := by
  have u := h.up (c := lwR sw + 3) (i := i) (x := x) (by omega)
  obtain ⟨_, h1, h2, h3, h4⟩ := h
  refine ⟨u, ?_, ?_, ?_, ?_⟩
  · rw [upd2_ne _ _ _ (by omega)]; exact h1
  · rw [upd2_ne _ _ _ (by omega)]; exact h2
  · rw [upd2_self, h3]; rfl
  · rw [upd2_ne _ _ _ (by omega)]; exact h4
theorem CLV.sE {f : FF} {sw : Bool} {S : St} {L : LLs} {i : Nat} {x : Int32} (h : CLV f sw S L) : CLV (upd2 f (lwR sw + 4) i x) sw S (lsE L i x) := by
  have u := h.up (c := lwR sw + 4) (i := i) (x := x) (by omega)
  obtain ⟨_, h1, h2, h3, h4⟩ := h
  refine ⟨u, ?_, ?_, ?_, ?_⟩
  · rw [upd2_ne _ _ _ (by omega)]; exact h1
  · rw [upd2_ne _ _ _ (by omega)]; exact h2
  · rw [upd2_ne _ _ _ (by omega)]; exact h3
  · rw [upd2_self, h4]; rfl
theorem TX.oq {sw : Bool} {f g : FF} {n : Nat} (h : TX f n) (a : COQ sw f g) : TX g n ∧ g 90 = f 90 := by
  have q := lwR_or sw
  have e := a.1 90 (by omega) (by omega)
  exact ⟨h.cg (a.2 2 (by omega)) (a.1 2 (by omega) (by omega)) e, e⟩
/-- the condition of a rule -/
theorem RUc.cls {G : GC} {d : Nat} {sw : Bool} {f : FF} {Q : QQ} {n i : Nat} {S1 : St} {L : LLs} {x2 x3 : Int32} {r : Except Int32 (St × LLs)} (hF : RFB G) (ht : TX f n) (hn : n ≤ 240) (hi : i < 16) (h : RUc (f 90) n i S1 L r) (hc : CLV f sw S1 L) (hp : S1.p ≤ n) (hk : S1.k ≤ S1.p) (hd : 40 ≤ d) (hE : ∀ e, r = .error e → ∀ g, COQ sw f g → g 1 5 = e → Q (some (.int 0)) sw g) (hO : ∀ S' L', r = .ok (S', L') → ∀ g, COQ sw f g → CLV g sw S' L' → Q (some (.int 1)) sw g) : XP G mX2_readBracket (d + 4) 0 [.ref 24, .int 0] [] sw (upd2 f (lwR sw + 3) (nI i).toNatClampNeg (f (lwR sw) 1)) (fun v sw' f' => XP G mX2_readRule (d + 5) 146 [.ref 24, .int (nI i), .int x2, .int x3] (retst v []) sw' f' Q) := by
  have q := lwR_or sw
  obtain ⟨r2, h2, h3⟩ := h
  rw [nI_clamp (by omega), hc.1.2.2.1]
  have hc1 := hc.sC (i := i) (x := nI S1.k)
  have o1 : COQ sw f (upd2 f (lwR sw + 3) i (nI S1.k)) := (COQ.rf sw f).up (by omega)
  obtain ⟨ht1, e90⟩ := ht.oq o1
  rw [← e90] at h2
  have vi : vp_in (nI i) 16 := vp_in_nI (by omega) (by omega)
  refine h2.cls (sw := sw) hF ht1 hn (d + 4) _ _ (by simp only [dK]; omega) hc1.1 hp hk (by omega) ?_
  rcases h3 with ⟨e, z1, z2⟩ | ⟨S2, z1, z2⟩
  · subst z1
    exact fun g hg h5 => bX2_readRule_146 (fun z => absurd rfl z) (fun z => absurd rfl z) (fun _ => hE e z2 g (o1.tr hg.coq) h5)
  · subst z1
    intro g hg
    refine bX2_readRule_146 (fun _ => vi) (fun _ => ?_) (fun z => absurd z (by decide))
    rw [nI_clamp (by omega), hg.2.2.1]
    exact hO _ _ z2 _ ((o1.tr hg.1.coq).up (by omega)) ((hc1.of hg).sE)
theorem RUL.cls {G : GC} {d : Nat} {sw : Bool} {f : FF} {Q : QQ} {n i : Nat} {S : St} {L : LLs} {r : Except Int32 (St × LLs)} (hF : RFB G) (ht : TX f n) (hn : n ≤ 240) (hi : i ≤ 16) (h : RUL (f 90) n i S L r) (hc : CLV f sw S L) (hp : S.p ≤ n) (hk : S.k ≤ S.p) (hd : 40 ≤ d) (hE : ∀ e, r = .error e → ∀ g, COQ sw f g → g 1 5 = e → Q (some (.int 0)) sw g) (hO : ∀ S' L', r = .ok (S', L') → ∀ g, COQ sw f g → CLV g sw S' L' → Q (some (.int 1)) sw g) : XP G mX2_readRule (d + 5) 0 [.ref 24, .int (nI i), .null, .null] [] sw f Q := by
  have q := lwR_or sw
  have sg := hc.1.sign ht hp
  have vi : nI i < 16 → vp_in (nI i) 16 := fun z => by
    have := (nI_ltI (b := 16) (by omega) (by omega)).mp z
    exact vp_in_nI (by omega) (by omega)
  have kf : ∀ (w : Nat) (pc : Nat) (x3 : Int32) (R : ∀ (s : Int32) (f' : FF), s = 0 ∨ s = 1 → Q (some (.int s)) sw f' → XP G mX2_readRule (d + 5) pc [.ref 24, .int (nI i), .int (tAt f (f 1 3)), .int x3] [.int s] sw f' Q), r = .error (er w S.p) → XP G mX8_fails (d + 4) 0 [.ref 1, .int (nI w)] [] sw f (fun v sw' f' => XP G mX2_readRule (d + 5) pc [.ref 24, .int (nI i), .int (tAt f (f 1 3)), .int x3] (retst v []) sw' f' Q) :=
    fun w pc x3 R hr => sp_fails (w := w) hc.1.2.1 (fun g o2 e5 => R 0 g (Or.inl rfl) (hE _ hr g (o2.col sw).coq e5))
  have hA : CLV (upd2 f 1 3 (f 1 3 + 1)) sw S.adv L := hc.of hc.1.adv
  have oA : COQ sw f (upd2 f 1 3 (f 1 3 + 1)) := hc.1.adv.1.coq
  have hB := (hA.sA (i := i) (x := tx (f 90) n S.p))
  have hV := (hB.sV (i := i) (x := nI S.k))
  have oV : COQ sw f (upd2 (upd2 (upd2 f 1 3 (f 1 3 + 1)) (lwR sw + 1) i (tx (f 90) n S.p)) (lwR sw + 2) i (nI S.k)) := (oA.up (by omega)).up (by omega)
  have eV : upd2 (upd2 (upd2 f 1 3 ((f 1 3) + 1)) ((lwR sw) + 1) (nI i).toNatClampNeg (tAt f (f 1 3))) ((lwR sw) + 2) (nI i).toNatClampNeg ((upd2 (upd2 f 1 3 ((f 1 3) + 1)) ((lwR sw) + 1) (nI i).toNatClampNeg (tAt f (f 1 3))) (lwR sw) 1) = upd2 (upd2 (upd2 f 1 3 (f 1 3 + 1)) (lwR sw + 1) i (tx (f 90) n S.p)) (lwR sw + 2) i (nI S.k) := by
    rw [nI_clamp (by omega), sg, hB.1.2.2.1]
    rfl
  obtain ⟨htV, e90⟩ := ht.oq oV
  by_cases hl : isLt (tx (f 90) n S.p)
  · have k4 : ∀ x3 : Int32, ¬ nI i < 16 → XP G mX8_fails (d + 4) 0 [.ref 1, .int 4] [] sw f (fun v sw' f' => XP G mX2_readRule (d + 5) 71 [.ref 24, .int (nI i), .int (tAt f (f 1 3)), .int x3] (retst v []) sw' f' Q) := by
      intro x3 z
      have z2 : ¬ i < 16 := fun y => z (nI_lt (b := 16) y (by omega))
      refine kf 4 71 x3 (fun s f' hs hq => bX2_readRule_71 hs hq) ?_
      rcases h with ⟨y, _⟩ | ⟨_, _, y⟩ | ⟨_, y, _⟩ | ⟨_, _, y, _⟩
      · exact absurd hl y
      · exact y
      · exact absurd y z2
      · exact absurd y z2
    by_cases hv : hasV (tx (f 90) n S.p)
    · have kS : nI i < 16 → XP G mX2_readSum (d + 4) 0 [.ref 24, .int 0, .null, .null] [] sw (upd2 (upd2 (upd2 f 1 3 ((f 1 3) + 1)) ((lwR sw) + 1) (nI i).toNatClampNeg (tAt f (f 1 3))) ((lwR sw) + 2) (nI i).toNatClampNeg ((upd2 (upd2 f 1 3 ((f 1 3) + 1)) ((lwR sw) + 1) (nI i).toNatClampNeg (tAt f (f 1 3))) (lwR sw) 1)) (fun v sw' f' => XP G mX2_readRule (d + 5) 120 [.ref 24, .int (nI i), .int (tAt f (f 1 3)), .int 1] (retst v []) sw' f' Q) := by
        intro z
        have z2 : i < 16 := (nI_ltI (b := 16) (by omega) (by omega)).mp z
        have q1 := tx_ne1 (P := isLt) hl (by decide)
        rw [eV]
        rcases h with ⟨y, _⟩ | ⟨_, y, _⟩ | ⟨_, _, r1, y1, y2⟩ | ⟨y, _⟩
        · exact absurd hl y
        · exact absurd z2 y
        · rw [← e90] at y1
          refine y1.cls (sw := sw) hF htV hn (d + 4) _ _ (by simp only [dK]; omega) hV.1 q1 (Nat.le_succ_of_le hk) (by omega) ?_
          rcases y2 with ⟨e, z3, z4⟩ | ⟨S1, z3, z4⟩
          · subst z3
            exact fun g hg h5 => bX2_readRule_120 (fun z => absurd rfl z) (fun z => absurd rfl z) (fun _ => hE e z4 g (oV.tr hg.coq) h5)
          · subst z3
            intro g hg
            have l := y1.len _ rfl q1
            have hcg := hV.of hg
            obtain ⟨htg, e90g⟩ := htV.oq hg.1.coq
            have z5 : RUc (g 90) n i S1 (lsV (lsA L i (tx (f 90) n S.p)) i (nI S.k)) r := by rw [e90g, e90]; exact z4
            have lk : S1.k + (S.p + 1) ≤ S1.p + S.k := l.2.2.1
            exact bX2_readRule_120 (fun _ => vi z) (fun _ => z5.cls hF htg hn z2 hcg l.1 (by omega) hd (fun e he g2 o2 h5 => hE e he g2 ((oV.tr hg.1.coq).tr o2) h5) (fun S' L' he g2 o2 h5 => hO S' L' he g2 ((oV.tr hg.1.coq).tr o2) h5)) (fun z => absurd z (by decide))
        · exact absurd hv y
      have k4 := k4 1
      rcases hv with hz | hz | hz <;> rw [← sg] at hz
      · exact bX2_readRule_0  (fun _ h2 => vi h2) (fun _ h2 => vi h2) (fun _ h2 => kS h2) (fun _ h2 => k4 h2) (fun h => absurd (hz) h) (fun h => absurd (hz) h) (fun h => absurd (hz) h) (fun h => absurd (hz) h) (fun h => absurd (hz) h) (fun h => absurd (hz) h) (fun h => absurd (hz) h) (fun h => absurd (hz) h) (fun h => absurd (hz) h) (fun h => absurd (hz) h) (fun h => absurd (hz) h) (fun h => absurd (hz) h) (fun h => absurd (hz) h) (fun h => absurd (hz) h) (fun h => absurd (hz) h) (fun h => absurd (hz) h) (fun h => absurd (hz) h) (fun h => absurd (hz) h) (fun h => absurd (hz) h)
      · exact bX2_readRule_0  (fun h => absurd h ((by rw [hz]; decide))) (fun h => absurd h ((by rw [hz]; decide))) (fun h => absurd h ((by rw [hz]; decide))) (fun h => absurd h ((by rw [hz]; decide))) (fun _ _ h3 => vi h3) (fun _ _ h3 => vi h3) (fun _ _ h3 => kS h3) (fun _ _ h3 => k4 h3) (fun _ h => absurd (hz) h) (fun _ h => absurd (hz) h) (fun _ h => absurd (hz) h) (fun _ h => absurd (hz) h) (fun _ h => absurd (hz) h) (fun _ h => absurd (hz) h) (fun _ h => absurd (hz) h) (fun _ h => absurd (hz) h) (fun _ h => absurd (hz) h) (fun _ h => absurd (hz) h) (fun _ h => absurd (hz) h) (fun _ h => absurd (hz) h) (fun _ h => absurd (hz) h) (fun _ h => absurd (hz) h) (fun _ h => absurd (hz) h)
      · exact bX2_readRule_0  (fun h => absurd h ((by rw [hz]; decide))) (fun h => absurd h ((by rw [hz]; decide))) (fun h => absurd h ((by rw [hz]; decide))) (fun h => absurd h ((by rw [hz]; decide))) (fun _ h => absurd h ((by rw [hz]; decide))) (fun _ h => absurd h ((by rw [hz]; decide))) (fun _ h => absurd h ((by rw [hz]; decide))) (fun _ h => absurd h ((by rw [hz]; decide))) (fun _ _ h => absurd (hz) h) (fun _ _ h => absurd (hz) h) (fun _ _ h => absurd (hz) h) (fun _ _ h => absurd (hz) h) (fun _ _ h => absurd (hz) h) (fun _ _ h => absurd (hz) h) (fun _ _ h => absurd (hz) h) (fun _ _ h => absurd (hz) h) (fun _ _ h => absurd (hz) h) (fun _ _ h => absurd (hz) h) (fun _ _ h => absurd (hz) h) (fun _ _ _ h4 => vi h4) (fun _ _ _ h4 => vi h4) (fun _ _ _ h4 => kS h4) (fun _ _ _ h4 => k4 h4)
    · have kB : nI i < 16 → XP G mX2_readBracket (d + 4) 0 [.ref 24, .int 0] [] sw (upd2 (upd2 (upd2 (upd2 f 1 3 ((f 1 3) + 1)) ((lwR sw) + 1) (nI i).toNatClampNeg (tAt f (f 1 3))) ((lwR sw) + 2) (nI i).toNatClampNeg ((upd2 (upd2 f 1 3 ((f 1 3) + 1)) ((lwR sw) + 1) (nI i).toNatClampNeg (tAt f (f 1 3))) (lwR sw) 1)) ((lwR sw) + 3) (nI i).toNatClampNeg ((upd2 (upd2 (upd2 f 1 3 ((f 1 3) + 1)) ((lwR sw) + 1) (nI i).toNatClampNeg (tAt f (f 1 3))) ((lwR sw) + 2) (nI i).toNatClampNeg ((upd2 (upd2 f 1 3 ((f 1 3) + 1)) ((lwR sw) + 1) (nI i).toNatClampNeg (tAt f (f 1 3))) (lwR sw) 1)) (lwR sw) 1)) (fun v sw' f' => XP G mX2_readRule (d + 5) 146 [.ref 24, .int (nI i), .int (tAt f (f 1 3)), .int 0] (retst v []) sw' f' Q) := by
        intro z
        have z2 : i < 16 := (nI_ltI (b := 16) (by omega) (by omega)).mp z
        have q1 := tx_ne1 (P := isLt) hl (by decide)
        rw [eV]
        rcases h with ⟨y, _⟩ | ⟨_, y, _⟩ | ⟨y, _⟩ | ⟨_, _, _, y⟩
        · exact absurd hl y
        · exact absurd z2 y
        · exact absurd y hv
        · have y' := y
          have z5 : RUc ((upd2 (upd2 (upd2 f 1 3 (f 1 3 + 1)) (lwR sw + 1) i (tx (f 90) n S.p)) (lwR sw + 2) i (nI S.k)) 90) n i S.adv (lsV (lsA L i (tx (f 90) n S.p)) i (nI S.k)) r := by rw [e90]; exact y'
          exact z5.cls hF htV hn z2 hV q1 (Nat.le_succ_of_le hk) hd (fun e he g2 o2 h5 => hE e he g2 (oV.tr o2) h5) (fun S' L' he g2 o2 h5 => hO S' L' he g2 (oV.tr o2) h5)
      have k4 := k4 0
      have hz2 : tx (f 90) n S.p = 118 ∨ tx (f 90) n S.p = 120 := hl.resolve_left hv
      rcases hz2 with hz | hz <;> rw [← sg] at hz
      · exact bX2_readRule_0  (fun h => absurd h ((by rw [hz]; decide))) (fun h => absurd h ((by rw [hz]; decide))) (fun h => absurd h ((by rw [hz]; decide))) (fun h => absurd h ((by rw [hz]; decide))) (fun _ h => absurd h ((by rw [hz]; decide))) (fun _ h => absurd h ((by rw [hz]; decide))) (fun _ h => absurd h ((by rw [hz]; decide))) (fun _ h => absurd h ((by rw [hz]; decide))) (fun _ _ _ _ h5 => vi h5) (fun _ _ _ _ h5 => vi h5) (fun _ _ _ _ h5 => vi h5) (fun _ _ _ _ h5 => kB h5) (fun _ _ _ _ h5 => k4 h5) (fun _ _ _ h => absurd (hz) h) (fun _ _ _ h => absurd (hz) h) (fun _ _ _ h => absurd (hz) h) (fun _ _ _ h => absurd (hz) h) (fun _ _ _ h => absurd (hz) h) (fun _ _ _ h => absurd (hz) h) (fun _ _ h => absurd h ((by rw [hz]; decide))) (fun _ _ h => absurd h ((by rw [hz]; decide))) (fun _ _ h => absurd h ((by rw [hz]; decide))) (fun _ _ h => absurd h ((by rw [hz]; decide)))
      · exact bX2_readRule_0  (fun h => absurd h ((by rw [hz]; decide))) (fun h => absurd h ((by rw [hz]; decide))) (fun h => absurd h ((by rw [hz]; decide))) (fun h => absurd h ((by rw [hz]; decide))) (fun _ h => absurd h ((by rw [hz]; decide))) (fun _ h => absurd h ((by rw [hz]; decide))) (fun _ h => absurd h ((by rw [hz]; decide))) (fun _ h => absurd h ((by rw [hz]; decide))) (fun _ _ _ h => absurd h ((by rw [hz]; decide))) (fun _ _ _ h => absurd h ((by rw [hz]; decide))) (fun _ _ _ h => absurd h ((by rw [hz]; decide))) (fun _ _ _ h => absurd h ((by rw [hz]; decide))) (fun _ _ _ h => absurd h ((by rw [hz]; decide))) (fun _ _ _ _ _ h6 => vi h6) (fun _ _ _ _ _ h6 => vi h6) (fun _ _ _ _ _ h6 => vi h6) (fun _ _ _ _ _ h6 => kB h6) (fun _ _ _ _ _ h6 => k4 h6) (fun _ _ _ _ h => absurd (hz) h) (fun _ _ h => absurd h ((by rw [hz]; decide))) (fun _ _ h => absurd h ((by rw [hz]; decide))) (fun _ _ h => absurd h ((by rw [hz]; decide))) (fun _ _ h => absurd h ((by rw [hz]; decide)))
  · have k1 : XP G mX8_fails (d + 4) 0 [.ref 1, .int 1] [] sw f (fun v sw' f' => XP G mX2_readRule (d + 5) 56 [.ref 24, .int (nI i), .int (tAt f (f 1 3)), .int 0] (retst v []) sw' f' Q) := by
      refine kf 1 56 0 (fun s f' hs hq => bX2_readRule_56 hs hq) ?_
      rcases h with ⟨_, y⟩ | ⟨y, _⟩ | ⟨y, _⟩ | ⟨_, y, _⟩
      · exact y
      · exact absurd y hl
      · exact absurd (Or.inl y) hl
      · exact absurd y hl
    have n114 : ¬ tAt f (f 1 3) = 114 := fun z => hl (Or.inl (Or.inl (sg.symm.trans z)))
    have n119 : ¬ tAt f (f 1 3) = 119 := fun z => hl (Or.inl (Or.inr (Or.inl (sg.symm.trans z))))
    have n108 : ¬ tAt f (f 1 3) = 108 := fun z => hl (Or.inl (Or.inr (Or.inr (sg.symm.trans z))))
    have n118 : ¬ tAt f (f 1 3) = 118 := fun z => hl (Or.inr (Or.inl (sg.symm.trans z)))
    have n120 : ¬ tAt f (f 1 3) = 120 := fun z => hl (Or.inr (Or.inr (sg.symm.trans z)))
    exact bX2_readRule_0  (fun h => absurd h ((fun z => n114 z))) (fun h => absurd h ((fun z => n114 z))) (fun h => absurd h ((fun z => n114 z))) (fun h => absurd h ((fun z => n114 z))) (fun _ h => absurd h ((fun z => n119 z))) (fun _ h => absurd h ((fun z => n119 z))) (fun _ h => absurd h ((fun z => n119 z))) (fun _ h => absurd h ((fun z => n119 z))) (fun _ _ _ h => absurd h ((fun z => n118 z))) (fun _ _ _ h => absurd h ((fun z => n118 z))) (fun _ _ _ h => absurd h ((fun z => n118 z))) (fun _ _ _ h => absurd h ((fun z => n118 z))) (fun _ _ _ h => absurd h ((fun z => n118 z))) (fun _ _ _ _ h => absurd h ((fun z => n120 z))) (fun _ _ _ _ h => absurd h ((fun z => n120 z))) (fun _ _ _ _ h => absurd h ((fun z => n120 z))) (fun _ _ _ _ h => absurd h ((fun z => n120 z))) (fun _ _ _ _ h => absurd h ((fun z => n120 z))) (fun _ _ _ _ _ => k1 ) (fun _ _ h => absurd h ((fun z => n108 z))) (fun _ _ h => absurd h ((fun z => n108 z))) (fun _ _ h => absurd h ((fun z => n108 z))) (fun _ _ h => absurd h ((fun z => n108 z)))
