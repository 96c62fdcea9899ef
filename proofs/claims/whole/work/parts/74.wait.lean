/-! ===== the reference's waiting signs ===== -/
theorem op_nI4 {c : Int32} {o j : Nat} (ho : o ≤ 14) (hj : j < 1048576) (h : c = nI (1048576 * o + j)) : c / 1048576 = nI o ∧ c - c / 1048576 * 1048576 = nI j := by
  have e : (1048576 : Int32) = nI 1048576 := rfl
  rw [h, e, pk_rem (by omega) (by omega) (by omega), pk_div (by omega) (by omega) (by omega), show (1048576 * o + j) / 1048576 = o by omega, show (1048576 * o + j) % 1048576 = j by omega]
  exact ⟨rfl, rfl⟩
abbrev SkL : Type := List (Nat × Nat)
def SKz (g : Nat → Int32) : SkL → Prop
  | [] => True
  | x :: l => g l.length = nI (1048576 * x.1 + x.2) ∧ x.1 ≤ 14 ∧ x.2 ≤ 240 ∧ SKz g l
def WG : SkL → Nat
  | [] => 0
  | x :: l => (if x.1 ≤ 10 then 1 else 0) + WG l
theorem SKz.cg {g h : Nat → Int32} : ∀ {l : SkL}, SKz g l → (∀ i, i < l.length → h i = g i) → SKz h l
  | [], _, _ => trivial
  | x :: l, ⟨a, b, c, e⟩, hh => ⟨by rw [hh l.length (by simp)]; exact a, b, c, SKz.cg e (fun i hi => hh i (by simp only [List.length_cons]; omega))⟩
theorem SKz.at {g : Nat → Int32} {y : Nat × Nat} {l2 : SkL} : ∀ {l1 : SkL}, SKz g (l1 ++ (y :: l2)) → g l2.length = nI (1048576 * y.1 + y.2) ∧ y.1 ≤ 14 ∧ y.2 ≤ 240
  | [], h => ⟨h.1, h.2.1, h.2.2.1⟩
  | _ :: l1, h => SKz.at (l1 := l1) h.2.2.2
def MOL (f g : FF) : Prop := (∀ c, c ≠ 82 → c ≠ 91 → c ≠ 92 → g c = f c) ∧ ∀ j, j ≠ 11 → j ≠ 13 → j ≠ 14 → j ≠ 15 → j ≠ 16 → j ≠ 17 → g 82 j = f 82 j
theorem MOL.rf (f : FF) : MOL f f := ⟨fun _ _ _ _ => rfl, fun _ _ _ _ _ _ _ => rfl⟩
theorem MOL.tr {f g h : FF} (a : MOL f g) (b : MOL g h) : MOL f h := ⟨fun c h1 h2 h3 => (b.1 c h1 h2 h3).trans (a.1 c h1 h2 h3), fun j h1 h2 h3 h4 h5 h6 => (b.2 j h1 h2 h3 h4 h5 h6).trans (a.2 j h1 h2 h3 h4 h5 h6)⟩
theorem MOL.up {f g : FF} {j : Nat} {x : Int32} (a : MOL f g) (hj : j = 11 ∨ j = 13 ∨ j = 14 ∨ j = 15 ∨ j = 16 ∨ j = 17) : MOL f (upd2 g 82 j x) := ⟨fun c h1 h2 h3 => by rw [upd2_ne _ _ _ h1]; exact a.1 c h1 h2 h3, fun k h1 h2 h3 h4 h5 h6 => by rw [upd2_self, pk_un (by omega)]; exact a.2 k h1 h2 h3 h4 h5 h6⟩
theorem MOL.ux {f g : FF} {c j : Nat} {x : Int32} (a : MOL f g) (hc : c = 91 ∨ c = 92) : MOL f (upd2 g c j x) := ⟨fun k h1 h2 h3 => by rw [upd2_ne _ _ _ (by omega)]; exact a.1 k h1 h2 h3, fun k h1 h2 h3 h4 h5 h6 => by rw [upd2_ne _ _ _ (by omega)]; exact a.2 k h1 h2 h3 h4 h5 h6⟩
theorem MOT.mol {f g : FF} (h : MOT f g) : MOL f g := ⟨fun c h1 _ _ => h.1 c h1, fun j h1 h2 h3 _ _ _ => h.2 j h1 h2 h3⟩
def RFb (f0 f : FF) (S : St) (o : Nat) (st : SkL) : Prop := MOL f0 f ∧ f 82 11 = nI S.p ∧ f 82 16 = nI S.k ∧ f 91 = S.su ∧ f 82 15 = nI o ∧ f 82 17 = nI st.length ∧ SKz (f 92) st
def BDz (n : Nat) (S : St) (o : Nat) (st : SkL) : Prop := S.p ≤ n ∧ st.length ≤ S.p ∧ S.k + WG st ≤ S.p ∧ o ≤ 6
theorem RFb.mx {f0 f : FF} {S : St} {o n : Nat} {st : SkL} (h : RFb f0 f S o st) (h12 : f0 82 12 = nI n) (hn : n ≤ 240) (hp : S.p ≤ n) : MX f n S.p :=
  ⟨by rw [h.1.2 12 (by omega) (by omega) (by omega) (by omega) (by omega) (by omega)]; exact h12, by omega, h.2.1, hp⟩
theorem RFb.n90 {f0 f : FF} {S : St} {o : Nat} {st : SkL} (h : RFb f0 f S o st) : f 90 = f0 90 := h.1.1 90 (by omega) (by omega) (by omega)
theorem RFb.here {f0 f : FF} {S : St} {o n : Nat} {st : SkL} (h : RFb f0 f S o st) (h12 : f0 82 12 = nI n) (hn : n ≤ 240) (hp : S.p ≤ n) : hereF f = tx (f0 90) n S.p := by
  rw [(h.mx h12 hn hp).here, h.n90]
theorem RFb.adv {f0 f : FF} {S : St} {o : Nat} {st : SkL} (h : RFb f0 f S o st) : RFb f0 (upd2 f 82 11 (f 82 11 + 1)) S.adv o st := by
  obtain ⟨h1, h2, h3, h4, h5, h6, h7⟩ := h
  refine ⟨h1.up (by omega), by rw [upd2_self, pk_us, h2, nI_1]; rfl, by rw [upd2_self, pk_un (by omega)]; exact h3, by rw [upd2_ne _ _ _ (by omega)]; exact h4, by rw [upd2_self, pk_un (by omega)]; exact h5, by rw [upd2_self, pk_un (by omega)]; exact h6, by rw [upd2_ne _ _ _ (by omega)]; exact h7⟩
theorem RFb.pop {f0 f : FF} {S : St} {o : Nat} {x : Nat × Nat} {st : SkL} (h : RFb f0 f S o (x :: st)) : RFb f0 (upd2 f 82 17 (f 82 17 - 1)) S o st := by
  obtain ⟨h1, h2, h3, h4, h5, h6, h7⟩ := h
  refine ⟨h1.up (by omega), by rw [upd2_self, pk_un (by omega)]; exact h2, by rw [upd2_self, pk_un (by omega)]; exact h3, by rw [upd2_ne _ _ _ (by omega)]; exact h4, by rw [upd2_self, pk_un (by omega)]; exact h5, ?_, by rw [upd2_ne _ _ _ (by omega)]; exact h7.2.2.2⟩
  rw [upd2_self, pk_us, h6, List.length_cons, ← nI_add]
  exact Int32.add_sub_cancel _ _
theorem RFb.setO {f0 f : FF} {S : St} {o o' : Nat} {x : Int32} {st : SkL} (h : RFb f0 f S o st) (e : x = nI o') : RFb f0 (upd2 f 82 15 x) S o' st := by
  obtain ⟨h1, h2, h3, h4, h5, h6, h7⟩ := h
  exact ⟨h1.up (by omega), by rw [upd2_self, pk_un (by omega)]; exact h2, by rw [upd2_self, pk_un (by omega)]; exact h3, by rw [upd2_ne _ _ _ (by omega)]; exact h4, by rw [upd2_self, pk_us]; exact e, by rw [upd2_self, pk_un (by omega)]; exact h6, by rw [upd2_ne _ _ _ (by omega)]; exact h7⟩
theorem RFb.push {f0 f : FF} {S : St} {o : Nat} {st : SkL} {y : Int32} {a b : Nat} (h : RFb f0 f S o st) (hl : st.length ≤ 240) (hy : y = nI (1048576 * a + b)) (ha : a ≤ 14) (hb : b ≤ 240) : RFb f0 (upd2 (upd2 f 92 ((f 82 17).toNatClampNeg) y) 82 17 (((upd2 f 92 ((f 82 17).toNatClampNeg) y) 82 17) + 1)) S o ((a, b) :: st) := by
  obtain ⟨h1, h2, h3, h4, h5, h6, h7⟩ := h
  rw [upd2_ne f _ _ (show (82 : Nat) ≠ 92 by omega), h6, nI_clamp (by omega), nI_1]
  refine ⟨(h1.ux (by omega)).up (by omega), ?_, ?_, ?_, ?_, ?_, ?_⟩
  · rw [upd2_self, pk_un (by omega), upd2_ne _ _ _ (by omega)]; exact h2
  · rw [upd2_self, pk_un (by omega), upd2_ne _ _ _ (by omega)]; exact h3
  · rw [upd2_ne _ _ _ (by omega), upd2_ne _ _ _ (by omega)]; exact h4
  · rw [upd2_self, pk_un (by omega), upd2_ne _ _ _ (by omega)]; exact h5
  · rw [upd2_self, pk_us]; rfl
  · rw [upd2_ne _ _ _ (by omega), upd2_self]
    exact ⟨by rw [pk_us]; exact hy, ha, hb, h7.cg (fun i hi => pk_un (by omega))⟩
theorem rt_notes {G : GC} {d : Nat} {sw : Bool} {f0 f : FF} {Q : QQ} {S : St} {o : Nat} {st : SkL} {c w x1 : Int32} (h : RFb f0 f S o st) (hk : S.k < 240) (hx : x1 = nI (opc c)) (hQ : ∀ g, RFb f0 g (S.put c w) o st → Q none sw g) : XP G mX11_notes d 0 [.ref 82, .int x1, .int w] [] sw f Q := by
  obtain ⟨h1, h2, h3, h4, h5, h6, h7⟩ := h
  refine bX11_notes_0 (by rw [h3]; exact vp_in_nI (by omega) (by omega)) ?_
  rw [upd2_ne f _ _ (show (82 : Nat) ≠ 91 by omega), h3, nI_clamp (by omega), nI_1, hx]
  refine hQ _ ⟨(h1.ux (by omega)).up (by omega), ?_, ?_, ?_, ?_, ?_, ?_⟩
  · rw [upd2_self, pk_un (by omega), upd2_ne _ _ _ (by omega)]; exact h2
  · rw [upd2_self, pk_us]; rfl
  · rw [upd2_ne _ _ _ (by omega), upd2_self, h4]; rfl
  · rw [upd2_self, pk_un (by omega), upd2_ne _ _ _ (by omega)]; exact h5
  · rw [upd2_self, pk_un (by omega), upd2_ne _ _ _ (by omega)]; exact h6
  · rw [upd2_ne _ _ _ (by omega), upd2_ne _ _ _ (by omega)]; exact h7
def topV : SkL → Int32
  | [] => -1
  | x :: _ => nI x.1
theorem rt_top {G : GC} {d : Nat} {sw : Bool} {f0 f : FF} {Q : QQ} {S : St} {o : Nat} {st : SkL} (h : RFb f0 f S o st) (hl : st.length ≤ 240) (hQ : Q (some (.int (topV st))) sw f) : XP G mX11_waitTop d 0 [.ref 82] [] sw f Q := by
  obtain ⟨h1, h2, h3, h4, h5, h6, h7⟩ := h
  cases st with
  | nil => exact bX11_waitTop_0 (fun z => absurd h6 z) (fun z => absurd h6 z) (fun _ => hQ)
  | cons x l =>
    have hl2 : l.length < 240 := by simp only [List.length_cons] at hl; omega
    have e1 : f 82 17 - 1 = nI l.length := by rw [h6, List.length_cons, ← nI_add]; exact Int32.add_sub_cancel _ _
    have n0 : ¬ f 82 17 = 0 := by
      rw [h6, show (0 : Int32) = nI 0 from rfl, nI_eq (by omega) (by omega)]; simp
    refine bX11_waitTop_0 (fun _ => by rw [e1]; exact vp_in_nI (by omega) (by omega)) (fun _ => ?_) (fun z => absurd z n0)
    rw [e1, nI_clamp (by omega), (op_nI4 h7.2.1 (by have := h7.2.2.1; omega) h7.1).1]
    exact hQ
theorem rt_opens {G : GC} {d : Nat} {sw : Bool} {f0 f : FF} {Q : QQ} {S : St} {o : Nat} {st : SkL} {a : Nat} {x1 : Int32} (h : RFb f0 f S o st) (hl : st.length < 240) (ho : o ≤ 6) (hx : x1 = nI a) (ha : a ≤ 14) (hy : o < 6 → ∀ g, RFb f0 g S.adv (o + 1) ((a, 0) :: st) → Q (some (.int 1)) sw g) (hn : ¬ o < 6 → ∀ g, MOL f0 g → g 82 13 = er 5 S.p → Q (some (.int 0)) sw g) : XP G mX11_opens (d + 1) 0 [.ref 82, .int x1] [] sw f Q := by
  have h6 : (f 82 15 = 6) ↔ o = 6 := by rw [h.2.2.2.2.1, show (6 : Int32) = nI 6 from rfl, nI_eq (by omega) (by omega)]
  have hs : RFb f0 (upd2 f 82 15 (f 82 15 + 1)) S (o + 1) st := h.setO (by rw [h.2.2.2.2.1, nI_1])
  refine bX11_opens_0 (fun _ => by rw [hs.2.2.2.2.2.1]; exact vp_in_nI (by omega) (by omega)) (fun z => ?_) (fun z => ?_)
  · have hp := hs.push (y := 1048576 * x1) (a := a) (b := 0) (by omega) (by rw [hx, show (1048576 : Int32) = nI 1048576 from rfl, pk_mul]; rfl) ha (by omega)
    exact hy (by have := (not_congr h6).mp z; omega) _ hp.adv
  · exact sp_wrongAt (w := 5) h.2.1 (bX11_opens_18 (Or.inl rfl) (hn (by have := h6.mp z; omega) _ (h.1.up (by omega)) (by rw [upd2_self, pk_us])))
def cOf (a : Nat) : Int32 := if a = 2 then 43 else if a = 3 then 45 else if a = 4 then 42 else if a = 5 then 47 else 37
theorem opc_cOf {a : Nat} (h : 2 ≤ a ∧ a ≤ 6) : opc (cOf a) = a := by
  have : a = 2 ∨ a = 3 ∨ a = 4 ∨ a = 5 ∨ a = 6 := by omega
  rcases this with z | z | z | z | z <;> subst z <;> decide
abbrev canP (b : Prop) (a : Nat) : Prop := (4 ≤ a ∧ a ≤ 6) ∨ (b ∧ (a = 2 ∨ a = 3))
def clz (all : Bool) : St → SkL → St × SkL
  | S, [] => (S, [])
  | S, x :: l => if canP (all = true) x.1 then clz all (S.put (cOf x.1) 0) l else (S, x :: l)
def bI (b : Bool) : Int32 := if b then 1 else 0
theorem nI_lt4 {a : Nat} (ha : a ≤ 14) : nI a < 4 ↔ a < 4 := nI_ltI (b := 4) (by omega) (by omega)
theorem nI_le6 {a : Nat} (ha : a ≤ 14) : nI a ≤ 6 ↔ a ≤ 6 := by
  rw [Int32.le_iff_toInt_le, nI_toInt (by omega)]
  show (a : Int) ≤ 6 ↔ _
  omega
theorem nI_eqL {a b : Nat} (ha : a ≤ 14) (hb : b ≤ 14) : nI a = nI b ↔ a = b := nI_eq (by omega) (by omega)
theorem rt_closes {G : GC} {d : Nat} {sw : Bool} {f0 : FF} {Q : QQ} {o : Nat} {all : Bool} : ∀ (st : SkL) (S : St) (f : FF), RFb f0 f S o st → S.k + WG st ≤ 240 → st.length ≤ 240 → (∀ g, RFb f0 g (clz all S st).1 o (clz all S st).2 → Q none sw g) → XP G mX11_closesSums (d + 1) 0 [.ref 82, .int (bI all)] [] sw f Q := by
  intro st
  induction st with
  | nil =>
    intro S f h _ _ hQ
    have hq := hQ f h
    refine bX11_closesSums_0 (rt_top h (by simp) ?_)
    refine bX11_closesSums_4 (fun _ _ => hq) (fun _ _ => rt_top h (by simp) ?_) (fun z => absurd (by decide) z)
    exact bX11_closesSums_25 (fun z => absurd z (by decide)) (fun _ => rt_top h (by simp) (bX11_closesSums_33 (fun _ => hq) (fun z => absurd z (by decide))))
  | cons x l ih =>
    intro S f h hk hl hQ
    have ha := h.2.2.2.2.2.2.2.1
    have hl2 : l.length ≤ 240 := by simp only [List.length_cons] at hl; omega
    unfold WG at hk
    unfold clz at hQ
    have go : canP (all = true) x.1 → XP G mX11_waitTop d 0 [.ref 82] [] sw f (fun v sw' f' => XP G mX11_closesSums (d + 1) 42 [.ref 82, .int (bI all)] (retst v [.ref 82]) sw' f' Q) := by
      intro hc
      rw [if_pos hc] at hQ
      have h26 : 2 ≤ x.1 ∧ x.1 ≤ 6 := by rcases hc with z | z <;> omega
      rw [if_pos (by omega)] at hk
      refine rt_top h hl (bX11_closesSums_42 (rt_notes (c := cOf x.1) h (by omega) (by rw [opc_cOf h26]; rfl) (fun g hg => bX11_closesSums_46 ?_)))
      exact ih _ _ hg.pop (by simp only [St.put_k]; omega) hl2 hQ
    have stop : ¬ canP (all = true) x.1 → Q none sw f := by
      intro hc
      rw [if_neg hc] at hQ
      exact hQ f h
    have t25 : ¬ (4 ≤ x.1 ∧ x.1 ≤ 6) → ¬ bI all = 0 → XP G mX11_waitTop d 0 [.ref 82] [] sw f (fun v sw' f' => XP G mX11_closesSums (d + 1) 25 [.ref 82, .int (bI all)] (retst v []) sw' f' Q) := by
      intro n46 hb
      have hall : all = true := by cases all; exact absurd rfl hb; rfl
      refine rt_top h hl (bX11_closesSums_25 (fun z => go (Or.inr ⟨hall, Or.inl ((nI_eqL (b := 2) ha (by omega)).mp z)⟩)) (fun z2 => rt_top h hl (bX11_closesSums_33 (fun z3 => stop ?_) (fun z => go (Or.inr ⟨hall, Or.inr ((nI_eqL (b := 3) ha (by omega)).mp z)⟩)))))
      rintro (z | ⟨_, z | z⟩)
      · exact n46 z
      · exact z2 (by show nI x.1 = 2; rw [z]; rfl)
      · exact z3 (by show nI x.1 = 3; rw [z]; rfl)
    have s0 : ¬ (4 ≤ x.1 ∧ x.1 ≤ 6) → bI all = 0 → Q none sw f := by
      intro n46 hb
      refine stop ?_
      rintro (z | ⟨z, _⟩)
      · exact n46 z
      · rw [z] at hb; exact absurd hb (by decide)
    refine bX11_closesSums_0 (rt_top h hl ?_)
    refine bX11_closesSums_4 (fun z hb => ?_) (fun z hb => ?_) (fun z => rt_top h hl ?_)
    · have := (nI_lt4 ha).mp z; exact s0 (by omega) hb
    · have := (nI_lt4 ha).mp z; exact t25 (by omega) hb
    · have z1 := (not_congr (nI_lt4 ha)).mp z
      refine bX11_closesSums_12 (fun z => go (Or.inl ⟨by omega, (nI_le6 ha).mp z⟩)) (fun z hb => ?_) (fun z hb => ?_)
      · have := (not_congr (nI_le6 ha)).mp z; exact s0 (by omega) hb
      · have := (not_congr (nI_le6 ha)).mp z; exact t25 (by omega) hb
def hasO (ls : SkL) : Bool := ls.any (fun x => x.1 == 14)
theorem rt_has {G : GC} {d : Nat} {sw : Bool} {f0 f : FF} {Q : QQ} {S : St} {o : Nat} {ls bst : SkL} (h : RFb f0 f S o (ls ++ bst)) (hl : (ls ++ bst).length ≤ 240) (hQ : Q (some (.int (bI (hasO ls)))) sw f) : XP G mX11_hasOpenSum d 0 [.ref 82, .int (nI bst.length), .null] [] sw f Q := by
  have key : ∀ (m : Nat) (l1 l2 : SkL), l1.length = m → ls = l1 ++ l2 → hasO l2 = false → XP G mX11_hasOpenSum d 2 [.ref 82, .int (nI bst.length), .int (nI (l2 ++ bst).length)] [] sw f Q := by
    intro m
    induction m with
    | zero =>
      intro l1 l2 h1 h2 h3
      have : l1 = [] := List.eq_nil_of_length_eq_zero h1
      subst this
      rw [List.nil_append] at h2
      subst h2
      rw [h3] at hQ
      have le : f 82 17 ≤ nI (ls ++ bst).length := by rw [h.2.2.2.2.2.1]; exact Int32.le_refl _
      exact bX11_hasOpenSum_2 (fun _ => hQ) (fun z => absurd le z) (fun z => absurd le z) (fun z => absurd le z)
    | succ m ih =>
      intro l1 l2 h1 h2 h3
      rcases List.eq_nil_or_concat l1 with z | ⟨l1', y, z⟩
      · subst z; simp at h1
      · subst z
        have hs := h.2.2.2.2.2.2
        have e1 : ls ++ bst = l1' ++ (y :: (l2 ++ bst)) := by rw [h2]; simp
        rw [e1] at hs
        have ha := hs.at
        have hlen : (ls ++ bst).length = l1'.length + ((l2 ++ bst).length + 1) := by rw [e1, List.length_append, List.length_cons]
        have nle : ¬ f 82 17 ≤ nI (l2 ++ bst).length := by
          rw [h.2.2.2.2.2.1]
          exact nI_ge (by omega) (by omega)
        have eo : f 92 (nI (l2 ++ bst).length).toNatClampNeg / 1048576 = nI y.1 := by
          rw [nI_clamp (by omega)]
          exact (op_nI4 ha.2.1 (by omega) ha.1).1
        refine bX11_hasOpenSum_2 (fun z => absurd z nle) (fun _ => vp_in_nI (by omega) (by omega)) (fun _ z => ?_) (fun _ z => ?_)
        · rw [eo] at z
          have ny : ¬ y.1 = 14 := fun q => z (by rw [q]; rfl)
          rw [nI_1]
          refine ih l1' (y :: l2) (by simp at h1; omega) (by rw [h2]; simp) ?_
          unfold hasO at h3 ⊢
          rw [List.any_cons, h3]
          simp [ny]
        · rw [eo] at z
          have ny : y.1 = 14 := (nI_eqL (b := 14) ha.2.1 (by omega)).mp z
          have : hasO ls = true := by
            unfold hasO
            rw [h2]
            simp [ny]
          rw [this] at hQ
          exact hQ
  refine bX11_hasOpenSum_0 ?_
  have := key ls.length ls [] rfl (by simp) rfl
  simpa using this
/-- signs that the next sign closes -/
def CLq (b : Prop) (S : St) (ls : SkL) : SkL → St → Prop
  | [], S0 => S0 = S ∧ ls = []
  | x :: l, S0 => (S0 = S ∧ ls = x :: l) ∨ (canP b x.1 ∧ CLq b S ls l (S0.put (cOf x.1) 0))
theorem CLq.rf {b : Prop} {S : St} : ∀ {ls : SkL}, CLq b S ls ls S
  | [] => ⟨rfl, rfl⟩
  | _ :: _ => Or.inl ⟨rfl, rfl⟩
theorem CLq.step {b : Prop} {S : St} {x : Nat × Nat} {ls : SkL} (hx : canP b x.1) : ∀ {ls0 : SkL} {S0 : St}, CLq b S (x :: ls) ls0 S0 → CLq b (S.put (cOf x.1) 0) ls ls0 S0
  | [], _, h => absurd h.2 (by simp)
  | y :: l, S0, h => by
    rcases h with ⟨h1, h2⟩ | ⟨h1, h2⟩
    · injection h2 with a c
      subst a c h1
      exact Or.inr ⟨hx, CLq.rf⟩
    · exact Or.inr ⟨h1, CLq.step hx h2⟩
theorem CLq.mono {b b' : Prop} (hb : b → b') {S : St} {ls : SkL} : ∀ {ls0 : SkL} {S0 : St}, CLq b S ls ls0 S0 → CLq b' S ls ls0 S0
  | [], _, h => h
  | _ :: _, _, h => h.imp id (fun z => ⟨z.1.imp id (fun q => ⟨hb q.1, q.2⟩), CLq.mono hb z.2⟩)
theorem CLq.eq {all : Bool} {S : St} {ls bst : SkL} : ∀ {ls0 : SkL} {S0 : St}, CLq (all = true) S ls ls0 S0 → clz all S0 (ls0 ++ bst) = clz all S (ls ++ bst)
  | [], _, h => by rw [h.1, h.2]
  | x :: l, S0, h => by
    rcases h with ⟨h1, h2⟩ | ⟨h1, h2⟩
    · rw [h1, h2]
    · rw [List.cons_append]
      conv => lhs; unfold clz
      rw [if_pos h1]
      exact CLq.eq h2
theorem CLq.inv {b : Prop} {S : St} {ls : SkL} : ∀ {ls0 : SkL} {S0 : St}, CLq b S ls ls0 S0 → S0.p = S.p ∧ hasO ls0 = hasO ls
  | [], _, h => by rw [h.1, h.2]; exact ⟨rfl, rfl⟩
  | x :: l, S0, h => by
    rcases h with ⟨h1, h2⟩ | ⟨h1, h2⟩
    · rw [h1, h2]; exact ⟨rfl, rfl⟩
    · have r := CLq.inv h2
      have ne : ¬ x.1 = 14 := by rcases h1 with z | z <;> omega
      refine ⟨r.1, ?_⟩
      rw [← r.2]
      unfold hasO
      rw [List.any_cons]
      simp [ne]
