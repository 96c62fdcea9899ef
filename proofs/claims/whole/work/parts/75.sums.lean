/-! ===== the reference reads sums ===== -/
theorem sp_readsNumber {G : GC} {d : Nat} {sw : Bool} {f : FF} {Q : QQ} {n p : Nat} (ht : MX f n p) (c : dg (f 90) n p) (hE : ∀ (e : Int32) (g : FF), numR (f 90) n p = .error e → MOT f g → g 82 13 = e → Q (some (.int 0)) sw g) (hO : ∀ (p' : Nat) (v : Int32) (g : FF), numR (f 90) n p = .ok (p', v) → p ≤ p' → MOT f g → MX g n p' → g 82 14 = v → Q (some (.int 1)) sw g) : XP G mX11_readsNumber (d + 2) 0 [.ref 82, .null] [] sw f Q := by
  obtain ⟨t1, h260, t3, t4⟩ := id ht
  have a0 := ht.here
  have hr : numR (f 90) n p = numL (f 90) n p 5 0 := if_pos c
  have loop : ∀ (r k : Nat) (g : FF), k + r = 5 → MOT f g → MX g n (p + k) → g 82 14 = nv (f 90) n p k → numR (f 90) n p = numL (f 90) n p r k → XP G mX11_readsNumber (d + 2) 10 [.ref 82, .int (nI p)] [] sw g Q := by
    intro r
    induction r with
    | zero =>
      intro k g hk og hM g4 hr
      have e1 : k = 5 := by omega
      subst e1
      have ag : hereF g = tx (f 90) n (p + 5) := by rw [hM.here, og.1 90 (by omega)]
      have e5 : g 82 11 = nI p + 5 := by rw [hM.2.2.1, show (5 : Int32) = nI 5 from rfl, nI_add]
      unfold numL at hr
      refine bX11_readsNumber_10 hM.vp (fun h => ?_) (fun _ h => absurd e5 h) (fun _ h => absurd e5 h) (fun h _ => ?_)
      · rw [ag] at h
        rw [if_neg h] at hr
        exact hO _ _ g hr (by omega) og hM g4
      · rw [ag] at h
        rw [if_pos h] at hr
        exact sp_wrongAt (w := 2) hM.2.2.1 (bX11_readsNumber_36 (Or.inl rfl) (hE _ _ hr (og.up (by omega)) (by rw [upd2_self, pk_us])))
    | succ r ih =>
      intro k g hk og hM g4 hr
      have ag : hereF g = tx (f 90) n (p + k) := by rw [hM.here, og.1 90 (by omega)]
      have ne5 : ¬ g 82 11 = nI p + 5 := by
        rw [hM.2.2.1, show (5 : Int32) = nI 5 from rfl, nI_add, nI_eq (by have := hM.2.2.2; omega) (by omega)]
        omega
      unfold numL at hr
      refine bX11_readsNumber_10 hM.vp (fun h => ?_) (fun _ _ => hM.vp) (fun h _ => ?_) (fun _ h => absurd h ne5)
      · rw [ag] at h
        rw [if_neg h] at hr
        exact hO _ _ g hr (by omega) og hM g4
      · rw [ag] at h
        rw [if_pos h] at hr
        have := dg_in h
        refine ih (k + 1) _ (by omega) ((og.up (by omega)).up (by omega)) ⟨?_, h260, ?_, by omega⟩ ?_ hr
        · rw [upd2_self, pk_un (by omega), upd2_self, pk_un (by omega)]; exact hM.1
        · rw [upd2_self, pk_us, upd2_self, pk_un (by omega), hM.2.2.1, nI_1]
          rfl
        · rw [upd2_self, pk_un (by omega), upd2_self, pk_us, ag, g4]
          rfl
  refine bX11_readsNumber_0 ?_
  rw [t3]
  refine loop 5 0 _ (by omega) ((MOT.rf f).up (by omega)) ⟨?_, h260, ?_, by omega⟩ ?_ hr
  · rw [upd2_self, pk_un (by omega)]; exact t1
  · rw [upd2_self, pk_un (by omega), t3]
    rfl
  · rw [upd2_self, pk_us]
    rfl
theorem sp_factOf {G : GC} {d : Nat} {sw : Bool} {f : FF} {Q : QQ} {x0 : Int32} (hQ : Q (some (.int (fx x0))) sw f) : XP G mX11_factOf d 0 [.int x0] [] sw f Q := by
  refine bX11_factOf_0 ?_ ?_ ?_ ?_ ?_ ?_ ?_ ?_ ?_ ?_ ?_ ?_ ?_ ?_ ?_ ?_ ?_ ?_ ?_ ?_ ?_
  all_goals first
    | (intro z; subst z; exact hQ)
    | (intros; unfold fx at hQ; simp only [*, if_false] at hQ; exact hQ)
def sgz (c : Int32) : Int32 := if isS c ∨ isT c then nI (opc c) else -1
theorem sp_sumSign {G : GC} {d : Nat} {sw : Bool} {f : FF} {Q : QQ} {x0 : Int32} (hQ : Q (some (.int (sgz x0))) sw f) : XP G mX11_sumSign d 0 [.int x0] [] sw f Q := by
  refine bX11_sumSign_0 (fun a b c d e => ?_) (fun _ _ _ _ z => ?_) (fun _ _ _ z => ?_) (fun _ _ z => ?_) (fun _ z => ?_) (fun z => ?_)
  · have : sgz x0 = -1 := if_neg (by rintro ((z | z) | z | z | z) <;> contradiction)
    rw [this] at hQ; exact hQ
  all_goals (subst z; exact hQ)
def RZS (f0 f : FF) (n : Nat) (S : St) (o : Nat) (st : SkL) : Prop := RFb f0 f S o st ∧ BDz n S o st
def Erz (f0 : FF) (sw : Bool) (Q : QQ) (e : Int32) : Prop := ∀ g, MOL f0 g → g 82 13 = e → Q (some (.int 0)) sw g
def SLv (G : GC) (d : Nat) (sw : Bool) (f0 : FF) (n : Nat) (bst : SkL) (Q : QQ) (o : Nat) (S : St) (ls : SkL) : Prop := ∀ (S0 : St) (ls0 : SkL) (f : FF) (v2 : Value), CLq (¬ isT (tx (f0 90) n S.p)) S ls ls0 S0 → RZS f0 f n S0 o (ls0 ++ bst) → XP G mX11_readsSum (d + 4) 14 [.ref 82, .int (nI bst.length), v2] [] sw f Q
def FCz (G : GC) (d : Nat) (sw : Bool) (f0 : FF) (n : Nat) (bst : SkL) (Q : QQ) (o : Nat) (S : St) (ls : SkL) : Prop := ∀ (f : FF) (v1 : Value) (Qf : QQ), RZS f0 f n S o (ls ++ bst) → (∀ g, (∀ v2, XP G mX11_readsSum (d + 4) 14 [.ref 82, .int (nI bst.length), v2] [] sw g Q) → Qf (some (.int 1)) sw g) → (∀ g, Q (some (.int 0)) sw g → Qf (some (.int 0)) sw g) → XP G mX11_readsFactor (d + 3) 0 [.ref 82, v1] [] sw f Qf
def nTp (lo : Nat) (l : SkL) : Prop := ∀ x l', l = x :: l' → ¬ (lo ≤ x.1 ∧ x.1 ≤ 6)
theorem clz_f {S : St} : ∀ {l : SkL}, nTp 4 l → clz false S l = (S, l)
  | [], _ => rfl
  | x :: l, h => if_neg (by rintro (z | ⟨z, _⟩); exact h x l rfl z; exact absurd z (by decide))
theorem clz_t {S : St} : ∀ {l : SkL}, nTp 2 l → clz true S l = (S, l)
  | [], _ => rfl
  | x :: l, h => if_neg (by rintro (z | ⟨_, z⟩) <;> exact h x l rfl (by omega))
theorem nTp_cons {lo : Nat} {x : Nat × Nat} {l : SkL} (h : ¬ (lo ≤ x.1 ∧ x.1 ≤ 6)) : nTp lo (x :: l) := fun y l' e => by injection e with a b; subst a; exact h
theorem nTp.up {l : SkL} (h : nTp 2 l) : nTp 4 l := fun x l' e z => h x l' e ⟨by omega, z.2⟩
def rsz (G : GC) (d : Nat) (sw : Bool) (f0 : FF) (n : Nat) (bst : SkL) (Q : QQ) (o : Nat) (ls : SkL) : Except Int32 St → Prop
  | .ok S' => SLv G d sw f0 n bst Q o S' ls
  | .error e => Erz f0 sw Q e
def MZz (G : GC) (d : Nat) (sw : Bool) (f0 : FF) (n : Nat) (bst : SkL) (Q : QQ) (K o : Nat) (S : St) (r : Except Int32 St) : Prop := match K with
  | 0 => ∀ ls, rsz G d sw f0 n bst Q o ls r → FCz G d sw f0 n bst Q o S ls
  | 1 => ∀ ls, nTp 4 (ls ++ bst) → rsz G d sw f0 n bst Q o ls r → SLv G d sw f0 n bst Q o S ls
  | 2 => ∀ ls, nTp 4 (ls ++ bst) → rsz G d sw f0 n bst Q o ls r → FCz G d sw f0 n bst Q o S ls
  | 3 => ∀ ls, nTp 2 (ls ++ bst) → rsz G d sw f0 n bst Q o ls r → SLv G d sw f0 n bst Q o S ls
  | 4 => ∀ ls, nTp 2 (ls ++ bst) → rsz G d sw f0 n bst Q o ls r → FCz G d sw f0 n bst Q o S ls
  | _ => True
/-- which sign a part ends before -/
def EDz (t : Nat → Int32) (n K : Nat) (S S' : St) : Prop := match K with
  | 1 => ¬ isT (tx t n S'.p)
  | 2 => ¬ isT (tx t n S'.p)
  | 3 => ¬ isT (tx t n S.p) → ¬ isT (tx t n S'.p) ∧ ¬ isS (tx t n S'.p)
  | 4 => ¬ isT (tx t n S'.p) ∧ ¬ isS (tx t n S'.p)
  | 8 => ¬ tx t n S'.p = 38
  | 9 => ¬ tx t n S'.p = 38
  | 10 => ¬ tx t n S.p = 38 → ¬ tx t n S'.p = 38 ∧ ¬ tx t n S'.p = 124
  | 11 => ¬ tx t n S'.p = 38 ∧ ¬ tx t n S'.p = 124
  | _ => True
theorem PL.edz {t : Nat → Int32} {n : Nat} {K : Nat} {J : Option Nat} {o : Nat} {S : St} {r : Except Int32 St} (h : PL t n K J o S r) : ∀ S', r = .ok S' → EDz t n K S S' := by
  refine PL.ind (M := fun K J o S r => ∀ S', r = .ok S' → EDz t n K S S') h ?facB ?facX ?facE ?facO ?facL ?facN ?facM ?prodO ?prodE ?prodZ ?prodS ?prodF ?sumO ?sumE ?sumZ ?sumS ?sumF ?comE ?comX ?comF ?comO ?tB ?tO ?tE ?tN ?tC ?bX ?bO ?bE ?bC ?bF ?parO ?parE ?parZ ?parS ?parF ?conO ?conE ?conZ ?conS ?conF
  case prodO =>
    intro o S S1 r _ _ i1 i2
    intro S' hr
    exact i2 S' hr
  case prodZ =>
    intro o S h1
    intro S' hr; cases hr
    exact h1
  case prodS =>
    intro o S S1 r h1 _ _ i1 i2
    intro S' hr
    exact i2 S' hr
  case sumO =>
    intro o S S1 r _ _ i1 i2
    intro S' hr
    exact i2 S' hr (i1 _ rfl)
  case sumZ =>
    intro o S h1
    intro S' hr; cases hr
    exact fun z => ⟨z, h1⟩
  case sumS =>
    intro o S S1 r h1 _ _ i1 i2
    intro S' hr
    exact fun _ => i2 S' hr (i1 S1 rfl)
  case parO =>
    intro o S S1 r _ _ i1 i2
    intro S' hr
    exact i2 S' hr
  case parZ =>
    intro o S j h1
    intro S' hr; cases hr
    show ¬ tx t n (S.land j).p = 38
    rw [St.land_p]; exact h1
  case parS =>
    intro o S S1 j r h1 _ _ i1 i2
    intro S' hr
    exact i2 S' hr
  case conO =>
    intro o S S1 r _ _ i1 i2
    intro S' hr
    exact i2 S' hr (i1 _ rfl)
  case conZ =>
    intro o S j h1
    intro S' hr; cases hr
    show _ → ¬ tx t n (S.land j).p = 38 ∧ ¬ tx t n (S.land j).p = 124
    rw [St.land_p]; exact fun z => ⟨z, h1⟩
  case conS =>
    intro o S S1 j r h1 _ _ i1 i2
    intro S' hr
    exact fun _ => i2 S' hr (i1 S1 rfl)
  case facB => intros; first | contradiction | exact trivial
  case facX => intros; first | contradiction | exact trivial
  case facE => intros; first | contradiction | exact trivial
  case facO => intros; first | contradiction | exact trivial
  case facL => intros; first | contradiction | exact trivial
  case facN => intros; first | contradiction | exact trivial
  case facM => intros; first | contradiction | exact trivial
  case prodE => intros; first | contradiction | exact trivial
  case prodF => intros; first | contradiction | exact trivial
  case sumE => intros; first | contradiction | exact trivial
  case sumF => intros; first | contradiction | exact trivial
  case comE => intros; first | contradiction | exact trivial
  case comX => intros; first | contradiction | exact trivial
  case comF => intros; first | contradiction | exact trivial
  case comO => intros; first | contradiction | exact trivial
  case tB => intros; first | contradiction | exact trivial
  case tO => intros; first | contradiction | exact trivial
  case tE => intros; first | contradiction | exact trivial
  case tN => intros; first | contradiction | exact trivial
  case tC => intros; first | contradiction | exact trivial
  case bX => intros; first | contradiction | exact trivial
  case bO => intros; first | contradiction | exact trivial
  case bE => intros; first | contradiction | exact trivial
  case bC => intros; first | contradiction | exact trivial
  case bF => intros; first | contradiction | exact trivial
  case parE => intros; first | contradiction | exact trivial
  case parF => intros; first | contradiction | exact trivial
  case conE => intros; first | contradiction | exact trivial
  case conF => intros; first | contradiction | exact trivial
theorem tx_ne1 {t : Nat → Int32} {n p : Nat} {P : Int32 → Prop} (h : P (tx t n p)) (h1 : ¬ P (-1)) : p < n := tx_in (c := tx t n p) rfl (fun z => h1 (z ▸ h))
theorem opcT {c : Int32} (h : isT c) : (4 ≤ opc c ∧ opc c ≤ 6) ∧ cOf (opc c) = c ∧ sgz c = nI (opc c) := by
  rcases h with z | z | z <;> subst z <;> decide
theorem opcS {c : Int32} (h : isS c) : (opc c = 2 ∨ opc c = 3) ∧ cOf (opc c) = c ∧ sgz c = nI (opc c) := by
  rcases h with z | z <;> subst z <;> decide
theorem WG_hi {a b : Nat} {l : SkL} (h : ¬ a ≤ 10) : WG ((a, b) :: l) = WG l := by
  show (if a ≤ 10 then 1 else 0) + WG l = _
  rw [if_neg h]; omega
theorem WG_lo {a b : Nat} {l : SkL} (h : a ≤ 10) : WG ((a, b) :: l) = WG l + 1 := by
  show (if a ≤ 10 then 1 else 0) + WG l = _
  rw [if_pos h]; omega
theorem clz_k {all : Bool} : ∀ {l : SkL} {S : St}, (clz all S l).1.p = S.p ∧ (clz all S l).1.k + WG (clz all S l).2 = S.k + WG l ∧ (clz all S l).2.length ≤ l.length
  | [], _ => ⟨rfl, rfl, Nat.le_refl _⟩
  | x :: l, S => by
    unfold clz
    by_cases c : canP (all = true) x.1
    · rw [if_pos c]
      have r := clz_k (all := all) (l := l) (S := S.put (cOf x.1) 0)
      have : x.1 ≤ 10 := by rcases c with z | z <;> omega
      simp only [St.put_p, St.put_k] at r
      refine ⟨r.1, ?_, by simp only [List.length_cons]; omega⟩
      rw [r.2.1]
      conv => rhs; unfold WG
      rw [if_pos this]; omega
    · rw [if_neg c]; exact ⟨rfl, rfl, Nat.le_refl _⟩
theorem SLv.of {G : GC} {d : Nat} {sw : Bool} {f0 : FF} {n : Nat} {bst : SkL} {Q : QQ} {o : Nat} {S : St} {ls : SkL} (h : SLv G d sw f0 n bst Q o S ls) {f : FF} (hf : RZS f0 f n S o (ls ++ bst)) (v2 : Value) : XP G mX11_readsSum (d + 4) 14 [.ref 82, .int (nI bst.length), v2] [] sw f Q := h S ls f v2 CLq.rf hf
theorem fx_ndg {c : Int32} (h : ¬ fx c = -1) : ¬ (48 ≤ c ∧ c ≤ 57) := by
  intro z
  apply h
  have h1 : 48 ≤ c.toInt := Int32.le_iff_toInt_le.mp z.1
  have h2 : c.toInt ≤ 57 := Int32.le_iff_toInt_le.mp z.2
  have ne : ∀ k : Int32, 57 < k.toInt → ¬ c = k := fun k hk e => by rw [e] at h2; omega
  unfold fx
  rw [if_neg (ne _ (by decide)), if_neg (ne _ (by decide)), if_neg (ne _ (by decide)), if_neg (ne _ (by decide)), if_neg (ne _ (by decide)), if_neg (ne _ (by decide)), if_neg (ne _ (by decide)), if_neg (ne _ (by decide)), if_neg (ne _ (by decide)), if_neg (ne _ (by decide))]
theorem PL.sums {G : GC} {d : Nat} {sw : Bool} {f0 : FF} {n : Nat} {bst : SkL} {Q : QQ} (h12 : f0 82 12 = nI n) (hn : n ≤ 240) {K : Nat} {J : Option Nat} {o : Nat} {S : St} {r : Except Int32 St} (h : PL (f0 90) n K J o S r) : MZz G d sw f0 n bst Q K o S r := by
  refine PL.ind (M := fun K J o S r => MZz G d sw f0 n bst Q K o S r) h ?facB ?facX ?facE ?facO ?facL ?facN ?facM ?prodO ?prodE ?prodZ ?prodS ?prodF ?sumO ?sumE ?sumZ ?sumS ?sumF ?comE ?comX ?comF ?comO ?tB ?tO ?tE ?tN ?tC ?bX ?bO ?bE ?bC ?bF ?parO ?parE ?parZ ?parS ?parF ?conO ?conE ?conZ ?conS ?conF
  case facB =>
    intro o S S1 h1 h2 h3 h4 i1
    intro ls hr f v1 Qf hf q1 q0
    obtain ⟨hb, b1, b2, b3, b4⟩ := hf
    have hh := hb.here h12 hn b1
    have hv := (hb.mx h12 hn b1).vp
    have q := tx_in h1 (by decide)
    have e91 : hereF f = 91 := hh.trans h1
    refine bX11_readsFactor_0 hv (fun z => absurd e91 z) (fun z => absurd e91 z) (fun z => absurd e91 z) (fun z => absurd e91 z) (fun _ => ?_)
    refine rt_opens (a := 14) hb (by omega) b4 rfl (by omega) (fun _ g hg => bX11_readsFactor_15 (fun _ => ?_) (fun z => absurd z (by decide))) (fun z => absurd h2 z)
    have hg2 : RZS f0 g n S.adv (o + 1) (((14, 0) :: ls) ++ bst) := ⟨hg, ⟨by simp only [St.adv_p]; omega, by simp only [St.adv_p, List.cons_append, List.length_cons]; omega, by rw [List.cons_append, WG_hi (by decide)]; simp only [St.adv_p, St.adv_k]; omega, by omega⟩⟩
    refine i1 ((14, 0) :: ls) (nTp_cons (by decide)) ?_ g v1 Qf hg2 q1 q0
    intro S0 ls0 f2 v2 hc hf2
    have ed := h3.edz _ rfl
    have ci := hc.inv
    have cc := (hc.mono (b' := true = true) (fun _ => rfl)).eq (bst := bst)
    rw [List.cons_append, clz_t (nTp_cons (by decide))] at cc
    obtain ⟨hb2, c1, c2, c3, c4⟩ := hf2
    have hh2 := hb2.here h12 hn c1
    have hv2 := (hb2.mx h12 hn c1).vp
    rw [ci.1, h4] at hh2
    have ho : hasO ls0 = true := by rw [ci.2]; rfl
    have ck := clz_k (all := true) (l := ls0 ++ bst) (S := S0)
    refine bX11_readsSum_14 hv2 (sp_sumSign ?_)
    rw [hh2]
    refine bX11_readsSum_21 (fun _ => hv2) (fun _ z => absurd hh2 z) (fun _ _ => rt_has hb2 (by omega) ?_) (fun z => absurd (by decide) z) (fun z => absurd (by decide) z)
    rw [ho]
    refine bX11_readsSum_97 (fun z => absurd z (by decide)) (fun _ => rt_closes (all := true) _ _ _ hb2 (by omega) (by omega) (fun g3 hg3 => bX11_readsSum_105 ?_))
    rw [cc] at hg3 ck
    dsimp only at hg3 ck
    have q4 := tx_in h4 (by decide)
    simp only [List.length_cons] at ck
    have w1 : WG ((14, 0) :: (ls ++ bst)) = WG (ls ++ bst) := WG_hi (by decide)
    exact SLv.of hr ⟨(hg3.pop.setO (o' := o) (by rw [hg3.pop.2.2.2.2.1, ← nI_add]; exact Int32.add_sub_cancel _ _)).adv, by simp only [St.adv_p]; omega, by simp only [St.adv_p]; omega, by simp only [St.adv_p, St.adv_k]; omega, by omega⟩ _
  case facX =>
    intro o S S1 h1 h2 h3 h4 i1
    intro ls hr f v1 Qf hf q1 q0
    obtain ⟨hb, b1, b2, b3, b4⟩ := hf
    have hh := hb.here h12 hn b1
    have hv := (hb.mx h12 hn b1).vp
    have q := tx_in h1 (by decide)
    have e91 : hereF f = 91 := hh.trans h1
    refine bX11_readsFactor_0 hv (fun z => absurd e91 z) (fun z => absurd e91 z) (fun z => absurd e91 z) (fun z => absurd e91 z) (fun _ => ?_)
    refine rt_opens (a := 14) hb (by omega) b4 rfl (by omega) (fun _ g hg => bX11_readsFactor_15 (fun _ => ?_) (fun z => absurd z (by decide))) (fun z => absurd h2 z)
    have hg2 : RZS f0 g n S.adv (o + 1) (((14, 0) :: ls) ++ bst) := ⟨hg, ⟨by simp only [St.adv_p]; omega, by simp only [St.adv_p, List.cons_append, List.length_cons]; omega, by rw [List.cons_append, WG_hi (by decide)]; simp only [St.adv_p, St.adv_k]; omega, by omega⟩⟩
    refine i1 ((14, 0) :: ls) (nTp_cons (by decide)) ?_ g v1 Qf hg2 q1 q0
    intro S0 ls0 f2 v2 hc hf2
    have ed := h3.edz _ rfl
    have ci := hc.inv
    obtain ⟨hb2, c1, c2, c3, c4⟩ := hf2
    have hh2 := hb2.here h12 hn c1
    have hv2 := (hb2.mx h12 hn c1).vp
    rw [ci.1] at hh2
    have ho : hasO ls0 = true := by rw [ci.2]; rfl
    have es : sgz (hereF f2) = -1 := by rw [hh2]; exact if_neg (fun z => z.elim ed.2 ed.1)
    refine bX11_readsSum_14 hv2 (sp_sumSign ?_)
    rw [es]
    refine bX11_readsSum_21 (fun _ => hv2) (fun _ _ => rt_has hb2 (by omega) ?_) (fun _ z => absurd (hh2.symm.trans z) h4) (fun z => absurd (by decide) z) (fun z => absurd (by decide) z)
    rw [ho]
    exact bX11_readsSum_143 (fun z => absurd z (by decide)) (fun _ => sp_wrongAt (w := 1) hb2.2.1 (bX11_readsSum_155 (Or.inl rfl) (hr _ (hb2.1.up (by omega)) (by rw [upd2_self, pk_us, ci.1]))))
  case facE =>
    intro o S e h1 h2 h3 i1
    intro ls hr f v1 Qf hf q1 q0
    obtain ⟨hb, b1, b2, b3, b4⟩ := hf
    have hh := hb.here h12 hn b1
    have hv := (hb.mx h12 hn b1).vp
    have q := tx_in h1 (by decide)
    have e91 : hereF f = 91 := hh.trans h1
    refine bX11_readsFactor_0 hv (fun z => absurd e91 z) (fun z => absurd e91 z) (fun z => absurd e91 z) (fun z => absurd e91 z) (fun _ => ?_)
    refine rt_opens (a := 14) hb (by omega) b4 rfl (by omega) (fun _ g hg => bX11_readsFactor_15 (fun _ => ?_) (fun z => absurd z (by decide))) (fun z => absurd h2 z)
    have hg2 : RZS f0 g n S.adv (o + 1) (((14, 0) :: ls) ++ bst) := ⟨hg, ⟨by simp only [St.adv_p]; omega, by simp only [St.adv_p, List.cons_append, List.length_cons]; omega, by rw [List.cons_append, WG_hi (by decide)]; simp only [St.adv_p, St.adv_k]; omega, by omega⟩⟩
    exact i1 ((14, 0) :: ls) (nTp_cons (by decide)) hr g v1 Qf hg2 q1 q0
  case facO =>
    intro o S h1 h2
    intro ls hr f v1 Qf hf q1 q0
    obtain ⟨hb, b1, b2, b3, b4⟩ := hf
    have hh := hb.here h12 hn b1
    have hv := (hb.mx h12 hn b1).vp
    have q := tx_in h1 (by decide)
    have e91 : hereF f = 91 := hh.trans h1
    refine bX11_readsFactor_0 hv (fun z => absurd e91 z) (fun z => absurd e91 z) (fun z => absurd e91 z) (fun z => absurd e91 z) (fun _ => ?_)
    exact rt_opens (a := 14) hb (by omega) b4 rfl (by omega) (fun z => absurd z h2) (fun _ g hg h5 => bX11_readsFactor_15 (fun z => absurd rfl z) (fun _ => q0 g (hr g hg h5)))
  case facL =>
    intro o S h1 h2
    intro ls hr f v1 Qf hf q1 q0
    obtain ⟨hb, b1, b2, b3, b4⟩ := hf
    have hh := hb.here h12 hn b1
    have hv := (hb.mx h12 hn b1).vp
    have q := fx_in h2
    have e91 : ¬ hereF f = 91 := fun z => h1 (hh.symm.trans z)
    have edg : ¬ (48 ≤ hereF f ∧ hereF f ≤ 57) := by
      rw [hh]; exact fx_ndg h2
    refine bX11_readsFactor_0 hv (fun _ => hv) (fun _ _ => hv) (fun _ _ => sp_factOf ?_) (fun _ z => absurd z edg) (fun z => absurd z e91)
    rw [hh]
    refine bX11_readsFactor_54 (fun _ => ?_) (fun z => absurd z h2)
    refine rt_notes (c := 97) hb (by omega) (by decide) (fun g hg => bX11_readsFactor_76 (q1 _ (fun v2 => SLv.of hr ⟨hg.adv, ?_⟩ v2)))
    exact ⟨by simp only [St.put_p, St.adv_p]; omega, by simp only [St.put_p, St.adv_p]; omega, by simp only [St.put_p, St.put_k, St.adv_p, St.adv_k]; omega, b4⟩
  case facN =>
    intro o S p' v h1 h2 h3
    intro ls hr f v1 Qf hf q1 q0
    obtain ⟨hb, b1, b2, b3, b4⟩ := hf
    have hh := hb.here h12 hn b1
    have hv := (hb.mx h12 hn b1).vp
    have q := numR_in h3
    have dgt : dg (f0 90) n S.p := by
      by_cases c : dg (f0 90) n S.p
      · exact c
      · unfold numR at h3; rw [if_neg c] at h3; exact absurd h3 (by simp)
    have e91 : ¬ hereF f = 91 := fun z => h1 (hh.symm.trans z)
    have edg : (48 ≤ hereF f ∧ hereF f ≤ 57) := by rw [hh]; exact dgt
    refine bX11_readsFactor_0 hv (fun _ => hv) (fun _ z => absurd edg z) (fun _ z => absurd edg z) (fun _ _ => ?_) (fun z => absurd z e91)
    refine sp_readsNumber (hb.mx h12 hn b1) (by rw [hb.n90]; exact dgt) (fun e2 g hr2 => ?_) (fun p2 v2 g hr2 _ og hM g4 => ?_)
    · rw [hb.n90, h3] at hr2; exact absurd hr2 (by simp)
    · rw [hb.n90, h3] at hr2
      have := Except.ok.inj hr2
      injection this with a b
      subst a b
      refine bX11_readsFactor_31 (fun _ => ?_) (fun z => absurd z (by decide))
      rw [g4]
      have hg : RFb f0 g (S.goto p') o (ls ++ bst) := by
        obtain ⟨x1, x2, x3, x4, x5, x6, x7⟩ := hb
        exact ⟨x1.tr og.mol, hM.2.2.1, by rw [og.2 16 (by omega) (by omega) (by omega)]; exact x3, by rw [og.1 91 (by omega)]; exact x4, by rw [og.2 15 (by omega) (by omega) (by omega)]; exact x5, by rw [og.2 17 (by omega) (by omega) (by omega)]; exact x6, by rw [og.1 92 (by omega)]; exact x7⟩
      refine rt_notes (c := 48) hg (show S.k < 240 by omega) (by decide) (fun g hg => bX11_readsFactor_45 (q1 _ (fun v2 => SLv.of hr ⟨hg, ?_⟩ v2)))
      exact ⟨by simp only [St.put_p, St.goto_p]; omega, by simp only [St.put_p, St.goto_p]; omega, by simp only [St.put_p, St.put_k, St.goto_p, St.goto_k]; omega, b4⟩
  case facM =>
    intro o S e h1 h2 h3
    intro ls hr f v1 Qf hf q1 q0
    obtain ⟨hb, b1, b2, b3, b4⟩ := hf
    have hh := hb.here h12 hn b1
    have hv := (hb.mx h12 hn b1).vp
    have e91 : ¬ hereF f = 91 := fun z => h1 (hh.symm.trans z)
    by_cases c : dg (f0 90) n S.p
    · have edg : (48 ≤ hereF f ∧ hereF f ≤ 57) := by rw [hh]; exact c
      refine bX11_readsFactor_0 hv (fun _ => hv) (fun _ z => absurd edg z) (fun _ z => absurd edg z) (fun _ _ => ?_) (fun z => absurd z e91)
      refine sp_readsNumber (hb.mx h12 hn b1) (by rw [hb.n90]; exact c) (fun e2 g hr2 og h5 => ?_) (fun p2 v2 g hr2 _ og hM g4 => ?_)
      · rw [hb.n90, h3] at hr2
        have := Except.error.inj hr2
        subst this
        exact bX11_readsFactor_31 (fun z => absurd rfl z) (fun _ => q0 g (hr g (hb.1.tr og.mol) h5))
      · rw [hb.n90, h3] at hr2; exact absurd hr2 (by simp)
    · have edg : ¬ (48 ≤ hereF f ∧ hereF f ≤ 57) := by rw [hh]; exact c
      have he : e = er 1 S.p := by unfold numR at h3; rw [if_neg c] at h3; exact (Except.error.inj h3).symm
      subst he
      refine bX11_readsFactor_0 hv (fun _ => hv) (fun _ _ => hv) (fun _ _ => sp_factOf ?_) (fun _ z => absurd z edg) (fun z => absurd z e91)
      rw [hh]
      refine bX11_readsFactor_54 (fun z => absurd h2 z) (fun _ => ?_)
      exact sp_wrongAt (w := 1) hb.2.1 (bX11_readsFactor_69 (Or.inl rfl) (q0 _ (hr _ (hb.1.up (by omega)) (by rw [upd2_self, pk_us]))))
  case prodO =>
    intro o S S1 r h1 h2 i1 i2
    exact fun ls ht hr => i1 ls (i2 ls ht hr)
  case prodE =>
    intro o S e h1 i1
    exact fun ls ht hr => i1 ls hr
  case prodZ =>
    intro o S h1
    exact fun ls ht hr => hr
  case sumO =>
    intro o S S1 r h1 h2 i1 i2
    exact fun ls ht hr => i1 ls ht.up (i2 ls ht hr)
  case sumE =>
    intro o S e h1 i1
    exact fun ls ht hr => i1 ls ht.up hr
  case sumZ =>
    intro o S h1
    exact fun ls ht hr => hr
  case prodS =>
    intro o S S1 r h1 h2 h3 i1 i2
    intro ls ht hr S0 ls0 f v2 hc hf
    obtain ⟨hb, b1, b2, b3, b4⟩ := hf
    have hh := hb.here h12 hn b1
    have hv := (hb.mx h12 hn b1).vp
    have ci := hc.inv
    have q := tx_ne1 (P := isT) h1 (by decide)
    obtain ⟨oc1, oc2, oc3⟩ := opcT h1
    rw [ci.1] at hh
    have ck := clz_k (all := false) (l := ls0 ++ bst) (S := S0)
    have cc := (hc.mono (b' := false = true) (fun z => absurd h1 z)).eq (bst := bst)
    rw [clz_f ht] at cc
    rw [cc] at ck
    dsimp only at ck
    refine bX11_readsSum_14 hv (sp_sumSign ?_)
    rw [hh, oc3]
    have key : XP G mX11_closesSums (d + 3) 0 [.ref 82, .int (bI false)] [] sw f (fun v sw' f' => XP G mX11_readsSum (d + 4) 41 [.ref 82, .int (nI bst.length), .int (nI (opc (tx (f0 90) n S.p)))] (retst v []) sw' f' Q) := by
      refine rt_closes (all := false) _ _ _ hb (by omega) (by omega) (fun g hg => ?_)
      rw [cc] at hg
      dsimp only at hg
      refine bX11_readsSum_41 (by rw [hg.2.2.2.2.2.1]; exact vp_in_nI (by omega) (by omega)) ?_
      have hp := (hg.push (y := 1048576 * nI (opc (tx (f0 90) n S.p))) (a := opc (tx (f0 90) n S.p)) (b := 0) (by omega) (by rw [show (1048576 : Int32) = nI 1048576 from rfl, pk_mul]; rfl) (by omega) (by omega)).adv
      have hp2 : RZS f0 _ n S.adv o (((opc (tx (f0 90) n S.p), 0) :: ls) ++ bst) := ⟨hp, by simp only [St.adv_p]; omega, by simp only [St.adv_p, List.length_cons, List.cons_append]; omega, by rw [List.cons_append, WG_lo (by omega)]; simp only [St.adv_p, St.adv_k]; omega, b4⟩
      refine i1 ((opc (tx (f0 90) n S.p), 0) :: ls) ?_ _ _ _ hp2 (fun g2 hg2 => bX11_readsSum_78 (fun _ => hg2 _) (fun z => absurd z (by decide))) (fun g2 hg2 => bX11_readsSum_78 (fun z => absurd rfl z) (fun _ => hg2))
      intro S2 ls2 f2 w2 hc2 hf2
      have hc3 := hc2.step (Or.inl oc1)
      rw [oc2] at hc3
      exact i2 ls ht hr S2 ls2 f2 w2 hc3 hf2
    refine bX11_readsSum_21 (fun z => absurd z (nI_ne_m1 (by omega))) (fun z => absurd z (nI_ne_m1 (by omega))) (fun z => absurd z (nI_ne_m1 (by omega))) (fun _ _ => key) (fun _ z => absurd ?_ z)
    exact Int32.le_iff_toInt_le.mpr (by rw [nI_toInt (by omega)]; show (4 : Int) ≤ _; omega)
  case prodF =>
    intro o S e h1 h2 i1
    intro ls ht hr S0 ls0 f v2 hc hf
    obtain ⟨hb, b1, b2, b3, b4⟩ := hf
    have hh := hb.here h12 hn b1
    have hv := (hb.mx h12 hn b1).vp
    have ci := hc.inv
    have q := tx_ne1 (P := isT) h1 (by decide)
    obtain ⟨oc1, oc2, oc3⟩ := opcT h1
    rw [ci.1] at hh
    have ck := clz_k (all := false) (l := ls0 ++ bst) (S := S0)
    have cc := (hc.mono (b' := false = true) (fun z => absurd h1 z)).eq (bst := bst)
    rw [clz_f ht] at cc
    rw [cc] at ck
    dsimp only at ck
    refine bX11_readsSum_14 hv (sp_sumSign ?_)
    rw [hh, oc3]
    have key : XP G mX11_closesSums (d + 3) 0 [.ref 82, .int (bI false)] [] sw f (fun v sw' f' => XP G mX11_readsSum (d + 4) 41 [.ref 82, .int (nI bst.length), .int (nI (opc (tx (f0 90) n S.p)))] (retst v []) sw' f' Q) := by
      refine rt_closes (all := false) _ _ _ hb (by omega) (by omega) (fun g hg => ?_)
      rw [cc] at hg
      dsimp only at hg
      refine bX11_readsSum_41 (by rw [hg.2.2.2.2.2.1]; exact vp_in_nI (by omega) (by omega)) ?_
      have hp := (hg.push (y := 1048576 * nI (opc (tx (f0 90) n S.p))) (a := opc (tx (f0 90) n S.p)) (b := 0) (by omega) (by rw [show (1048576 : Int32) = nI 1048576 from rfl, pk_mul]; rfl) (by omega) (by omega)).adv
      have hp2 : RZS f0 _ n S.adv o (((opc (tx (f0 90) n S.p), 0) :: ls) ++ bst) := ⟨hp, by simp only [St.adv_p]; omega, by simp only [St.adv_p, List.length_cons, List.cons_append]; omega, by rw [List.cons_append, WG_lo (by omega)]; simp only [St.adv_p, St.adv_k]; omega, b4⟩
      exact i1 ((opc (tx (f0 90) n S.p), 0) :: ls) hr _ _ _ hp2 (fun g2 hg2 => bX11_readsSum_78 (fun _ => hg2 _) (fun z => absurd z (by decide))) (fun g2 hg2 => bX11_readsSum_78 (fun z => absurd rfl z) (fun _ => hg2))
    refine bX11_readsSum_21 (fun z => absurd z (nI_ne_m1 (by omega))) (fun z => absurd z (nI_ne_m1 (by omega))) (fun z => absurd z (nI_ne_m1 (by omega))) (fun _ _ => key) (fun _ z => absurd ?_ z)
    exact Int32.le_iff_toInt_le.mpr (by rw [nI_toInt (by omega)]; show (4 : Int) ≤ _; omega)
  case sumS =>
    intro o S S1 r h1 h2 h3 i1 i2
    intro ls ht hr S0 ls0 f v2 hc hf
    obtain ⟨hb, b1, b2, b3, b4⟩ := hf
    have hh := hb.here h12 hn b1
    have hv := (hb.mx h12 hn b1).vp
    have ci := hc.inv
    have q := tx_ne1 (P := isS) h1 (by decide)
    obtain ⟨oc1, oc2, oc3⟩ := opcS h1
    rw [ci.1] at hh
    have ck := clz_k (all := true) (l := ls0 ++ bst) (S := S0)
    have cc := (hc.mono (b' := true = true) (fun _ => rfl)).eq (bst := bst)
    rw [clz_t ht] at cc
    rw [cc] at ck
    dsimp only at ck
    refine bX11_readsSum_14 hv (sp_sumSign ?_)
    rw [hh, oc3]
    have key : XP G mX11_closesSums (d + 3) 0 [.ref 82, .int (bI true)] [] sw f (fun v sw' f' => XP G mX11_readsSum (d + 4) 41 [.ref 82, .int (nI bst.length), .int (nI (opc (tx (f0 90) n S.p)))] (retst v []) sw' f' Q) := by
      refine rt_closes (all := true) _ _ _ hb (by omega) (by omega) (fun g hg => ?_)
      rw [cc] at hg
      dsimp only at hg
      refine bX11_readsSum_41 (by rw [hg.2.2.2.2.2.1]; exact vp_in_nI (by omega) (by omega)) ?_
      have hp := (hg.push (y := 1048576 * nI (opc (tx (f0 90) n S.p))) (a := opc (tx (f0 90) n S.p)) (b := 0) (by omega) (by rw [show (1048576 : Int32) = nI 1048576 from rfl, pk_mul]; rfl) (by omega) (by omega)).adv
      have hp2 : RZS f0 _ n S.adv o (((opc (tx (f0 90) n S.p), 0) :: ls) ++ bst) := ⟨hp, by simp only [St.adv_p]; omega, by simp only [St.adv_p, List.length_cons, List.cons_append]; omega, by rw [List.cons_append, WG_lo (by omega)]; simp only [St.adv_p, St.adv_k]; omega, b4⟩
      have ed := h2.edz _ rfl
      refine i1 ((opc (tx (f0 90) n S.p), 0) :: ls) (nTp_cons (show ¬ (4 ≤ opc (tx (f0 90) n S.p) ∧ _) by omega)) ?_ _ _ _ hp2 (fun g2 hg2 => bX11_readsSum_78 (fun _ => hg2 _) (fun z => absurd z (by decide))) (fun g2 hg2 => bX11_readsSum_78 (fun z => absurd rfl z) (fun _ => hg2))
      intro S2 ls2 f2 w2 hc2 hf2
      have hc3 := hc2.step (Or.inr ⟨ed, oc1⟩)
      rw [oc2] at hc3
      exact i2 ls ht hr S2 ls2 f2 w2 hc3 hf2
    refine bX11_readsSum_21 (fun z => absurd z (nI_ne_m1 (by omega))) (fun z => absurd z (nI_ne_m1 (by omega))) (fun z => absurd z (nI_ne_m1 (by omega))) (fun _ z => ?_) (fun _ _ => key)
    have := Int32.le_iff_toInt_le.mp z
    rw [nI_toInt (by omega), show (4 : Int32).toInt = 4 from rfl] at this
    omega
  case sumF =>
    intro o S e h1 h2 i1
    intro ls ht hr S0 ls0 f v2 hc hf
    obtain ⟨hb, b1, b2, b3, b4⟩ := hf
    have hh := hb.here h12 hn b1
    have hv := (hb.mx h12 hn b1).vp
    have ci := hc.inv
    have q := tx_ne1 (P := isS) h1 (by decide)
    obtain ⟨oc1, oc2, oc3⟩ := opcS h1
    rw [ci.1] at hh
    have ck := clz_k (all := true) (l := ls0 ++ bst) (S := S0)
    have cc := (hc.mono (b' := true = true) (fun _ => rfl)).eq (bst := bst)
    rw [clz_t ht] at cc
    rw [cc] at ck
    dsimp only at ck
    refine bX11_readsSum_14 hv (sp_sumSign ?_)
    rw [hh, oc3]
    have key : XP G mX11_closesSums (d + 3) 0 [.ref 82, .int (bI true)] [] sw f (fun v sw' f' => XP G mX11_readsSum (d + 4) 41 [.ref 82, .int (nI bst.length), .int (nI (opc (tx (f0 90) n S.p)))] (retst v []) sw' f' Q) := by
      refine rt_closes (all := true) _ _ _ hb (by omega) (by omega) (fun g hg => ?_)
      rw [cc] at hg
      dsimp only at hg
      refine bX11_readsSum_41 (by rw [hg.2.2.2.2.2.1]; exact vp_in_nI (by omega) (by omega)) ?_
      have hp := (hg.push (y := 1048576 * nI (opc (tx (f0 90) n S.p))) (a := opc (tx (f0 90) n S.p)) (b := 0) (by omega) (by rw [show (1048576 : Int32) = nI 1048576 from rfl, pk_mul]; rfl) (by omega) (by omega)).adv
      have hp2 : RZS f0 _ n S.adv o (((opc (tx (f0 90) n S.p), 0) :: ls) ++ bst) := ⟨hp, by simp only [St.adv_p]; omega, by simp only [St.adv_p, List.length_cons, List.cons_append]; omega, by rw [List.cons_append, WG_lo (by omega)]; simp only [St.adv_p, St.adv_k]; omega, b4⟩
      exact i1 ((opc (tx (f0 90) n S.p), 0) :: ls) (nTp_cons (show ¬ (4 ≤ opc (tx (f0 90) n S.p) ∧ _) by omega)) hr _ _ _ hp2 (fun g2 hg2 => bX11_readsSum_78 (fun _ => hg2 _) (fun z => absurd z (by decide))) (fun g2 hg2 => bX11_readsSum_78 (fun z => absurd rfl z) (fun _ => hg2))
    refine bX11_readsSum_21 (fun z => absurd z (nI_ne_m1 (by omega))) (fun z => absurd z (nI_ne_m1 (by omega))) (fun z => absurd z (nI_ne_m1 (by omega))) (fun _ z => ?_) (fun _ _ => key)
    have := Int32.le_iff_toInt_le.mp z
    rw [nI_toInt (by omega), show (4 : Int32).toInt = 4 from rfl] at this
    omega
  case comE => intros; exact trivial
  case comX => intros; exact trivial
  case comF => intros; exact trivial
  case comO => intros; exact trivial
  case tB => intros; exact trivial
  case tO => intros; exact trivial
  case tE => intros; exact trivial
  case tN => intros; exact trivial
  case tC => intros; exact trivial
  case bX => intros; exact trivial
  case bO => intros; exact trivial
  case bE => intros; exact trivial
  case bC => intros; exact trivial
  case bF => intros; exact trivial
  case parO => intros; exact trivial
  case parE => intros; exact trivial
  case parZ => intros; exact trivial
  case parS => intros; exact trivial
  case parF => intros; exact trivial
  case conO => intros; exact trivial
  case conE => intros; exact trivial
  case conZ => intros; exact trivial
  case conS => intros; exact trivial
  case conF => intros; exact trivial
/-- readsSum comes to what the grammar says -/
theorem rt_sum {G : GC} {d : Nat} {sw : Bool} {f0 f : FF} {n : Nat} {bst : SkL} {Q : QQ} (h12 : f0 82 12 = nI n) (hn : n ≤ 240) {o : Nat} {S : St} {r : Except Int32 St} (h : PL (f0 90) n 4 none o S r) (hf : RZS f0 f n S o bst) (ht : nTp 2 bst) (hE : ∀ e, r = .error e → Erz f0 sw Q e) (hO : ∀ S', r = .ok S' → ∀ g, RZS f0 g n S' o bst → Q (some (.int 1)) sw g) : XP G mX11_readsSum (d + 4) 0 [.ref 82, .null, .null] [] sw f Q := by
  refine bX11_readsSum_0 ?_
  have e17 : f 82 17 = nI bst.length := hf.1.2.2.2.2.2.1
  rw [e17]
  have m := h.sums (G := G) (d := d) (sw := sw) (bst := bst) (Q := Q) h12 hn
  refine m [] ht ?_ f .null _ hf (fun g hg => bX11_readsSum_9 (fun _ => hg _) (fun z => absurd z (by decide))) (fun g hg => bX11_readsSum_9 (fun z => absurd rfl z) (fun _ => hg))
  cases r with
  | error e => exact hE e rfl
  | ok S' =>
    intro S0 ls0 f2 v2 hc hf2
    have ed := h.edz _ rfl
    have ci := hc.inv
    have cc := (hc.mono (b' := true = true) (fun _ => rfl)).eq (bst := bst)
    rw [List.nil_append, clz_t ht] at cc
    obtain ⟨hb2, c1, c2, c3, c4⟩ := hf2
    have hh2 := hb2.here h12 hn c1
    have hv2 := (hb2.mx h12 hn c1).vp
    rw [ci.1] at hh2
    have ho : hasO ls0 = false := by rw [ci.2]; rfl
    have ck := clz_k (all := true) (l := ls0 ++ bst) (S := S0)
    rw [cc] at ck
    dsimp only at ck
    have es : sgz (hereF f2) = -1 := by rw [hh2]; exact if_neg (fun z => z.elim ed.2 ed.1)
    have fin : XP G mX11_hasOpenSum (d + 3) 0 [.ref 82, .int (nI bst.length), .null] [] sw f2 (fun v sw' f' => XP G mX11_readsSum (d + 4) 143 [.ref 82, .int (nI bst.length), .int (-1)] (retst v []) sw' f' Q) := by
      refine rt_has hb2 (by omega) ?_
      rw [ho]
      refine bX11_readsSum_143 (fun _ => rt_closes (all := true) _ _ _ hb2 (by omega) (by omega) (fun g hg => bX11_readsSum_161 (hO S' rfl g ?_))) (fun z => absurd rfl z)
      rw [cc] at hg
      dsimp only at hg
      have l0 : bst.length ≤ S'.p := by omega
      exact ⟨hg, by omega, by omega, by omega, by omega⟩
    refine bX11_readsSum_14 hv2 (sp_sumSign ?_)
    rw [es]
    refine bX11_readsSum_21 (fun _ => hv2) (fun _ _ => fin) (fun _ z => rt_has hb2 (by omega) ?_) (fun z => absurd (by decide) z) (fun z => absurd (by decide) z)
    rw [ho]
    exact bX11_readsSum_97 (fun _ => fin) (fun z => absurd rfl z)
