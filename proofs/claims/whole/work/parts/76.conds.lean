/-! ===== the reference reads conditions ===== -/
theorem RFb.land {f0 f : FF} {S : St} {o j : Nat} {st : SkL} (h : RFb f0 f S o st) : RFb f0 (upd2 f 91 j (1048576 * (f 91 j / 1048576) + f 82 16)) (S.land (some j)) o st := by
  obtain ⟨h1, h2, h3, h4, h5, h6, h7⟩ := h
  refine ⟨h1.ux (by omega), by rw [upd2_ne _ _ _ (by omega)]; exact h2, by rw [upd2_ne _ _ _ (by omega)]; exact h3, ?_, by rw [upd2_ne _ _ _ (by omega)]; exact h5, by rw [upd2_ne _ _ _ (by omega)]; exact h6, by rw [upd2_ne _ _ _ (by omega)]; exact h7⟩
  rw [upd2_self, h3, h4]
  rfl
theorem RFb.reset {f0 f : FF} {S : St} {o : Nat} {st : SkL} (h : RFb f0 f S o st) : RFb f0 (upd2 (upd2 f 82 15 0) 82 17 0) S 0 [] := by
  obtain ⟨h1, h2, h3, h4, h5, h6, h7⟩ := h
  exact ⟨(h1.up (by omega)).up (by omega), by rw [upd2_self, pk_un (by omega), upd2_self, pk_un (by omega)]; exact h2, by rw [upd2_self, pk_un (by omega), upd2_self, pk_un (by omega)]; exact h3, by rw [upd2_ne _ _ _ (by omega), upd2_ne _ _ _ (by omega)]; exact h4, by rw [upd2_self, pk_un (by omega), upd2_self, pk_us]; rfl, by rw [upd2_self, pk_us]; rfl, trivial⟩
abbrev canJ (b1 b2 : Prop) (a : Nat) : Prop := (b1 ∧ a = 11) ∨ (b2 ∧ a = 12)
def ldz (all : Bool) : St → SkL → St × SkL
  | S, [] => (S, [])
  | S, x :: l => if canJ True (all = true) x.1 then ldz all (S.land (some x.2)) l else (S, x :: l)
theorem rt_lands {G : GC} {d : Nat} {sw : Bool} {f0 : FF} {Q : QQ} {o : Nat} {all : Bool} : ∀ (st : SkL) (S : St) (f : FF) (v2 : Value), RFb f0 f S o st → st.length ≤ 240 → (∀ g, RFb f0 g (ldz all S st).1 o (ldz all S st).2 → Q none sw g) → XP G mX11_lands (d + 1) 0 [.ref 82, .int (bI all), v2] [] sw f Q := by
  intro st
  induction st with
  | nil =>
    intro S f v2 h _ hQ
    have hq := hQ f h
    refine bX11_lands_0 (rt_top h (by simp) ?_)
    exact bX11_lands_4 (fun z => absurd z (by decide)) (fun z => absurd z (by decide)) (fun z => absurd z (by decide)) (fun z => absurd z (by decide)) (fun _ _ => hq) (fun _ _ => rt_top h (by simp) (bX11_lands_17 (fun _ => hq) (fun z => absurd z (by decide)) (fun z => absurd z (by decide)) (fun z => absurd z (by decide)) (fun z => absurd z (by decide))))
  | cons x l ih =>
    intro S f v2 h hl hQ
    have h7 := h.2.2.2.2.2.2
    have ha := h7.2.1
    have hb := h7.2.2.1
    have hl2 : l.length < 240 := by simp only [List.length_cons] at hl; omega
    have e1 : f 82 17 - 1 = nI l.length := by rw [h.2.2.2.2.2.1, List.length_cons, ← nI_add]; exact Int32.add_sub_cancel _ _
    have v1 : vp_in (f 82 17 - 1) 260 := by rw [e1]; exact vp_in_nI (by omega) (by omega)
    have e2 : (f 92 (((f 82 17) - 1).toNatClampNeg)) - (f 92 (((f 82 17) - 1).toNatClampNeg)) / 1048576 * 1048576 = nI x.2 := by
      rw [e1, nI_clamp (by omega)]
      exact (op_nI4 ha (by omega) h7.1).2
    have vx : vp_in (nI x.2) 260 := vp_in_nI (by omega) (by omega)
    unfold ldz at hQ
    have go : canJ True (all = true) x.1 → XP G mX11_lands (d + 1) 0 [.ref 82, .int (bI all), .int ((f 92 (((f 82 17) - 1).toNatClampNeg)) - (f 92 (((f 82 17) - 1).toNatClampNeg)) / 1048576 * 1048576)] [] sw (upd2 (upd2 f 91 (((f 92 (((f 82 17) - 1).toNatClampNeg)) - (f 92 (((f 82 17) - 1).toNatClampNeg)) / 1048576 * 1048576).toNatClampNeg) ((1048576 * ((f 91 (((f 92 (((f 82 17) - 1).toNatClampNeg)) - (f 92 (((f 82 17) - 1).toNatClampNeg)) / 1048576 * 1048576).toNatClampNeg)) / 1048576)) + (f 82 16))) 82 17 (((upd2 f 91 (((f 92 (((f 82 17) - 1).toNatClampNeg)) - (f 92 (((f 82 17) - 1).toNatClampNeg)) / 1048576 * 1048576).toNatClampNeg) ((1048576 * ((f 91 (((f 92 (((f 82 17) - 1).toNatClampNeg)) - (f 92 (((f 82 17) - 1).toNatClampNeg)) / 1048576 * 1048576).toNatClampNeg)) / 1048576)) + (f 82 16))) 82 17) - 1)) Q := by
      intro hc
      rw [if_pos hc] at hQ
      rw [e2, nI_clamp (by omega)]
      exact ih _ _ _ (h.land (j := x.2)).pop (by omega) hQ
    have stop : ¬ canJ True (all = true) x.1 → Q none sw f := by
      intro hc
      rw [if_neg hc] at hQ
      exact hQ f h
    refine bX11_lands_0 (rt_top h hl ?_)
    refine bX11_lands_4 (fun _ => v1) (fun _ => by rw [e2]; exact vx) (fun _ => by rw [e2]; exact vx) (fun z => go (Or.inl ⟨trivial, (nI_eqL (b := 11) ha (by omega)).mp z⟩)) (fun z hb0 => stop ?_) (fun z hb0 => rt_top h hl ?_)
    · rintro (⟨_, q⟩ | ⟨q, _⟩)
      · exact z (by show nI x.1 = 11; rw [q]; rfl)
      · rw [q] at hb0; exact absurd hb0 (by decide)
    · have hall : all = true := by cases all; exact absurd rfl hb0; rfl
      refine bX11_lands_17 (fun z2 => stop ?_) (fun _ => v1) (fun _ => by rw [e2]; exact vx) (fun _ => by rw [e2]; exact vx) (fun z2 => go (Or.inr ⟨hall, (nI_eqL (b := 12) ha (by omega)).mp z2⟩))
      rintro (⟨_, q⟩ | ⟨_, q⟩)
      · exact z (by show nI x.1 = 11; rw [q]; rfl)
      · exact z2 (by show nI x.1 = 12; rw [q]; rfl)
def CLj (b1 b2 : Prop) (S : St) (ls : SkL) : SkL → St → Prop
  | [], S0 => S0 = S ∧ ls = []
  | x :: l, S0 => (S0 = S ∧ ls = x :: l) ∨ (canJ b1 b2 x.1 ∧ CLj b1 b2 S ls l (S0.land (some x.2)))
theorem CLj.rf {b1 b2 : Prop} {S : St} : ∀ {ls : SkL}, CLj b1 b2 S ls ls S
  | [] => ⟨rfl, rfl⟩
  | _ :: _ => Or.inl ⟨rfl, rfl⟩
theorem CLj.step {b1 b2 : Prop} {S : St} {x : Nat × Nat} {ls : SkL} (hx : canJ b1 b2 x.1) : ∀ {ls0 : SkL} {S0 : St}, CLj b1 b2 S (x :: ls) ls0 S0 → CLj b1 b2 (S.land (some x.2)) ls ls0 S0
  | [], _, h => absurd h.2 (by simp)
  | y :: l, S0, h => by
    rcases h with ⟨h1, h2⟩ | ⟨h1, h2⟩
    · injection h2 with a c
      subst a c h1
      exact Or.inr ⟨hx, CLj.rf⟩
    · exact Or.inr ⟨h1, CLj.step hx h2⟩
theorem CLj.no {b1 b2 : Prop} (n1 : ¬ b1) (n2 : ¬ b2) {S : St} {ls : SkL} : ∀ {ls0 : SkL} {S0 : St}, CLj b1 b2 S ls ls0 S0 → S0 = S ∧ ls0 = ls
  | [], _, h => ⟨h.1, h.2.symm⟩
  | y :: l, S0, h => by
    rcases h with ⟨h1, h2⟩ | ⟨(z | z), h2⟩
    · exact ⟨h1, h2.symm⟩
    · exact absurd z.1 n1
    · exact absurd z.1 n2
theorem CLj.eq {b1 b2 : Prop} {all : Bool} (hb : b2 → all = true) {S : St} {ls : SkL} : ∀ {ls0 : SkL} {S0 : St}, CLj b1 b2 S ls ls0 S0 → ldz all S0 ls0 = ldz all S ls
  | [], _, h => by rw [h.1, h.2]
  | x :: l, S0, h => by
    rcases h with ⟨h1, h2⟩ | ⟨h1, h2⟩
    · rw [h1, h2]
    · conv => lhs; unfold ldz
      rw [if_pos (h1.imp (fun z => ⟨trivial, z.2⟩) (fun z => ⟨hb z.1, z.2⟩))]
      exact CLj.eq hb h2
theorem CLj.inv {b1 b2 : Prop} {S : St} {ls : SkL} : ∀ {ls0 : SkL} {S0 : St}, CLj b1 b2 S ls ls0 S0 → S0.p = S.p
  | [], _, h => by rw [h.1]
  | x :: l, S0, h => by
    rcases h with ⟨h1, h2⟩ | ⟨h1, h2⟩
    · rw [h1]
    · have r := CLj.inv h2
      rw [St.land_p] at r
      exact r
theorem ldz_k {all : Bool} : ∀ {l : SkL} {S : St}, (ldz all S l).1.p = S.p ∧ (ldz all S l).1.k = S.k ∧ WG (ldz all S l).2 = WG l ∧ (ldz all S l).2.length ≤ l.length
  | [], _ => ⟨rfl, rfl, rfl, Nat.le_refl _⟩
  | x :: l, S => by
    unfold ldz
    by_cases c : canJ True (all = true) x.1
    · rw [if_pos c]
      have r := ldz_k (all := all) (l := l) (S := S.land (some x.2))
      have : ¬ x.1 ≤ 10 := by rcases c with z | z <;> omega
      simp only [St.land_p, St.land_k] at r
      refine ⟨r.1, r.2.1, ?_, by simp only [List.length_cons]; omega⟩
      rw [r.2.2.1]
      exact (WG_hi (a := x.1) (b := x.2) this).symm
    · rw [if_neg c]; exact ⟨rfl, rfl, rfl, Nat.le_refl _⟩
def topN (P : Nat → Prop) (l : SkL) : Prop := ∀ x l', l = x :: l' → P x.1
theorem topN_cons {P : Nat → Prop} {x : Nat × Nat} {l : SkL} (h : P x.1) : topN P (x :: l) := fun y l' e => by injection e with a b; subst a; exact h
theorem ldz_f {S : St} : ∀ {l : SkL}, topN (fun a => ¬ a = 11) l → ldz false S l = (S, l)
  | [], _ => rfl
  | x :: l, h => if_neg (by rintro (z | ⟨z, _⟩); exact h x l rfl z.2; exact absurd z (by decide))
theorem ldz_t {S : St} : ∀ {l : SkL}, topN (fun a => ¬ a = 11 ∧ ¬ a = 12) l → ldz true S l = (S, l)
  | [], _ => rfl
  | x :: l, h => if_neg (by rintro (z | z); exact (h x l rfl).1 z.2; exact (h x l rfl).2 z.2)
def cst (l : SkL) : Prop := ∀ x, x ∈ l → 10 ≤ x.1
theorem cst.nT {l : SkL} (h : cst l) : nTp 2 l := fun x l' e z => by
  have := h x (by rw [e]; exact List.mem_cons_self)
  omega
theorem cst.cons {x : Nat × Nat} {l : SkL} (h : cst l) (hx : 10 ≤ x.1) : cst (x :: l) := fun y hy => by
  rcases List.mem_cons.mp hy with z | z
  · rw [z]; exact hx
  · exact h y z
abbrev b1z (c : Int32) : Prop := ¬ c = 38
abbrev b2z (c : Int32) : Prop := ¬ c = 38 ∧ ¬ c = 124
def CKz (G : GC) (d : Nat) (sw : Bool) (f0 : FF) (n : Nat) (Q : QQ) (o : Nat) (S : St) (st : SkL) : Prop := ∀ (S0 : St) (st0 : SkL) (f : FF), CLj (b1z (tx (f0 90) n S.p)) (b2z (tx (f0 90) n S.p)) S st st0 S0 → RZS f0 f n S0 o st0 → XP G mX11_readsCondition (d + 6) 92 [.ref 82] [] sw f Q
def STz (G : GC) (d : Nat) (sw : Bool) (f0 : FF) (n : Nat) (Q : QQ) (o : Nat) (S : St) (st : SkL) : Prop := ∀ (f : FF), RZS f0 f n S o st → XP G mX11_readsCondition (d + 6) 40 [.ref 82] [] sw f Q
def AFz (G : GC) (d : Nat) (sw : Bool) (f0 : FF) (n : Nat) (Q : QQ) (o : Nat) (S : St) (st : SkL) : Prop := ∀ (d' : Nat) (f : FF) (Qe : QQ), RZS f0 f n S o st → (∀ g, XP G mX11_readsCondition (d + 6) 92 [.ref 82] [] sw g Q → Qe none sw g) → XP G mX11_endsPiece (d' + 1) 0 [.ref 82] [] sw f Qe
theorem CKz.of {G : GC} {d : Nat} {sw : Bool} {f0 : FF} {n : Nat} {Q : QQ} {o : Nat} {S : St} {st : SkL} (h : CKz G d sw f0 n Q o S st) {f : FF} (hf : RZS f0 f n S o st) : XP G mX11_readsCondition (d + 6) 92 [.ref 82] [] sw f Q := h S st f CLj.rf hf
theorem AFz.ck {G : GC} {d : Nat} {sw : Bool} {f0 : FF} {n : Nat} {Q : QQ} {o : Nat} {S : St} {st : SkL} (hn : n ≤ 240) (ht : topN (fun a => ¬ a = 10) st) (h : CKz G d sw f0 n Q o S st) : AFz G d sw f0 n Q o S st := by
  intro d' f Qe hf hq
  have hl : st.length ≤ 240 := by have := hf.2.1; have := hf.2.2.1; omega
  refine bX11_endsPiece_0 (rt_top hf.1 hl (bX11_endsPiece_4 (fun _ => hq f (h.of hf)) (fun z => ?_)))
  cases st with
  | nil => exact absurd z (by decide)
  | cons x l =>
    have ha := hf.1.2.2.2.2.2.2.2.1
    exact absurd ((nI_eqL (b := 10) ha (by omega)).mp z) (ht x l rfl)
theorem AFz.nt {G : GC} {d : Nat} {sw : Bool} {f0 : FF} {n : Nat} {Q : QQ} {o : Nat} {S : St} {st : SkL} (hn : n ≤ 240) (h : AFz G d sw f0 n Q o (S.put 33 0) st) : AFz G d sw f0 n Q (o + 1) S ((10, 0) :: st) := by
  intro d' f Qe hf hq
  obtain ⟨hb, b1, b2, b3, b4⟩ := hf
  rw [WG_lo (by decide)] at b3
  simp only [List.length_cons] at b2
  refine bX11_endsPiece_0 (rt_top hb (by simp only [List.length_cons]; omega) (bX11_endsPiece_4 (fun z => absurd rfl z) (fun _ => ?_)))
  refine rt_notes (c := 33) hb (by omega) (by decide) (fun g hg => bX11_endsPiece_16 ?_)
  exact h d' _ Qe ⟨hg.pop.setO (o' := o) (by rw [hg.pop.2.2.2.2.1, ← nI_add]; exact Int32.add_sub_cancel _ _), b1, by simp only [St.put_p]; omega, by simp only [St.put_p, St.put_k]; omega, by omega⟩ hq
theorem St.jcomm (S : St) (J : Option Nat) (c w : Int32) : ((S.land J).put c w).adv = (S.adv.land J).put c w := by cases J <;> rfl
theorem rt_jumps {G : GC} {d : Nat} {sw : Bool} {f0 f : FF} {Q : QQ} {S : St} {o : Nat} {st : SkL} {c x1 : Int32} (h : RFb f0 f S o st) (hl : st.length < 240) (hk : S.k < 240) (hx : x1 = nI (opc c)) (hQ : ∀ g, RFb f0 g (S.put c 0).adv o ((opc c, S.k) :: st) → Q none sw g) (hc : opc c ≤ 14) : XP G mX11_jumps (d + 1) 0 [.ref 82, .int x1] [] sw f Q := by
  refine bX11_jumps_0 (by rw [h.2.2.2.2.2.1]; exact vp_in_nI (by omega) (by omega)) ?_
  have hp := h.push (y := 1048576 * x1 + f 82 16) (a := opc c) (b := S.k) (by omega) (by rw [hx, h.2.2.1, show (1048576 : Int32) = nI 1048576 from rfl, pk_mul, nI_add]) hc (by omega)
  exact rt_notes (c := c) hp hk hx (fun g hg => bX11_jumps_34 (hQ _ hg.adv))
def oJ (a : Nat) : Option Nat → SkL
  | none => []
  | some j => [(a, j)]
def rez (f0 : FF) (sw : Bool) (Q : QQ) (P : St → Prop) : Except Int32 St → Prop
  | .ok S' => P S'
  | .error e => Erz f0 sw Q e
def TPz (G : GC) (d : Nat) (sw : Bool) (f0 : FF) (n : Nat) (Q : QQ) (S : St) : Prop := ∀ (f : FF) (o : Nat) (st : SkL), RFb f0 f S o st → S.p ≤ n → S.k ≤ S.p → XP G mX11_readsCondition (d + 6) 0 [.ref 82] [] sw f Q
def MCz (G : GC) (d : Nat) (sw : Bool) (f0 : FF) (n : Nat) (Q : QQ) (K : Nat) (J : Option Nat) (o : Nat) (S : St) (r : Except Int32 St) : Prop := match K with
  | 5 => ∀ st, ¬ tx (f0 90) n S.p = 40 → ¬ tx (f0 90) n S.p = 33 → cst st → rez f0 sw Q (fun S' => AFz G d sw f0 n Q o S' st) r → STz G d sw f0 n Q o S st
  | 6 => (∀ st, tx (f0 90) n S.p = 40 → cst st → st ≠ [] → rez f0 sw Q (fun S' => AFz G d sw f0 n Q o S' st) r → STz G d sw f0 n Q o S st) ∧ (o = 0 → rez f0 sw Q (fun S' => ∀ g, RFb f0 g S' 0 [] → S'.p ≤ n → S'.k ≤ S'.p → Q (some (.int 1)) sw g) r → TPz G d sw f0 n Q S)
  | 7 => ∀ st, cst st → st ≠ [] → rez f0 sw Q (fun S' => AFz G d sw f0 n Q o S' st) r → STz G d sw f0 n Q o S st
  | 8 => ∀ st, cst st → st ≠ [] → topN (fun a => ¬ a = 10 ∧ ¬ a = 11) st → rez f0 sw Q (fun S' => CKz G d sw f0 n Q o S' st) r → CKz G d sw f0 n Q o S (oJ 11 J ++ st)
  | 9 => ∀ st, cst st → st ≠ [] → topN (fun a => ¬ a = 10 ∧ ¬ a = 11) st → rez f0 sw Q (fun S' => CKz G d sw f0 n Q o S' st) r → STz G d sw f0 n Q o S st
  | 10 => ∀ st, cst st → ¬ tx (f0 90) n S.p = 38 → rez f0 sw Q (fun S' => CKz G d sw f0 n Q o S' ((13, 0) :: st)) r → CKz G d sw f0 n Q o S (oJ 12 J ++ (13, 0) :: st)
  | 11 => ∀ st, cst st → rez f0 sw Q (fun S' => CKz G d sw f0 n Q o S' ((13, 0) :: st)) r → STz G d sw f0 n Q o S ((13, 0) :: st)
  | _ => True
theorem PL.conds {G : GC} {d : Nat} {sw : Bool} {f0 : FF} {n : Nat} {Q : QQ} (h12 : f0 82 12 = nI n) (hn : n ≤ 240) {K : Nat} {J : Option Nat} {o : Nat} {S : St} {r : Except Int32 St} (h : PL (f0 90) n K J o S r) : MCz G d sw f0 n Q K J o S r := by
  refine PL.ind (M := fun K J o S r => MCz G d sw f0 n Q K J o S r) h ?facB ?facX ?facE ?facO ?facL ?facN ?facM ?prodO ?prodE ?prodZ ?prodS ?prodF ?sumO ?sumE ?sumZ ?sumS ?sumF ?comE ?comX ?comF ?comO ?tB ?tO ?tE ?tN ?tC ?bX ?bO ?bE ?bC ?bF ?parO ?parE ?parZ ?parS ?parF ?conO ?conE ?conZ ?conS ?conF
  case comE =>
    intro o S e h1 i1
    intro st e40 e33 hc hr f hf
    have hf0 := hf
    obtain ⟨hb, b1, b2, b3, b4⟩ := hf
    have hh := hb.here h12 hn b1
    have hv := (hb.mx h12 hn b1).vp
    refine bX11_readsCondition_40 hv (fun z => absurd (hh.symm.trans z) e33) (fun z => absurd (hh.symm.trans z) e33) (fun z => absurd (hh.symm.trans z) e33) (fun _ => hv) (fun _ _ => ?_) (fun _ z => absurd (hh.symm.trans z) e40) (fun _ z => absurd (hh.symm.trans z) e40) (fun _ z => absurd (hh.symm.trans z) e40)
    refine bX11_readsCompared_0 (rt_sum h12 hn h1 hf0 hc.nT (fun e2 he g hg h5 => ?_) (fun S2 he => absurd he (by simp)))
    cases he
    exact bX11_readsCompared_4 (fun z => absurd rfl z) (fun z => absurd rfl z) (fun z => absurd rfl z) (fun z => absurd rfl z) (fun z => absurd rfl z) (fun z => absurd rfl z) (fun z => absurd rfl z) (fun _ => bX11_readsCondition_87 (fun z => absurd rfl z) (fun _ => hr g hg h5))
  case comX =>
    intro o S S1 h1 h2 i1
    intro st e40 e33 hc hr f hf
    have hf0 := hf
    obtain ⟨hb, b1, b2, b3, b4⟩ := hf
    have hh := hb.here h12 hn b1
    have hv := (hb.mx h12 hn b1).vp
    refine bX11_readsCondition_40 hv (fun z => absurd (hh.symm.trans z) e33) (fun z => absurd (hh.symm.trans z) e33) (fun z => absurd (hh.symm.trans z) e33) (fun _ => hv) (fun _ _ => ?_) (fun _ z => absurd (hh.symm.trans z) e40) (fun _ z => absurd (hh.symm.trans z) e40) (fun _ z => absurd (hh.symm.trans z) e40)
    refine bX11_readsCompared_0 (rt_sum h12 hn h1 hf0 hc.nT (fun e2 he => absurd he (by simp)) (fun S2 he g hg => ?_))
    cases he
    have hg0 := hg
    obtain ⟨gb, g1, g2, g3, g4⟩ := hg
    have gh := gb.here h12 hn g1
    have gv := (gb.mx h12 hn g1).vp
    exact bX11_readsCompared_4 (fun _ => gv) (fun _ _ => gv) (fun _ _ _ => gv) (fun _ _ _ _ => sp_wrongAt (w := 1) gb.2.1 (bX11_readsCompared_67 (Or.inl rfl) (bX11_readsCondition_87 (fun z => absurd rfl z) (fun _ => hr _ (gb.1.up (by omega)) (by rw [upd2_self, pk_us]))))) (fun _ _ _ z => absurd (Or.inr (Or.inr (gh.symm.trans z))) h2) (fun _ _ z => absurd (Or.inr (Or.inl (gh.symm.trans z))) h2) (fun _ z => absurd (Or.inl (gh.symm.trans z)) h2) (fun z => absurd z (by decide))
  case comF =>
    intro o S S1 e h1 h2 h3 i1 i2
    intro st e40 e33 hc hr f hf
    have hf0 := hf
    obtain ⟨hb, b1, b2, b3, b4⟩ := hf
    have hh := hb.here h12 hn b1
    have hv := (hb.mx h12 hn b1).vp
    refine bX11_readsCondition_40 hv (fun z => absurd (hh.symm.trans z) e33) (fun z => absurd (hh.symm.trans z) e33) (fun z => absurd (hh.symm.trans z) e33) (fun _ => hv) (fun _ _ => ?_) (fun _ z => absurd (hh.symm.trans z) e40) (fun _ z => absurd (hh.symm.trans z) e40) (fun _ z => absurd (hh.symm.trans z) e40)
    refine bX11_readsCompared_0 (rt_sum h12 hn h1 hf0 hc.nT (fun e2 he => absurd he (by simp)) (fun S2 he g hg => ?_))
    cases he
    have hg0 := hg
    obtain ⟨gb, g1, g2, g3, g4⟩ := hg
    have gh := gb.here h12 hn g1
    have gv := (gb.mx h12 hn g1).vp
    have q := tx_ne1 (P := isC) h2 (by decide)
    have ga : RZS f0 (upd2 g 82 11 (g 82 11 + 1)) n S1.adv o st := ⟨gb.adv, q, by simp only [St.adv_p]; omega, by simp only [St.adv_p, St.adv_k]; omega, g4⟩
    have key : ∀ x : Int32, x = nI (opc (tx (f0 90) n S1.p)) → XP G mX11_readsSum (d + 4) 0 [.ref 82, .null, .null] [] sw (upd2 g 82 11 (g 82 11 + 1)) (fun v sw' f' => XP G mX11_readsCompared (d + 5) 82 [.ref 82, .int x] (retst v []) sw' f' (fun v sw' f' => XP G mX11_readsCondition (d + 6) 87 [.ref 82] (retst v []) sw' f' Q)) := by
      intro x hx
      refine rt_sum h12 hn h3 ga hc.nT (fun e2 he g3 hg3 h5 => ?_) (fun S2 he => absurd he (by simp))
      cases he
      exact bX11_readsCompared_82 (fun z => absurd rfl z) (fun _ => bX11_readsCondition_87 (fun z => absurd rfl z) (fun _ => hr g3 hg3 h5))
    refine bX11_readsCompared_4 (fun _ => gv) (fun _ _ => gv) (fun _ _ _ => gv) (fun _ z1 z2 z3 => ?_) (fun _ _ _ z => key 9 (by rw [← gh, z]; decide)) (fun _ _ z => key 8 (by rw [← gh, z]; decide)) (fun _ z => key 7 (by rw [← gh, z]; decide)) (fun z => absurd z (by decide))
    rw [gh] at z1 z2 z3
    exact absurd h2 (fun z => z.elim z1 (fun z => z.elim z2 z3))
  case comO =>
    intro o S S1 S2 h1 h2 h3 i1 i2
    intro st e40 e33 hc hr f hf
    have hf0 := hf
    obtain ⟨hb, b1, b2, b3, b4⟩ := hf
    have hh := hb.here h12 hn b1
    have hv := (hb.mx h12 hn b1).vp
    refine bX11_readsCondition_40 hv (fun z => absurd (hh.symm.trans z) e33) (fun z => absurd (hh.symm.trans z) e33) (fun z => absurd (hh.symm.trans z) e33) (fun _ => hv) (fun _ _ => ?_) (fun _ z => absurd (hh.symm.trans z) e40) (fun _ z => absurd (hh.symm.trans z) e40) (fun _ z => absurd (hh.symm.trans z) e40)
    refine bX11_readsCompared_0 (rt_sum h12 hn h1 hf0 hc.nT (fun e2 he => absurd he (by simp)) (fun S2 he g hg => ?_))
    cases he
    have hg0 := hg
    obtain ⟨gb, g1, g2, g3, g4⟩ := hg
    have gh := gb.here h12 hn g1
    have gv := (gb.mx h12 hn g1).vp
    have q := tx_ne1 (P := isC) h2 (by decide)
    have ga : RZS f0 (upd2 g 82 11 (g 82 11 + 1)) n S1.adv o st := ⟨gb.adv, q, by simp only [St.adv_p]; omega, by simp only [St.adv_p, St.adv_k]; omega, g4⟩
    have key : ∀ x : Int32, x = nI (opc (tx (f0 90) n S1.p)) → XP G mX11_readsSum (d + 4) 0 [.ref 82, .null, .null] [] sw (upd2 g 82 11 (g 82 11 + 1)) (fun v sw' f' => XP G mX11_readsCompared (d + 5) 82 [.ref 82, .int x] (retst v []) sw' f' (fun v sw' f' => XP G mX11_readsCondition (d + 6) 87 [.ref 82] (retst v []) sw' f' Q)) := by
      intro x hx
      have l1 := h1.len _ rfl b1
      have l3 := h3.len _ rfl q
      simp only [St.adv_p, St.adv_k] at l3
      refine rt_sum h12 hn h3 ga hc.nT (fun e2 he => absurd he (by simp)) (fun S3 he g3 hg3 => ?_)
      cases he
      refine bX11_readsCompared_82 (fun _ => rt_notes (c := tx (f0 90) n S1.p) hg3.1 (by have := hg3.2.2.2.1; omega) hx (fun g4 hg4 => bX11_readsCompared_93 ?_)) (fun z => absurd z (by decide))
      have y := hg3.2
      refine hr (d + 3) g4 _ ⟨hg4, y.1, y.2.1, by simp only [St.put_p, St.put_k]; omega, y.2.2.2⟩ (fun g5 h5 => bX11_readsCompared_97 (bX11_readsCondition_87 (fun _ => h5) (fun z => absurd z (by decide))))
    refine bX11_readsCompared_4 (fun _ => gv) (fun _ _ => gv) (fun _ _ _ => gv) (fun _ z1 z2 z3 => ?_) (fun _ _ _ z => key 9 (by rw [← gh, z]; decide)) (fun _ _ z => key 8 (by rw [← gh, z]; decide)) (fun _ z => key 7 (by rw [← gh, z]; decide)) (fun z => absurd z (by decide))
    rw [gh] at z1 z2 z3
    exact absurd h2 (fun z => z.elim z1 (fun z => z.elim z2 z3))
  case tB =>
    intro o S r h1 h2 i1
    exact fun st hc hne hr => i1.1 st h1 hc hne hr
  case tC =>
    intro o S r h1 h2 h3 i1
    exact fun st hc hne hr => i1 st h1 h2 hc hr
  case tO =>
    intro o S h1 h2
    intro st hc hne hr f hf
    have hf0 := hf
    obtain ⟨hb, b1, b2, b3, b4⟩ := hf
    have hh := hb.here h12 hn b1
    have hv := (hb.mx h12 hn b1).vp
    have q := tx_in h1 (by decide)
    have e33 : hereF f = 33 := hh.trans h1
    refine bX11_readsCondition_40 hv (fun _ => hv) (fun _ z => absurd e33 z) (fun _ _ => ?_) (fun z => absurd e33 z) (fun z => absurd e33 z) (fun z => absurd e33 z) (fun z => absurd e33 z) (fun z => absurd e33 z)
    exact rt_opens (a := 10) hb (by omega) b4 rfl (by omega) (fun z => absurd z h2) (fun _ g hg h5 => bX11_readsCondition_78 (fun z => absurd rfl z) (fun _ => hr g hg h5))
  case tE =>
    intro o S e h1 h2 h3 i1
    intro st hc hne hr f hf
    have hf0 := hf
    obtain ⟨hb, b1, b2, b3, b4⟩ := hf
    have hh := hb.here h12 hn b1
    have hv := (hb.mx h12 hn b1).vp
    have q := tx_in h1 (by decide)
    have e33 : hereF f = 33 := hh.trans h1
    refine bX11_readsCondition_40 hv (fun _ => hv) (fun _ z => absurd e33 z) (fun _ _ => ?_) (fun z => absurd e33 z) (fun z => absurd e33 z) (fun z => absurd e33 z) (fun z => absurd e33 z) (fun z => absurd e33 z)
    refine rt_opens (a := 10) hb (by omega) b4 rfl (by omega) (fun _ g hg => bX11_readsCondition_78 (fun _ => ?_) (fun z => absurd z (by decide))) (fun z => absurd h2 z)
    have hg2 : RZS f0 g n S.adv (o + 1) ((10, 0) :: st) := ⟨hg, by simp only [St.adv_p]; omega, by simp only [St.adv_p, List.length_cons]; omega, by rw [WG_lo (by decide)]; simp only [St.adv_p, St.adv_k]; omega, by omega⟩
    exact i1 ((10, 0) :: st) (hc.cons (by decide)) (by simp) hr g hg2
  case tN =>
    intro o S S1 h1 h2 h3 i1
    intro st hc hne hr f hf
    have hf0 := hf
    obtain ⟨hb, b1, b2, b3, b4⟩ := hf
    have hh := hb.here h12 hn b1
    have hv := (hb.mx h12 hn b1).vp
    have q := tx_in h1 (by decide)
    have e33 : hereF f = 33 := hh.trans h1
    refine bX11_readsCondition_40 hv (fun _ => hv) (fun _ z => absurd e33 z) (fun _ _ => ?_) (fun z => absurd e33 z) (fun z => absurd e33 z) (fun z => absurd e33 z) (fun z => absurd e33 z) (fun z => absurd e33 z)
    refine rt_opens (a := 10) hb (by omega) b4 rfl (by omega) (fun _ g hg => bX11_readsCondition_78 (fun _ => ?_) (fun z => absurd z (by decide))) (fun z => absurd h2 z)
    have hg2 : RZS f0 g n S.adv (o + 1) ((10, 0) :: st) := ⟨hg, by simp only [St.adv_p]; omega, by simp only [St.adv_p, List.length_cons]; omega, by rw [WG_lo (by decide)]; simp only [St.adv_p, St.adv_k]; omega, by omega⟩
    exact i1 ((10, 0) :: st) (hc.cons (by decide)) (by simp) (AFz.nt hn hr) g hg2
  case bX =>
    intro o S h1
    refine ⟨?_, ?_⟩
    · exact fun st e40 => absurd e40 h1
    · intro ho hr f o0 st0 hb b1 b3
      subst ho
      have hh := hb.here h12 hn b1
      have hv := (hb.mx h12 hn b1).vp
      exact bX11_readsCondition_0 hv (fun z => absurd (hh.symm.trans z) h1) (fun _ => sp_wrongAt (w := 1) hb.2.1 (bX11_readsCondition_18 (Or.inl rfl) (hr _ (hb.1.up (by omega)) (by rw [upd2_self, pk_us]))))
  case bO =>
    intro o S h1 h2
    refine ⟨?_, ?_⟩
    · intro st e40 hc hne hr f hf
      have hf0 := hf
      obtain ⟨hb, b1, b2, b3, b4⟩ := hf
      have hh := hb.here h12 hn b1
      have hv := (hb.mx h12 hn b1).vp
      have q := tx_in h1 (by decide)
      have e40 : hereF f = 40 := hh.trans h1
      have n33 : ¬ hereF f = 33 := by rw [e40]; decide
      refine bX11_readsCondition_40 hv (fun z => absurd z n33) (fun z => absurd z n33) (fun z => absurd z n33) (fun _ => hv) (fun _ z => absurd e40 z) (fun _ _ => hv) (fun _ _ _ => ?_) (fun _ _ z => absurd z n33)
      exact rt_opens (a := 13) hb (by omega) b4 rfl (by omega) (fun z => absurd z h2) (fun _ g hg h5 => bX11_readsCondition_78 (fun z => absurd rfl z) (fun _ => hr g hg h5))
    · intro ho
      omega
  case bE =>
    intro o S e h1 h2 h3 i1
    refine ⟨?_, ?_⟩
    · intro st e40 hc hne hr f hf
      have hf0 := hf
      obtain ⟨hb, b1, b2, b3, b4⟩ := hf
      have hh := hb.here h12 hn b1
      have hv := (hb.mx h12 hn b1).vp
      have q := tx_in h1 (by decide)
      have e40 : hereF f = 40 := hh.trans h1
      have n33 : ¬ hereF f = 33 := by rw [e40]; decide
      refine bX11_readsCondition_40 hv (fun z => absurd z n33) (fun z => absurd z n33) (fun z => absurd z n33) (fun _ => hv) (fun _ z => absurd e40 z) (fun _ _ => hv) (fun _ _ _ => ?_) (fun _ _ z => absurd z n33)
      refine rt_opens (a := 13) hb (by omega) b4 rfl (by omega) (fun _ g hg => bX11_readsCondition_78 (fun _ => ?_) (fun z => absurd z (by decide))) (fun z => absurd h2 z)
      have hg2 : RZS f0 g n S.adv (o + 1) ((13, 0) :: st) := ⟨hg, by simp only [St.adv_p]; omega, by simp only [St.adv_p, List.length_cons]; omega, by rw [WG_hi (by decide)]; simp only [St.adv_p, St.adv_k]; omega, by omega⟩
      exact i1 st hc hr g hg2
    · intro ho hr f o0 st0 hb b1 b3
      subst ho
      have hh := hb.here h12 hn b1
      have hv := (hb.mx h12 hn b1).vp
      have q := tx_in h1 (by decide)
      have e40 : hereF f = 40 := hh.trans h1
      refine bX11_readsCondition_0 hv (fun _ => ?_) (fun z => absurd e40 z)
      refine rt_opens (a := 13) hb.reset (by simp) (by omega) rfl (by omega) (fun _ g hg => bX11_readsCondition_35 (fun _ => ?_) (fun z => absurd z (by decide))) (fun z => absurd (by decide) z)
      have hg2 : RZS f0 g n S.adv (0 + 1) [(13, 0)] := ⟨hg, by simp only [St.adv_p]; omega, by simp only [St.adv_p, List.length_cons, List.length_nil]; omega, by rw [WG_hi (by decide)]; show S.k + 0 ≤ S.p + 1; omega, by omega⟩
      exact i1 [] (fun x hx => absurd hx (by simp)) hr g hg2
  case bC =>
    intro o S S1 h1 h2 h3 h4 i1
    refine ⟨?_, ?_⟩
    · intro st e40 hc hne hr f hf
      have hf0 := hf
      obtain ⟨hb, b1, b2, b3, b4⟩ := hf
      have hh := hb.here h12 hn b1
      have hv := (hb.mx h12 hn b1).vp
      have q := tx_in h1 (by decide)
      have e40 : hereF f = 40 := hh.trans h1
      have n33 : ¬ hereF f = 33 := by rw [e40]; decide
      refine bX11_readsCondition_40 hv (fun z => absurd z n33) (fun z => absurd z n33) (fun z => absurd z n33) (fun _ => hv) (fun _ z => absurd e40 z) (fun _ _ => hv) (fun _ _ _ => ?_) (fun _ _ z => absurd z n33)
      refine rt_opens (a := 13) hb (by omega) b4 rfl (by omega) (fun _ g hg => bX11_readsCondition_78 (fun _ => ?_) (fun z => absurd z (by decide))) (fun z => absurd h2 z)
      have hg2 : RZS f0 g n S.adv (o + 1) ((13, 0) :: st) := ⟨hg, by simp only [St.adv_p]; omega, by simp only [St.adv_p, List.length_cons]; omega, by rw [WG_hi (by decide)]; simp only [St.adv_p, St.adv_k]; omega, by omega⟩
      refine i1 st hc ?_ g hg2
      intro S0 st0 f2 hj hf2
      have ed := h3.edz _ rfl
      have ci := hj.inv
      obtain ⟨hb2, c1, c2, c3, c4⟩ := hf2
      have hh2 := hb2.here h12 hn c1
      have hv2 := (hb2.mx h12 hn c1).vp
      rw [ci] at hh2
      have cc := hj.eq (all := true) (fun _ => rfl)
      rw [ldz_t (topN_cons (by decide))] at cc
      have ck := ldz_k (all := true) (l := st0) (S := S0)
      rw [cc] at ck
      dsimp only at ck
      rw [WG_hi (by decide)] at ck
      simp only [List.length_cons] at ck
      have q4 := tx_in h4 (by decide)
      have e41 : hereF f2 = 41 := hh2.trans h4
      refine bX11_readsCondition_92 hv2 (fun z => absurd e41 z) (fun z => absurd e41 z) (fun z => absurd e41 z) (fun z => absurd e41 z) (fun z => absurd e41 z) (fun z => absurd e41 z) (fun z => absurd e41 z) (fun z => absurd e41 z) (fun z => absurd e41 z) (fun _ => ?_)
      refine rt_lands (all := true) _ _ _ _ hb2 (by omega) (fun g3 hg3 => ?_)
      rw [cc] at hg3
      dsimp only at hg3
      have hg4 := (hg3.pop.setO (x := (upd2 g3 82 17 (g3 82 17 - 1)) 82 15 - 1) (o' := o) (by rw [hg3.pop.2.2.2.2.1, ← nI_add]; exact Int32.add_sub_cancel _ _)).adv
      have n0 : ¬ st.length = 0 := fun z => hne (List.eq_nil_of_length_eq_zero z)
      refine bX11_readsCondition_106 (fun _ => ?_) (fun z => ?_)
      · exact hr (d + 4) _ _ ⟨hg4, by simp only [St.adv_p]; omega, by simp only [St.adv_p]; omega, by simp only [St.adv_p, St.adv_k]; omega, by omega⟩ (fun g5 h5 => bX11_readsCondition_149 h5)
      · have e := hg4.2.2.2.2.2.1.symm.trans z
        exact absurd ((nI_eq (a := st.length) (b := 0) (by omega) (by omega)).mp e) n0
    · intro ho hr f o0 st0 hb b1 b3
      subst ho
      have hh := hb.here h12 hn b1
      have hv := (hb.mx h12 hn b1).vp
      have q := tx_in h1 (by decide)
      have e40 : hereF f = 40 := hh.trans h1
      refine bX11_readsCondition_0 hv (fun _ => ?_) (fun z => absurd e40 z)
      refine rt_opens (a := 13) hb.reset (by simp) (by omega) rfl (by omega) (fun _ g hg => bX11_readsCondition_35 (fun _ => ?_) (fun z => absurd z (by decide))) (fun z => absurd (by decide) z)
      have hg2 : RZS f0 g n S.adv (0 + 1) [(13, 0)] := ⟨hg, by simp only [St.adv_p]; omega, by simp only [St.adv_p, List.length_cons, List.length_nil]; omega, by rw [WG_hi (by decide)]; show S.k + 0 ≤ S.p + 1; omega, by omega⟩
      refine i1 [] (fun x hx => absurd hx (by simp)) ?_ g hg2
      intro S0 st0 f2 hj hf2
      have ed := h3.edz _ rfl
      have ci := hj.inv
      obtain ⟨hb2, c1, c2, c3, c4⟩ := hf2
      have hh2 := hb2.here h12 hn c1
      have hv2 := (hb2.mx h12 hn c1).vp
      rw [ci] at hh2
      have cc := hj.eq (all := true) (fun _ => rfl)
      rw [ldz_t (topN_cons (by decide))] at cc
      have ck := ldz_k (all := true) (l := st0) (S := S0)
      rw [cc] at ck
      dsimp only at ck
      rw [WG_hi (by decide)] at ck
      simp only [List.length_cons] at ck
      have q4 := tx_in h4 (by decide)
      have e41 : hereF f2 = 41 := hh2.trans h4
      refine bX11_readsCondition_92 hv2 (fun z => absurd e41 z) (fun z => absurd e41 z) (fun z => absurd e41 z) (fun z => absurd e41 z) (fun z => absurd e41 z) (fun z => absurd e41 z) (fun z => absurd e41 z) (fun z => absurd e41 z) (fun z => absurd e41 z) (fun _ => ?_)
      refine rt_lands (all := true) _ _ _ _ hb2 (by omega) (fun g3 hg3 => ?_)
      rw [cc] at hg3
      dsimp only at hg3
      have hg4 := (hg3.pop.setO (x := (upd2 g3 82 17 (g3 82 17 - 1)) 82 15 - 1) (o' := 0) (by rw [hg3.pop.2.2.2.2.1, ← nI_add]; exact Int32.add_sub_cancel _ _)).adv
      refine bX11_readsCondition_106 (fun z => absurd hg4.2.2.2.2.2.1 z) (fun _ => ?_)
      exact hr _ hg4 (by simp only [St.adv_p]; omega) (by simp only [St.adv_p, St.adv_k]; omega)
  case bF =>
    intro o S S1 h1 h2 h3 h4 i1
    refine ⟨?_, ?_⟩
    · intro st e40 hc hne hr f hf
      have hf0 := hf
      obtain ⟨hb, b1, b2, b3, b4⟩ := hf
      have hh := hb.here h12 hn b1
      have hv := (hb.mx h12 hn b1).vp
      have q := tx_in h1 (by decide)
      have e40 : hereF f = 40 := hh.trans h1
      have n33 : ¬ hereF f = 33 := by rw [e40]; decide
      refine bX11_readsCondition_40 hv (fun z => absurd z n33) (fun z => absurd z n33) (fun z => absurd z n33) (fun _ => hv) (fun _ z => absurd e40 z) (fun _ _ => hv) (fun _ _ _ => ?_) (fun _ _ z => absurd z n33)
      refine rt_opens (a := 13) hb (by omega) b4 rfl (by omega) (fun _ g hg => bX11_readsCondition_78 (fun _ => ?_) (fun z => absurd z (by decide))) (fun z => absurd h2 z)
      have hg2 : RZS f0 g n S.adv (o + 1) ((13, 0) :: st) := ⟨hg, by simp only [St.adv_p]; omega, by simp only [St.adv_p, List.length_cons]; omega, by rw [WG_hi (by decide)]; simp only [St.adv_p, St.adv_k]; omega, by omega⟩
      refine i1 st hc ?_ g hg2
      intro S0 st0 f2 hj hf2
      have ed := h3.edz _ rfl
      have ci := hj.inv
      obtain ⟨hb2, c1, c2, c3, c4⟩ := hf2
      have hh2 := hb2.here h12 hn c1
      have hv2 := (hb2.mx h12 hn c1).vp
      rw [ci] at hh2
      have e41 : ¬ hereF f2 = 41 := fun z => h4 (hh2.symm.trans z)
      have e38 : ¬ hereF f2 = 38 := fun z => ed.1 (hh2.symm.trans z)
      have e124 : ¬ hereF f2 = 124 := fun z => ed.2 (hh2.symm.trans z)
      exact bX11_readsCondition_92 hv2 (fun _ => hv2) (fun _ z => absurd z e38) (fun _ z => absurd z e38) (fun _ z => absurd z e38) (fun _ _ => hv2) (fun _ _ z => absurd z e124) (fun _ _ z => absurd z e124) (fun _ _ z => absurd z e124) (fun _ _ _ => sp_wrongAt (w := 1) hb2.2.1 (bX11_readsCondition_179 (Or.inl rfl) (hr _ (hb2.1.up (by omega)) (by rw [upd2_self, pk_us, ci])))) (fun z => absurd z e41)
    · intro ho hr f o0 st0 hb b1 b3
      subst ho
      have hh := hb.here h12 hn b1
      have hv := (hb.mx h12 hn b1).vp
      have q := tx_in h1 (by decide)
      have e40 : hereF f = 40 := hh.trans h1
      refine bX11_readsCondition_0 hv (fun _ => ?_) (fun z => absurd e40 z)
      refine rt_opens (a := 13) hb.reset (by simp) (by omega) rfl (by omega) (fun _ g hg => bX11_readsCondition_35 (fun _ => ?_) (fun z => absurd z (by decide))) (fun z => absurd (by decide) z)
      have hg2 : RZS f0 g n S.adv (0 + 1) [(13, 0)] := ⟨hg, by simp only [St.adv_p]; omega, by simp only [St.adv_p, List.length_cons, List.length_nil]; omega, by rw [WG_hi (by decide)]; show S.k + 0 ≤ S.p + 1; omega, by omega⟩
      refine i1 [] (fun x hx => absurd hx (by simp)) ?_ g hg2
      intro S0 st0 f2 hj hf2
      have ed := h3.edz _ rfl
      have ci := hj.inv
      obtain ⟨hb2, c1, c2, c3, c4⟩ := hf2
      have hh2 := hb2.here h12 hn c1
      have hv2 := (hb2.mx h12 hn c1).vp
      rw [ci] at hh2
      have e41 : ¬ hereF f2 = 41 := fun z => h4 (hh2.symm.trans z)
      have e38 : ¬ hereF f2 = 38 := fun z => ed.1 (hh2.symm.trans z)
      have e124 : ¬ hereF f2 = 124 := fun z => ed.2 (hh2.symm.trans z)
      exact bX11_readsCondition_92 hv2 (fun _ => hv2) (fun _ z => absurd z e38) (fun _ z => absurd z e38) (fun _ z => absurd z e38) (fun _ _ => hv2) (fun _ _ z => absurd z e124) (fun _ _ z => absurd z e124) (fun _ _ z => absurd z e124) (fun _ _ _ => sp_wrongAt (w := 1) hb2.2.1 (bX11_readsCondition_179 (Or.inl rfl) (hr _ (hb2.1.up (by omega)) (by rw [upd2_self, pk_us, ci])))) (fun z => absurd z e41)
  case parO =>
    intro o S S1 r h1 h2 i1 i2
    exact fun st hc hne ht hr => i1 st hc hne (AFz.ck hn (fun x l e => (ht x l e).1) (i2 st hc hne ht hr))
  case parE =>
    intro o S e h1 i1
    exact fun st hc hne ht hr => i1 st hc hne hr
  case conO =>
    intro o S S1 r h1 h2 i1 i2
    exact fun st hc hr => i1 ((13, 0) :: st) (hc.cons (by decide)) (by simp) (topN_cons (by decide)) (i2 st hc (h1.edz _ rfl) hr)
  case conE =>
    intro o S e h1 i1
    exact fun st hc hr => i1 ((13, 0) :: st) (hc.cons (by decide)) (by simp) (topN_cons (by decide)) hr
  case parZ =>
    intro o S j h1
    intro st hc hne ht hr S0 st0 f hj hf
    cases j with
    | none => exact hr S0 st0 f hj hf
    | some j0 => exact hr S0 st0 f (hj.step (x := (11, j0)) (Or.inl ⟨h1, rfl⟩)) hf
  case conZ =>
    intro o S j h1
    intro st hc h38 hr S0 st0 f hj hf
    cases j with
    | none => exact hr S0 st0 f hj hf
    | some j0 => exact hr S0 st0 f (hj.step (x := (12, j0)) (Or.inr ⟨⟨h38, h1⟩, rfl⟩)) hf
  case parS =>
    intro o S S1 j r h1 h2 h3 i1 i2
    intro st hc hne ht hr S0 st0 f hj hf
    obtain ⟨hb, b1, b2, b3, b4⟩ := hf
    have hh := hb.here h12 hn b1
    have hv := (hb.mx h12 hn b1).vp
    have ci := hj.inv
    rw [ci] at hh
    have q := tx_in h1 (by decide)
    have ec : hereF f = 38 := hh.trans h1
    have e41 : ¬ hereF f = 41 := by rw [ec]; decide
    have ck := ldz_k (all := false) (l := st0) (S := S0)
    have cc : ldz false S0 st0 = (S.land j, st) := by
      obtain ⟨x1, x2⟩ := hj.no (fun z => z h1) (fun z => z.1 h1)
      rw [x1, x2]
      cases j with
      | none => exact ldz_f (fun x l e => (ht x l e).2)
      | some j0 => exact (if_pos (Or.inl ⟨trivial, rfl⟩)).trans (ldz_f (fun x l e => (ht x l e).2))
    have e124 : ¬ hereF f = 124 := by rw [ec]; decide
    rw [cc] at ck
    dsimp only at ck
    rw [St.land_p, St.land_k] at ck
    refine bX11_readsCondition_92 hv (fun _ => hv) (fun _ _ => hv) (fun _ _ _ => ?_) (fun _ _ z => absurd z e124) (fun _ z => absurd ec z) (fun _ z => absurd ec z) (fun _ z => absurd ec z) (fun _ z => absurd ec z) (fun _ z => absurd ec z) (fun z => absurd z e41)
    refine rt_lands (all := false) _ _ _ _ hb (by omega) (fun g hg => ?_)
    rw [cc] at hg
    dsimp only at hg
    have gh := hg.here h12 hn (by rw [St.land_p]; omega)
    have gv := (hg.mx h12 hn (by rw [St.land_p]; omega)).vp
    rw [St.land_p, h1] at gh
    refine bX11_readsCondition_198 gv (fun z => absurd gh z) (fun _ => ?_)
    refine rt_jumps (c := 38) hg (by omega) (by rw [St.land_k]; omega) (by decide) (fun g2 hg2 => bX11_readsCondition_218 ?_) (by decide)
    rw [St.jcomm, St.land_k] at hg2
    have hg3 : RZS f0 g2 n ((S.adv.land j).put 38 0) o ((11, S.k) :: st) := ⟨hg2, by simp only [St.put_p, St.land_p, St.adv_p]; omega, by simp only [St.put_p, St.land_p, St.adv_p, List.length_cons] at ck ⊢; omega, by rw [WG_hi (by decide)]; simp only [St.put_p, St.put_k, St.land_p, St.land_k, St.adv_p, St.adv_k]; omega, b4⟩
    exact i1 ((11, S.k) :: st) (hc.cons (by simp)) (by simp) (AFz.ck hn (topN_cons (by simp)) (i2 st hc hne ht hr)) g2 hg3
  case parF =>
    intro o S j e h1 h2 i1
    intro st hc hne ht hr S0 st0 f hj hf
    obtain ⟨hb, b1, b2, b3, b4⟩ := hf
    have hh := hb.here h12 hn b1
    have hv := (hb.mx h12 hn b1).vp
    have ci := hj.inv
    rw [ci] at hh
    have q := tx_in h1 (by decide)
    have ec : hereF f = 38 := hh.trans h1
    have e41 : ¬ hereF f = 41 := by rw [ec]; decide
    have ck := ldz_k (all := false) (l := st0) (S := S0)
    have cc : ldz false S0 st0 = (S.land j, st) := by
      obtain ⟨x1, x2⟩ := hj.no (fun z => z h1) (fun z => z.1 h1)
      rw [x1, x2]
      cases j with
      | none => exact ldz_f (fun x l e => (ht x l e).2)
      | some j0 => exact (if_pos (Or.inl ⟨trivial, rfl⟩)).trans (ldz_f (fun x l e => (ht x l e).2))
    have e124 : ¬ hereF f = 124 := by rw [ec]; decide
    rw [cc] at ck
    dsimp only at ck
    rw [St.land_p, St.land_k] at ck
    refine bX11_readsCondition_92 hv (fun _ => hv) (fun _ _ => hv) (fun _ _ _ => ?_) (fun _ _ z => absurd z e124) (fun _ z => absurd ec z) (fun _ z => absurd ec z) (fun _ z => absurd ec z) (fun _ z => absurd ec z) (fun _ z => absurd ec z) (fun z => absurd z e41)
    refine rt_lands (all := false) _ _ _ _ hb (by omega) (fun g hg => ?_)
    rw [cc] at hg
    dsimp only at hg
    have gh := hg.here h12 hn (by rw [St.land_p]; omega)
    have gv := (hg.mx h12 hn (by rw [St.land_p]; omega)).vp
    rw [St.land_p, h1] at gh
    refine bX11_readsCondition_198 gv (fun z => absurd gh z) (fun _ => ?_)
    refine rt_jumps (c := 38) hg (by omega) (by rw [St.land_k]; omega) (by decide) (fun g2 hg2 => bX11_readsCondition_218 ?_) (by decide)
    rw [St.jcomm, St.land_k] at hg2
    have hg3 : RZS f0 g2 n ((S.adv.land j).put 38 0) o ((11, S.k) :: st) := ⟨hg2, by simp only [St.put_p, St.land_p, St.adv_p]; omega, by simp only [St.put_p, St.land_p, St.adv_p, List.length_cons] at ck ⊢; omega, by rw [WG_hi (by decide)]; simp only [St.put_p, St.put_k, St.land_p, St.land_k, St.adv_p, St.adv_k]; omega, b4⟩
    exact i1 ((11, S.k) :: st) (hc.cons (by simp)) (by simp) hr g2 hg3
  case conS =>
    intro o S S1 j r h1 h2 h3 i1 i2
    intro st hc h38 hr S0 st0 f hj hf
    obtain ⟨hb, b1, b2, b3, b4⟩ := hf
    have hh := hb.here h12 hn b1
    have hv := (hb.mx h12 hn b1).vp
    have ci := hj.inv
    rw [ci] at hh
    have q := tx_in h1 (by decide)
    have ec : hereF f = 124 := hh.trans h1
    have e41 : ¬ hereF f = 41 := by rw [ec]; decide
    have ck := ldz_k (all := true) (l := st0) (S := S0)
    have cc : ldz true S0 st0 = (S.land j, (13, 0) :: st) := by
      rw [hj.eq (all := true) (fun _ => rfl)]
      cases j with
      | none => exact ldz_t (topN_cons (by decide))
      | some j0 => exact (if_pos (Or.inr ⟨rfl, rfl⟩)).trans (ldz_t (topN_cons (by decide)))
    have e38 : ¬ hereF f = 38 := by rw [ec]; decide
    rw [cc] at ck
    dsimp only at ck
    rw [St.land_p, St.land_k] at ck
    refine bX11_readsCondition_92 hv (fun _ => hv) (fun _ z => absurd z e38) (fun _ z => absurd z e38) (fun _ z => absurd z e38) (fun _ _ => hv) (fun _ _ _ => hv) (fun _ _ _ z => absurd ec z) (fun _ _ _ _ => ?_) (fun _ _ z => absurd ec z) (fun z => absurd z e41)
    refine rt_lands (all := true) _ _ _ _ hb (by omega) (fun g hg => ?_)
    rw [cc] at hg
    dsimp only at hg
    have gh := hg.here h12 hn (by rw [St.land_p]; omega)
    have gv := (hg.mx h12 hn (by rw [St.land_p]; omega)).vp
    rw [St.land_p, h1] at gh
    refine bX11_readsCondition_198 gv (fun _ => ?_) (fun z => absurd (gh.symm.trans z) (by decide))
    refine rt_jumps (c := 124) hg (by omega) (by rw [St.land_k]; omega) (by decide) (fun g2 hg2 => bX11_readsCondition_218 ?_) (by decide)
    rw [St.jcomm, St.land_k] at hg2
    have hg3 : RZS f0 g2 n ((S.adv.land j).put 124 0) o ((12, S.k) :: ((13, 0) :: st)) := ⟨hg2, by simp only [St.put_p, St.land_p, St.adv_p]; omega, by simp only [St.put_p, St.land_p, St.adv_p, List.length_cons] at ck ⊢; omega, by rw [WG_hi (by decide)]; simp only [St.put_p, St.put_k, St.land_p, St.land_k, St.adv_p, St.adv_k]; omega, b4⟩
    exact i1 ((12, S.k) :: (13, 0) :: st) ((hc.cons (by simp)).cons (by simp)) (by simp) (topN_cons (by simp)) (i2 st hc (h2.edz _ rfl) hr) g2 hg3
  case conF =>
    intro o S j e h1 h2 i1
    intro st hc h38 hr S0 st0 f hj hf
    obtain ⟨hb, b1, b2, b3, b4⟩ := hf
    have hh := hb.here h12 hn b1
    have hv := (hb.mx h12 hn b1).vp
    have ci := hj.inv
    rw [ci] at hh
    have q := tx_in h1 (by decide)
    have ec : hereF f = 124 := hh.trans h1
    have e41 : ¬ hereF f = 41 := by rw [ec]; decide
    have ck := ldz_k (all := true) (l := st0) (S := S0)
    have cc : ldz true S0 st0 = (S.land j, (13, 0) :: st) := by
      rw [hj.eq (all := true) (fun _ => rfl)]
      cases j with
      | none => exact ldz_t (topN_cons (by decide))
      | some j0 => exact (if_pos (Or.inr ⟨rfl, rfl⟩)).trans (ldz_t (topN_cons (by decide)))
    have e38 : ¬ hereF f = 38 := by rw [ec]; decide
    rw [cc] at ck
    dsimp only at ck
    rw [St.land_p, St.land_k] at ck
    refine bX11_readsCondition_92 hv (fun _ => hv) (fun _ z => absurd z e38) (fun _ z => absurd z e38) (fun _ z => absurd z e38) (fun _ _ => hv) (fun _ _ _ => hv) (fun _ _ _ z => absurd ec z) (fun _ _ _ _ => ?_) (fun _ _ z => absurd ec z) (fun z => absurd z e41)
    refine rt_lands (all := true) _ _ _ _ hb (by omega) (fun g hg => ?_)
    rw [cc] at hg
    dsimp only at hg
    have gh := hg.here h12 hn (by rw [St.land_p]; omega)
    have gv := (hg.mx h12 hn (by rw [St.land_p]; omega)).vp
    rw [St.land_p, h1] at gh
    refine bX11_readsCondition_198 gv (fun _ => ?_) (fun z => absurd (gh.symm.trans z) (by decide))
    refine rt_jumps (c := 124) hg (by omega) (by rw [St.land_k]; omega) (by decide) (fun g2 hg2 => bX11_readsCondition_218 ?_) (by decide)
    rw [St.jcomm, St.land_k] at hg2
    have hg3 : RZS f0 g2 n ((S.adv.land j).put 124 0) o ((12, S.k) :: ((13, 0) :: st)) := ⟨hg2, by simp only [St.put_p, St.land_p, St.adv_p]; omega, by simp only [St.put_p, St.land_p, St.adv_p, List.length_cons] at ck ⊢; omega, by rw [WG_hi (by decide)]; simp only [St.put_p, St.put_k, St.land_p, St.land_k, St.adv_p, St.adv_k]; omega, b4⟩
    exact i1 ((12, S.k) :: (13, 0) :: st) ((hc.cons (by simp)).cons (by simp)) (by simp) (topN_cons (by simp)) hr g2 hg3
  case facB => intros; exact trivial
  case facX => intros; exact trivial
  case facE => intros; exact trivial
  case facO => intros; exact trivial
  case facL => intros; exact trivial
  case facN => intros; exact trivial
  case facM => intros; exact trivial
  case prodO => intros; exact trivial
  case prodE => intros; exact trivial
  case prodZ => intros; exact trivial
  case prodS => intros; exact trivial
  case prodF => intros; exact trivial
  case sumO => intros; exact trivial
  case sumE => intros; exact trivial
  case sumZ => intros; exact trivial
  case sumS => intros; exact trivial
  case sumF => intros; exact trivial
