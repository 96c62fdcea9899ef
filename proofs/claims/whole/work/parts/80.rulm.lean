/-! ===== the rules of a law: the reference ===== -/
def MOR (f g : FF) : Prop := (∀ c, c ≠ 82 → ¬ (91 ≤ c ∧ c ≤ 96) → g c = f c) ∧ ∀ j, j ≠ 11 → j ≠ 13 → j ≠ 14 → j ≠ 15 → j ≠ 16 → j ≠ 17 → j ≠ 18 → g 82 j = f 82 j
theorem MOR.rf (f : FF) : MOR f f := ⟨fun _ _ _ => rfl, fun _ _ _ _ _ _ _ _ => rfl⟩
theorem MOR.tr {f g h : FF} (a : MOR f g) (b : MOR g h) : MOR f h := ⟨fun c h1 h2 => (b.1 c h1 h2).trans (a.1 c h1 h2), fun j h1 h2 h3 h4 h5 h6 h7 => (b.2 j h1 h2 h3 h4 h5 h6 h7).trans (a.2 j h1 h2 h3 h4 h5 h6 h7)⟩
theorem MOL.mor {f g : FF} (a : MOL f g) : MOR f g := ⟨fun c h1 h2 => a.1 c h1 (by omega) (by omega), fun j h1 h2 h3 h4 h5 h6 _ => a.2 j h1 h2 h3 h4 h5 h6⟩
theorem MOR.up {f g : FF} {j : Nat} {x : Int32} (a : MOR f g) (hj : j = 11 ∨ j = 13 ∨ j = 14 ∨ j = 15 ∨ j = 16 ∨ j = 17 ∨ j = 18) : MOR f (upd2 g 82 j x) := ⟨fun c h1 h2 => by rw [upd2_ne _ _ _ h1]; exact a.1 c h1 h2, fun k h1 h2 h3 h4 h5 h6 h7 => by rw [upd2_self, pk_un (by omega)]; exact a.2 k h1 h2 h3 h4 h5 h6 h7⟩
theorem MOR.ux {f g : FF} {c j : Nat} {x : Int32} (a : MOR f g) (hc : 91 ≤ c ∧ c ≤ 96) : MOR f (upd2 g c j x) := ⟨fun k h1 h2 => by rw [upd2_ne _ _ _ (by omega)]; exact a.1 k h1 h2, fun k h1 h2 h3 h4 h5 h6 h7 => by rw [upd2_ne _ _ _ (by omega)]; exact a.2 k h1 h2 h3 h4 h5 h6 h7⟩
def RLV (f : FF) (S : St) (L : LLs) (i : Nat) : Prop := f 82 11 = nI S.p ∧ f 82 16 = nI S.k ∧ f 91 = S.su ∧ f 93 = L.1 ∧ f 94 = L.2.1 ∧ f 95 = L.2.2.1 ∧ f 96 = L.2.2.2 ∧ f 82 18 = nI i
theorem RLV.of {f g : FF} {S S' : St} {L : LLs} {i o : Nat} {st : SkL} (h : RLV f S L i) (e : RFb f g S' o st) : RLV g S' L i := by
  obtain ⟨_, _, _, h4, h5, h6, h7, h8⟩ := h
  obtain ⟨e1, e2, e3, e4, _⟩ := e
  exact ⟨e2, e3, e4, by rw [e1.1 93 (by omega) (by omega) (by omega)]; exact h4, by rw [e1.1 94 (by omega) (by omega) (by omega)]; exact h5, by rw [e1.1 95 (by omega) (by omega) (by omega)]; exact h6, by rw [e1.1 96 (by omega) (by omega) (by omega)]; exact h7, by rw [e1.2 18 (by omega) (by omega) (by omega) (by omega) (by omega) (by omega)]; exact h8⟩
theorem RLV.sA {f : FF} {S : St} {L : LLs} {i j : Nat} {x : Int32} (h : RLV f S L i) : RLV (upd2 f 93 j x) S (lsA L j x) i := by
  obtain ⟨h1, h2, h3, h4, h5, h6, h7, h8⟩ := h
  refine ⟨?_, ?_, ?_, ?_, ?_, ?_, ?_, ?_⟩
  · rw [upd2_ne _ _ _ (by omega)]; exact h1
  · rw [upd2_ne _ _ _ (by omega)]; exact h2
  · rw [upd2_ne _ _ _ (by omega)]; exact h3
  · rw [upd2_self, h4]; rfl
  · rw [upd2_ne _ _ _ (by omega)]; exact h5
  · rw [upd2_ne _ _ _ (by omega)]; exact h6
  · rw [upd2_ne _ _ _ (by omega)]; exact h7
  · rw [upd2_ne _ _ _ (by omega)]; exact h8
theorem RLV.sV {f : FF} {S : St} {L : LLs} {i j : Nat} {x : Int32} (h : RLV f S L i) : RLV (upd2 f 94 j x) S (lsV L j x) i := by
  obtain ⟨h1, h2, h3, h4, h5, h6, h7, h8⟩ := h
  refine ⟨?_, ?_, ?_, ?_, ?_, ?_, ?_, ?_⟩
  · rw [upd2_ne _ _ _ (by omega)]; exact h1
  · rw [upd2_ne _ _ _ (by omega)]; exact h2
  · rw [upd2_ne _ _ _ (by omega)]; exact h3
  · rw [upd2_ne _ _ _ (by omega)]; exact h4
  · rw [upd2_self, h5]; rfl
  · rw [upd2_ne _ _ _ (by omega)]; exact h6
  · rw [upd2_ne _ _ _ (by omega)]; exact h7
  · rw [upd2_ne _ _ _ (by omega)]; exact h8
theorem RLV.sC {f : FF} {S : St} {L : LLs} {i j : Nat} {x : Int32} (h : RLV f S L i) : RLV (upd2 f 95 j x) S (lsC L j x) i := by
  obtain ⟨h1, h2, h3, h4, h5, h6, h7, h8⟩ := h
  refine ⟨?_, ?_, ?_, ?_, ?_, ?_, ?_, ?_⟩
  · rw [upd2_ne _ _ _ (by omega)]; exact h1
  · rw [upd2_ne _ _ _ (by omega)]; exact h2
  · rw [upd2_ne _ _ _ (by omega)]; exact h3
  · rw [upd2_ne _ _ _ (by omega)]; exact h4
  · rw [upd2_ne _ _ _ (by omega)]; exact h5
  · rw [upd2_self, h6]; rfl
  · rw [upd2_ne _ _ _ (by omega)]; exact h7
  · rw [upd2_ne _ _ _ (by omega)]; exact h8
theorem RLV.sE {f : FF} {S : St} {L : LLs} {i j : Nat} {x : Int32} (h : RLV f S L i) : RLV (upd2 f 96 j x) S (lsE L j x) i := by
  obtain ⟨h1, h2, h3, h4, h5, h6, h7, h8⟩ := h
  refine ⟨?_, ?_, ?_, ?_, ?_, ?_, ?_, ?_⟩
  · rw [upd2_ne _ _ _ (by omega)]; exact h1
  · rw [upd2_ne _ _ _ (by omega)]; exact h2
  · rw [upd2_ne _ _ _ (by omega)]; exact h3
  · rw [upd2_ne _ _ _ (by omega)]; exact h4
  · rw [upd2_ne _ _ _ (by omega)]; exact h5
  · rw [upd2_ne _ _ _ (by omega)]; exact h6
  · rw [upd2_self, h7]; rfl
  · rw [upd2_ne _ _ _ (by omega)]; exact h8
theorem RLV.adv {f : FF} {S : St} {L : LLs} {i : Nat} (h : RLV f S L i) : RLV (upd2 f 82 11 (f 82 11 + 1)) S.adv L i := by
  obtain ⟨h1, h2, h3, h4, h5, h6, h7, h8⟩ := h
  exact ⟨by rw [upd2_self, pk_us, h1, nI_1]; rfl, by rw [upd2_self, pk_un (by omega)]; exact h2, by rw [upd2_ne _ _ _ (by omega)]; exact h3, by rw [upd2_ne _ _ _ (by omega)]; exact h4, by rw [upd2_ne _ _ _ (by omega)]; exact h5, by rw [upd2_ne _ _ _ (by omega)]; exact h6, by rw [upd2_ne _ _ _ (by omega)]; exact h7, by rw [upd2_self, pk_un (by omega)]; exact h8⟩
theorem RLV.reset {f : FF} {S : St} {L : LLs} {i : Nat} (h : RLV f S L i) : RLV (upd2 (upd2 f 82 15 0) 82 17 0) S L i ∧ (upd2 (upd2 f 82 15 0) 82 17 0) 82 15 = nI 0 ∧ (upd2 (upd2 f 82 15 0) 82 17 0) 82 17 = nI 0 := by
  obtain ⟨h1, h2, h3, h4, h5, h6, h7, h8⟩ := h
  refine ⟨⟨?_, ?_, ?_, ?_, ?_, ?_, ?_, ?_⟩, ?_, ?_⟩
  · rw [upd2_self, pk_un (by omega), upd2_self, pk_un (by omega)]; exact h1
  · rw [upd2_self, pk_un (by omega), upd2_self, pk_un (by omega)]; exact h2
  · rw [upd2_ne _ _ _ (by omega), upd2_ne _ _ _ (by omega)]; exact h3
  · rw [upd2_ne _ _ _ (by omega), upd2_ne _ _ _ (by omega)]; exact h4
  · rw [upd2_ne _ _ _ (by omega), upd2_ne _ _ _ (by omega)]; exact h5
  · rw [upd2_ne _ _ _ (by omega), upd2_ne _ _ _ (by omega)]; exact h6
  · rw [upd2_ne _ _ _ (by omega), upd2_ne _ _ _ (by omega)]; exact h7
  · rw [upd2_self, pk_un (by omega), upd2_self, pk_un (by omega)]; exact h8
  · rw [upd2_self, pk_un (by omega), upd2_self, pk_us]; rfl
  · rw [upd2_self, pk_us]; rfl
theorem RLV.rfb {f : FF} {S : St} {L : LLs} {i : Nat} (h : RLV f S L i) (h1 : f 82 15 = nI 0) (h2 : f 82 17 = nI 0) : RFb f f S 0 [] := ⟨MOL.rf f, h.1, h.2.1, h.2.2.1, h1, h2, trivial⟩
theorem RUc.ref {G : GC} {d : Nat} {sw : Bool} {f : FF} {Q : QQ} {n i : Nat} {S1 : St} {L : LLs} {x1 : Int32} {r : Except Int32 (St × LLs)} (h12 : f 82 12 = nI n) (hn : n ≤ 240) (hi : i < 16) (h : RUc (f 90) n i S1 L r) (hc : RLV f S1 L i) (hb : f 82 15 = nI 0) (hb2 : f 82 17 = nI 0) (hp : S1.p ≤ n) (hk : S1.k ≤ S1.p) (hE : ∀ e, r = .error e → ∀ g, MOR f g → g 82 13 = e → Q (some (.int 0)) sw g) (hO : ∀ S' L', r = .ok (S', L') → ∀ g, MOR f g → RLV g S' L' (i + 1) → Q (some (.int 1)) sw g) : XP G mX11_readsCondition (d + 6) 0 [.ref 82] [] sw (upd2 f 95 (f 82 18).toNatClampNeg (f 82 16)) (fun v sw' f' => XP G mX11_readsRule (d + 7) 145 [.ref 82, .int x1] (retst v []) sw' f' Q) := by
  obtain ⟨r2, h2, h3⟩ := h
  rw [hc.2.2.2.2.2.2.2, nI_clamp (by omega), hc.2.1]
  have hc1 := hc.sC (j := i) (x := nI S1.k)
  have o1 : MOR f (upd2 f 95 i (nI S1.k)) := (MOR.rf f).ux (by omega)
  have e90 : (upd2 f 95 i (nI S1.k)) 90 = f 90 := upd2_ne _ _ _ (by omega)
  have e12 : (upd2 f 95 i (nI S1.k)) 82 12 = nI n := by rw [upd2_ne _ _ _ (by omega)]; exact h12
  have hr : RFb (upd2 f 95 i (nI S1.k)) (upd2 f 95 i (nI S1.k)) S1 0 [] := hc1.rfb (by rw [upd2_ne _ _ _ (by omega)]; exact hb) (by rw [upd2_ne _ _ _ (by omega)]; exact hb2)
  rw [← e90] at h2
  have m := h2.conds (G := G) (d := d) (sw := sw) (Q := fun v sw' f' => XP G mX11_readsRule (d + 7) 145 [.ref 82, .int x1] (retst v []) sw' f' Q) e12 hn
  refine m.2 rfl ?_ _ 0 [] hr hp hk
  rcases h3 with ⟨e, z1, z2⟩ | ⟨S2, z1, z2⟩
  · subst z1
    exact fun g hg h5 => bX11_readsRule_145 (fun z => absurd rfl z) (fun z => absurd rfl z) (fun _ => hE e z2 g (o1.tr hg.mor) h5)
  · subst z1
    intro g hg _ _
    have hg1 := hc1.of hg
    refine bX11_readsRule_145 (fun _ => by rw [hg1.2.2.2.2.2.2.2]; exact vp_in_nI (by omega) (by omega)) (fun _ => ?_) (fun z => absurd z (by decide))
    have e18 : (upd2 g 96 i (nI S2.k)) 82 18 = nI i := by rw [upd2_ne _ _ _ (by omega)]; exact hg1.2.2.2.2.2.2.2
    rw [hg1.2.2.2.2.2.2.2, nI_clamp (by omega), hg1.2.1, e18, nI_1]
    have hs := hg1.sE (j := i) (x := nI S2.k)
    refine hO _ _ z2 _ (((o1.tr hg.1.mor).ux (by omega)).up (by omega)) ?_
    obtain ⟨k1, k2, k3, k4, k5, k6, k7, k8⟩ := hs
    exact ⟨by rw [upd2_self, pk_un (by omega)]; exact k1, by rw [upd2_self, pk_un (by omega)]; exact k2, by rw [upd2_ne _ _ _ (by omega)]; exact k3, by rw [upd2_ne _ _ _ (by omega)]; exact k4, by rw [upd2_ne _ _ _ (by omega)]; exact k5, by rw [upd2_ne _ _ _ (by omega)]; exact k6, by rw [upd2_ne _ _ _ (by omega)]; exact k7, by rw [upd2_self, pk_us]⟩
theorem RUL.ref {G : GC} {d : Nat} {sw : Bool} {f : FF} {Q : QQ} {n i : Nat} {S : St} {L : LLs} {r : Except Int32 (St × LLs)} (h12 : f 82 12 = nI n) (hn : n ≤ 240) (hi : i ≤ 16) (h : RUL (f 90) n i S L r) (hc : RLV f S L i) (hp : S.p ≤ n) (hk : S.k ≤ S.p) (hE : ∀ e, r = .error e → ∀ g, MOR f g → g 82 13 = e → Q (some (.int 0)) sw g) (hO : ∀ S' L', r = .ok (S', L') → ∀ g, MOR f g → RLV g S' L' (i + 1) → Q (some (.int 1)) sw g) : XP G mX11_readsRule (d + 7) 0 [.ref 82, .null] [] sw f Q := by
  have mx : MX f n S.p := ⟨h12, by omega, hc.1, hp⟩
  have hv := mx.vp
  have sg := mx.here
  have e18 := hc.2.2.2.2.2.2.2
  have i16 : f 82 18 = 16 ↔ i = 16 := by rw [e18, show (16 : Int32) = nI 16 from rfl, nI_eq (by omega) (by omega)]
  have vi : ¬ f 82 18 = 16 → vp_in (f 82 18) 16 := fun z => by
    have := (not_congr i16).mp z
    rw [e18]; exact vp_in_nI (by omega) (by omega)
  have kf : ∀ (w : Nat) (pc : Nat) (R : ∀ (s : Int32) (f' : FF), s = 0 ∨ s = 1 → Q (some (.int s)) sw f' → XP G mX11_readsRule (d + 7) pc [.ref 82, .int (hereF f)] [.int s] sw f' Q), r = .error (er w S.p) → XP G mX11_wrongAt (d + 6) 0 [.ref 82, .int (nI w), .int (f 82 11)] [] sw f (fun v sw' f' => XP G mX11_readsRule (d + 7) pc [.ref 82, .int (hereF f)] (retst v []) sw' f' Q) :=
    fun w pc R hr => sp_wrongAt (w := w) hc.1 (R 0 _ (Or.inl rfl) (hE _ hr _ ((MOR.rf f).up (by omega)) (by rw [upd2_self, pk_us])))
  have hA := (hc.sA (j := i) (x := tx (f 90) n S.p)).adv
  have hV := hA.sV (j := i) (x := nI S.k)
  obtain ⟨hR, r15, r17⟩ := hV.reset
  have eB : (upd2 (upd2 f 93 ((f 82 18).toNatClampNeg) (hereF f)) 82 11 (((upd2 f 93 ((f 82 18).toNatClampNeg) (hereF f)) 82 11) + 1)) = upd2 (upd2 f 93 i (tx (f 90) n S.p)) 82 11 ((upd2 f 93 i (tx (f 90) n S.p)) 82 11 + 1) := by
    rw [e18, nI_clamp (by omega), sg]
  have e5 : (upd2 (upd2 (upd2 (upd2 (upd2 f 93 ((f 82 18).toNatClampNeg) (hereF f)) 82 11 (((upd2 f 93 ((f 82 18).toNatClampNeg) (hereF f)) 82 11) + 1)) 94 (((upd2 (upd2 f 93 ((f 82 18).toNatClampNeg) (hereF f)) 82 11 (((upd2 f 93 ((f 82 18).toNatClampNeg) (hereF f)) 82 11) + 1)) 82 18).toNatClampNeg) ((upd2 (upd2 f 93 ((f 82 18).toNatClampNeg) (hereF f)) 82 11 (((upd2 f 93 ((f 82 18).toNatClampNeg) (hereF f)) 82 11) + 1)) 82 16)) 82 15 0) 82 17 0) = upd2 (upd2 (upd2 (upd2 (upd2 f 93 i (tx (f 90) n S.p)) 82 11 ((upd2 f 93 i (tx (f 90) n S.p)) 82 11 + 1)) 94 i (nI S.k)) 82 15 0) 82 17 0 := by
    rw [eB, hA.2.2.2.2.2.2.2, nI_clamp (by omega), hA.2.1]
    rfl
  have v3 : ¬ f 82 18 = 16 → vp_in ((upd2 (upd2 f 93 ((f 82 18).toNatClampNeg) (hereF f)) 82 11 (((upd2 f 93 ((f 82 18).toNatClampNeg) (hereF f)) 82 11) + 1)) 82 18) 16 := fun z => by
    rw [eB, hA.2.2.2.2.2.2.2, ← e18]; exact vi z
  have v5 : ¬ f 82 18 = 16 → vp_in ((upd2 (upd2 (upd2 (upd2 (upd2 f 93 ((f 82 18).toNatClampNeg) (hereF f)) 82 11 (((upd2 f 93 ((f 82 18).toNatClampNeg) (hereF f)) 82 11) + 1)) 94 (((upd2 (upd2 f 93 ((f 82 18).toNatClampNeg) (hereF f)) 82 11 (((upd2 f 93 ((f 82 18).toNatClampNeg) (hereF f)) 82 11) + 1)) 82 18).toNatClampNeg) ((upd2 (upd2 f 93 ((f 82 18).toNatClampNeg) (hereF f)) 82 11 (((upd2 f 93 ((f 82 18).toNatClampNeg) (hereF f)) 82 11) + 1)) 82 16)) 82 15 0) 82 17 0) 82 18) 16 := fun z => by
    rw [e5, hR.2.2.2.2.2.2.2, ← e18]; exact vi z
  have oR : MOR f (upd2 (upd2 (upd2 (upd2 (upd2 f 93 i (tx (f 90) n S.p)) 82 11 ((upd2 f 93 i (tx (f 90) n S.p)) 82 11 + 1)) 94 i (nI S.k)) 82 15 0) 82 17 0) := (((((MOR.rf f).ux (by omega)).up (by omega)).ux (by omega)).up (by omega)).up (by omega)
  have e90 := oR.1 90 (by omega) (by omega)
  have e12 := (oR.2 12 (by omega) (by omega) (by omega) (by omega) (by omega) (by omega) (by omega)).trans h12
  generalize hgz : upd2 (upd2 (upd2 (upd2 (upd2 f 93 i (tx (f 90) n S.p)) 82 11 ((upd2 f 93 i (tx (f 90) n S.p)) 82 11 + 1)) 94 i (nI S.k)) 82 15 0) 82 17 0 = z0 at *
  by_cases hl : isLt (tx (f 90) n S.p)
  · have k4 : f 82 18 = 16 → XP G mX11_wrongAt (d + 6) 0 [.ref 82, .int 4, .int (f 82 11)] [] sw f (fun v sw' f' => XP G mX11_readsRule (d + 7) 63 [.ref 82, .int (hereF f)] (retst v []) sw' f' Q) := by
      intro z
      have z2 : ¬ i < 16 := by have := i16.mp z; omega
      refine kf 4 63 (fun s f' hs hq => bX11_readsRule_63 hs hq) ?_
      rcases h with ⟨y, _⟩ | ⟨_, _, y⟩ | ⟨_, y, _⟩ | ⟨_, _, y, _⟩
      · exact absurd hl y
      · exact y
      · exact absurd y z2
      · exact absurd y z2
    have q1 := tx_ne1 (P := isLt) hl (by decide)
    have rb := hR.rfb r15 r17
    by_cases hv' : hasV (tx (f 90) n S.p)
    · have kS : ¬ f 82 18 = 16 → XP G mX11_readsSum (d + 6) 0 [.ref 82, .null, .null] [] sw (upd2 (upd2 (upd2 (upd2 (upd2 f 93 ((f 82 18).toNatClampNeg) (hereF f)) 82 11 (((upd2 f 93 ((f 82 18).toNatClampNeg) (hereF f)) 82 11) + 1)) 94 (((upd2 (upd2 f 93 ((f 82 18).toNatClampNeg) (hereF f)) 82 11 (((upd2 f 93 ((f 82 18).toNatClampNeg) (hereF f)) 82 11) + 1)) 82 18).toNatClampNeg) ((upd2 (upd2 f 93 ((f 82 18).toNatClampNeg) (hereF f)) 82 11 (((upd2 f 93 ((f 82 18).toNatClampNeg) (hereF f)) 82 11) + 1)) 82 16)) 82 15 0) 82 17 0) (fun v sw' f' => XP G mX11_readsRule (d + 7) 123 [.ref 82, .int (hereF f)] (retst v []) sw' f' Q) := by
        intro z
        have z2 : i < 16 := by have := (not_congr i16).mp z; omega
        rw [e5]
        rcases h with ⟨y, _⟩ | ⟨_, y, _⟩ | ⟨_, _, r1, y1, y2⟩ | ⟨y, _⟩
        · exact absurd hl y
        · exact absurd z2 y
        · rw [← e90] at y1
          have l := fun S1 (e : r1 = .ok S1) => y1.len S1 e q1
          refine rt_sum (d := d + 2) (bst := []) e12 hn y1 ⟨rb, q1, by simp, by show S.k + 0 ≤ S.p + 1; omega, by omega⟩ (fun x l e => nomatch e) (fun e he g hg h5 => ?_) (fun S1 he g hg => ?_)
          · rcases y2 with ⟨e', z3, z4⟩ | ⟨S1, z3, _⟩
            · have := Except.error.inj (he.symm.trans z3)
              subst this
              exact bX11_readsRule_123 (fun z => absurd rfl z) (fun z => absurd rfl z) (fun _ => hE e z4 g (oR.tr hg.mor) h5)
            · exact absurd (he.symm.trans z3) (by simp)
          · rcases y2 with ⟨e', z3, _⟩ | ⟨S1', z3, z4⟩
            · exact absurd (he.symm.trans z3) (by simp)
            · have := Except.ok.inj (he.symm.trans z3)
              subst this
              have l1 := l S1 he
              have hg1 := hR.of hg.1
              have og := hg.1.1.mor
              have e90g := og.1 90 (by omega) (by omega)
              have e12g := (og.2 12 (by omega) (by omega) (by omega) (by omega) (by omega) (by omega) (by omega)).trans e12
              have z5 : RUc (g 90) n i S1 (lsV (lsA L i (tx (f 90) n S.p)) i (nI S.k)) r := by rw [e90g, e90]; exact z4
              have lk : S1.k + (S.p + 1) ≤ S1.p + S.k := l1.2.2.1
              refine bX11_readsRule_123 (fun _ => by rw [hg1.2.2.2.2.2.2.2]; exact vp_in_nI (by omega) (by omega)) (fun _ => ?_) (fun z => absurd z (by decide))
              exact z5.ref e12g hn z2 hg1 hg.1.2.2.2.2.1 hg.1.2.2.2.2.2.1 l1.1 (by omega) (fun e he g2 o2 h5 => hE e he g2 ((oR.tr og).tr o2) h5) (fun S' L' he g2 o2 h5 => hO S' L' he g2 ((oR.tr og).tr o2) h5)
        · exact absurd hv' y
      rcases hv' with hz | hz | hz <;> rw [← sg] at hz
      · exact bX11_readsRule_0  (fun h1 => hv h1) (fun _ h2 => vi h2) (fun _ h2 => v3 h2) (fun _ _ h => absurd h ((by rw [hz]; decide))) (fun _ _ h => absurd h ((by rw [hz]; decide))) (fun _ _ _ h => absurd h ((by rw [hz]; decide))) (fun _ _ _ h => absurd h ((by rw [hz]; decide))) (fun _ h2 _ _ => kS h2) (fun _ h2 => k4 h2) (fun h => absurd (hz) h) (fun h => absurd (hz) h) (fun h => absurd (hz) h) (fun h => absurd (hz) h) (fun h => absurd (hz) h) (fun h => absurd (hz) h) (fun h => absurd (hz) h) (fun h => absurd (hz) h) (fun h => absurd (hz) h) (fun h => absurd (hz) h) (fun h => absurd (hz) h) (fun h => absurd (hz) h) (fun h => absurd (hz) h) (fun h => absurd (hz) h) (fun h => absurd (hz) h) (fun h => absurd (hz) h) (fun h => absurd (hz) h) (fun h => absurd (hz) h) (fun h => absurd (hz) h) (fun h => absurd (hz) h) (fun h => absurd (hz) h) (fun h => absurd (hz) h) (fun h => absurd (hz) h) (fun h => absurd (hz) h) (fun h => absurd (hz) h) (fun h => absurd (hz) h) (fun h => absurd (hz) h) (fun h => absurd (hz) h) (fun h => absurd (hz) h) (fun h => absurd (hz) h) (fun h => absurd (hz) h) (fun h => absurd (hz) h) (fun h => absurd (hz) h)
      · exact bX11_readsRule_0  (fun h1 => hv h1) (fun h => absurd h ((by rw [hz]; decide))) (fun h => absurd h ((by rw [hz]; decide))) (fun h => absurd h ((by rw [hz]; decide))) (fun h => absurd h ((by rw [hz]; decide))) (fun h => absurd h ((by rw [hz]; decide))) (fun h => absurd h ((by rw [hz]; decide))) (fun h => absurd h ((by rw [hz]; decide))) (fun h => absurd h ((by rw [hz]; decide))) (fun _ _ h3 => vi h3) (fun _ _ h3 => v3 h3) (fun _ _ _ h => absurd h ((by rw [hz]; decide))) (fun _ _ _ h => absurd h ((by rw [hz]; decide))) (fun _ _ _ _ h => absurd h ((by rw [hz]; decide))) (fun _ _ _ _ h => absurd h ((by rw [hz]; decide))) (fun _ _ h3 _ _ => kS h3) (fun _ _ h3 => k4 h3) (fun _ h => absurd (hz) h) (fun _ h => absurd (hz) h) (fun _ h => absurd (hz) h) (fun _ h => absurd (hz) h) (fun _ h => absurd (hz) h) (fun _ h => absurd (hz) h) (fun _ h => absurd (hz) h) (fun _ h => absurd (hz) h) (fun _ h => absurd (hz) h) (fun _ h => absurd (hz) h) (fun _ h => absurd (hz) h) (fun _ h => absurd (hz) h) (fun _ h => absurd (hz) h) (fun _ h => absurd (hz) h) (fun _ h => absurd (hz) h) (fun _ h => absurd (hz) h) (fun _ h => absurd (hz) h) (fun _ h => absurd (hz) h) (fun _ h => absurd (hz) h) (fun _ h => absurd (hz) h) (fun _ h => absurd (hz) h) (fun _ h => absurd (hz) h) (fun _ h => absurd (hz) h) (fun _ h => absurd (hz) h) (fun _ h => absurd (hz) h)
      · exact bX11_readsRule_0  (fun h1 => hv h1) (fun h => absurd h ((by rw [hz]; decide))) (fun h => absurd h ((by rw [hz]; decide))) (fun h => absurd h ((by rw [hz]; decide))) (fun h => absurd h ((by rw [hz]; decide))) (fun h => absurd h ((by rw [hz]; decide))) (fun h => absurd h ((by rw [hz]; decide))) (fun h => absurd h ((by rw [hz]; decide))) (fun h => absurd h ((by rw [hz]; decide))) (fun _ h => absurd h ((by rw [hz]; decide))) (fun _ h => absurd h ((by rw [hz]; decide))) (fun _ h => absurd h ((by rw [hz]; decide))) (fun _ h => absurd h ((by rw [hz]; decide))) (fun _ h => absurd h ((by rw [hz]; decide))) (fun _ h => absurd h ((by rw [hz]; decide))) (fun _ h => absurd h ((by rw [hz]; decide))) (fun _ h => absurd h ((by rw [hz]; decide))) (fun _ _ _ h4 => vi h4) (fun _ _ _ h4 => v3 h4) (fun _ _ _ _ h => absurd h ((by rw [hz]; decide))) (fun _ _ _ _ h => absurd h ((by rw [hz]; decide))) (fun _ _ _ _ _ h => absurd h ((by rw [hz]; decide))) (fun _ _ _ _ _ h => absurd h ((by rw [hz]; decide))) (fun _ _ _ h4 _ _ => kS h4) (fun _ _ _ h4 => k4 h4) (fun _ _ h => absurd (hz) h) (fun _ _ h => absurd (hz) h) (fun _ _ h => absurd (hz) h) (fun _ _ h => absurd (hz) h) (fun _ _ h => absurd (hz) h) (fun _ _ h => absurd (hz) h) (fun _ _ h => absurd (hz) h) (fun _ _ h => absurd (hz) h) (fun _ _ h => absurd (hz) h) (fun _ _ h => absurd (hz) h) (fun _ _ h => absurd (hz) h) (fun _ _ h => absurd (hz) h) (fun _ _ h => absurd (hz) h) (fun _ _ h => absurd (hz) h) (fun _ _ h => absurd (hz) h) (fun _ _ h => absurd (hz) h) (fun _ _ h => absurd (hz) h)
    · have kB : ¬ f 82 18 = 16 → XP G mX11_readsCondition (d + 6) 0 [.ref 82] [] sw (upd2 (upd2 (upd2 (upd2 (upd2 (upd2 f 93 ((f 82 18).toNatClampNeg) (hereF f)) 82 11 (((upd2 f 93 ((f 82 18).toNatClampNeg) (hereF f)) 82 11) + 1)) 94 (((upd2 (upd2 f 93 ((f 82 18).toNatClampNeg) (hereF f)) 82 11 (((upd2 f 93 ((f 82 18).toNatClampNeg) (hereF f)) 82 11) + 1)) 82 18).toNatClampNeg) ((upd2 (upd2 f 93 ((f 82 18).toNatClampNeg) (hereF f)) 82 11 (((upd2 f 93 ((f 82 18).toNatClampNeg) (hereF f)) 82 11) + 1)) 82 16)) 82 15 0) 82 17 0) 95 (((upd2 (upd2 (upd2 (upd2 (upd2 f 93 ((f 82 18).toNatClampNeg) (hereF f)) 82 11 (((upd2 f 93 ((f 82 18).toNatClampNeg) (hereF f)) 82 11) + 1)) 94 (((upd2 (upd2 f 93 ((f 82 18).toNatClampNeg) (hereF f)) 82 11 (((upd2 f 93 ((f 82 18).toNatClampNeg) (hereF f)) 82 11) + 1)) 82 18).toNatClampNeg) ((upd2 (upd2 f 93 ((f 82 18).toNatClampNeg) (hereF f)) 82 11 (((upd2 f 93 ((f 82 18).toNatClampNeg) (hereF f)) 82 11) + 1)) 82 16)) 82 15 0) 82 17 0) 82 18).toNatClampNeg) ((upd2 (upd2 (upd2 (upd2 (upd2 f 93 ((f 82 18).toNatClampNeg) (hereF f)) 82 11 (((upd2 f 93 ((f 82 18).toNatClampNeg) (hereF f)) 82 11) + 1)) 94 (((upd2 (upd2 f 93 ((f 82 18).toNatClampNeg) (hereF f)) 82 11 (((upd2 f 93 ((f 82 18).toNatClampNeg) (hereF f)) 82 11) + 1)) 82 18).toNatClampNeg) ((upd2 (upd2 f 93 ((f 82 18).toNatClampNeg) (hereF f)) 82 11 (((upd2 f 93 ((f 82 18).toNatClampNeg) (hereF f)) 82 11) + 1)) 82 16)) 82 15 0) 82 17 0) 82 16)) (fun v sw' f' => XP G mX11_readsRule (d + 7) 145 [.ref 82, .int (hereF f)] (retst v []) sw' f' Q) := by
        intro z
        have z2 : i < 16 := by have := (not_congr i16).mp z; omega
        rw [e5]
        rcases h with ⟨y, _⟩ | ⟨_, y, _⟩ | ⟨y, _⟩ | ⟨_, _, _, y⟩
        · exact absurd hl y
        · exact absurd z2 y
        · exact absurd y hv'
        · have z5 : RUc (z0 90) n i S.adv (lsV (lsA L i (tx (f 90) n S.p)) i (nI S.k)) r := by rw [e90]; exact y
          exact z5.ref e12 hn z2 hR r15 r17 q1 (Nat.le_succ_of_le hk) (fun e he g2 o2 h5 => hE e he g2 (oR.tr o2) h5) (fun S' L' he g2 o2 h5 => hO S' L' he g2 (oR.tr o2) h5)
      have hz2 : tx (f 90) n S.p = 118 ∨ tx (f 90) n S.p = 120 := hl.resolve_left hv'
      rcases hz2 with hz | hz <;> rw [← sg] at hz
      · exact bX11_readsRule_0  (fun h1 => hv h1) (fun h => absurd h ((by rw [hz]; decide))) (fun h => absurd h ((by rw [hz]; decide))) (fun h => absurd h ((by rw [hz]; decide))) (fun h => absurd h ((by rw [hz]; decide))) (fun h => absurd h ((by rw [hz]; decide))) (fun h => absurd h ((by rw [hz]; decide))) (fun h => absurd h ((by rw [hz]; decide))) (fun h => absurd h ((by rw [hz]; decide))) (fun _ h => absurd h ((by rw [hz]; decide))) (fun _ h => absurd h ((by rw [hz]; decide))) (fun _ h => absurd h ((by rw [hz]; decide))) (fun _ h => absurd h ((by rw [hz]; decide))) (fun _ h => absurd h ((by rw [hz]; decide))) (fun _ h => absurd h ((by rw [hz]; decide))) (fun _ h => absurd h ((by rw [hz]; decide))) (fun _ h => absurd h ((by rw [hz]; decide))) (fun _ _ h => absurd h ((by rw [hz]; decide))) (fun _ _ h => absurd h ((by rw [hz]; decide))) (fun _ _ h => absurd h ((by rw [hz]; decide))) (fun _ _ h => absurd h ((by rw [hz]; decide))) (fun _ _ h => absurd h ((by rw [hz]; decide))) (fun _ _ h => absurd h ((by rw [hz]; decide))) (fun _ _ h => absurd h ((by rw [hz]; decide))) (fun _ _ h => absurd h ((by rw [hz]; decide))) (fun _ _ _ _ h5 => vi h5) (fun _ _ _ _ h5 => v3 h5) (fun _ _ _ _ h5 _ => v5 h5) (fun _ _ _ _ h5 _ => kB h5) (fun _ _ _ _ _ h => absurd (hz) h) (fun _ _ _ _ _ h => absurd (hz) h) (fun _ _ _ _ _ h => absurd (hz) h) (fun _ _ _ _ h5 => k4 h5) (fun _ _ _ h => absurd (hz) h) (fun _ _ _ h => absurd (hz) h) (fun _ _ _ h => absurd (hz) h) (fun _ _ _ h => absurd (hz) h) (fun _ _ _ h => absurd (hz) h) (fun _ _ _ h => absurd (hz) h) (fun _ _ _ h => absurd (hz) h) (fun _ _ _ h => absurd (hz) h) (fun _ _ _ h => absurd (hz) h)
      · exact bX11_readsRule_0  (fun h1 => hv h1) (fun h => absurd h ((by rw [hz]; decide))) (fun h => absurd h ((by rw [hz]; decide))) (fun h => absurd h ((by rw [hz]; decide))) (fun h => absurd h ((by rw [hz]; decide))) (fun h => absurd h ((by rw [hz]; decide))) (fun h => absurd h ((by rw [hz]; decide))) (fun h => absurd h ((by rw [hz]; decide))) (fun h => absurd h ((by rw [hz]; decide))) (fun _ h => absurd h ((by rw [hz]; decide))) (fun _ h => absurd h ((by rw [hz]; decide))) (fun _ h => absurd h ((by rw [hz]; decide))) (fun _ h => absurd h ((by rw [hz]; decide))) (fun _ h => absurd h ((by rw [hz]; decide))) (fun _ h => absurd h ((by rw [hz]; decide))) (fun _ h => absurd h ((by rw [hz]; decide))) (fun _ h => absurd h ((by rw [hz]; decide))) (fun _ _ h => absurd h ((by rw [hz]; decide))) (fun _ _ h => absurd h ((by rw [hz]; decide))) (fun _ _ h => absurd h ((by rw [hz]; decide))) (fun _ _ h => absurd h ((by rw [hz]; decide))) (fun _ _ h => absurd h ((by rw [hz]; decide))) (fun _ _ h => absurd h ((by rw [hz]; decide))) (fun _ _ h => absurd h ((by rw [hz]; decide))) (fun _ _ h => absurd h ((by rw [hz]; decide))) (fun _ _ _ h => absurd h ((by rw [hz]; decide))) (fun _ _ _ h => absurd h ((by rw [hz]; decide))) (fun _ _ _ h => absurd h ((by rw [hz]; decide))) (fun _ _ _ h => absurd h ((by rw [hz]; decide))) (fun _ _ _ h => absurd h ((by rw [hz]; decide))) (fun _ _ _ h => absurd h ((by rw [hz]; decide))) (fun _ _ _ h => absurd h ((by rw [hz]; decide))) (fun _ _ _ h => absurd h ((by rw [hz]; decide))) (fun _ _ _ _ _ h6 => vi h6) (fun _ _ _ _ _ h6 => v3 h6) (fun _ _ _ _ _ _ h => absurd h ((by rw [hz]; decide))) (fun _ _ _ _ _ _ h => absurd h ((by rw [hz]; decide))) (fun _ _ _ _ _ h6 _ _ => v5 h6) (fun _ _ _ _ _ h6 _ _ => kB h6) (fun _ _ _ _ _ _ _ h => absurd (hz) h) (fun _ _ _ _ _ h6 => k4 h6) (fun _ _ _ _ h => absurd (hz) h)
  · have k1 : XP G mX11_wrongAt (d + 6) 0 [.ref 82, .int 1, .int (f 82 11)] [] sw f (fun v sw' f' => XP G mX11_readsRule (d + 7) 44 [.ref 82, .int (hereF f)] (retst v []) sw' f' Q) := by
      refine kf 1 44 (fun s f' hs hq => bX11_readsRule_44 hs hq) ?_
      rcases h with ⟨_, y⟩ | ⟨y, _⟩ | ⟨y, _⟩ | ⟨_, y, _⟩
      · exact y
      · exact absurd y hl
      · exact absurd (Or.inl y) hl
      · exact absurd y hl
    have n114 : ¬ hereF f = 114 := fun z => hl (Or.inl (Or.inl (sg.symm.trans z)))
    have n119 : ¬ hereF f = 119 := fun z => hl (Or.inl (Or.inr (Or.inl (sg.symm.trans z))))
    have n108 : ¬ hereF f = 108 := fun z => hl (Or.inl (Or.inr (Or.inr (sg.symm.trans z))))
    have n118 : ¬ hereF f = 118 := fun z => hl (Or.inr (Or.inl (sg.symm.trans z)))
    have n120 : ¬ hereF f = 120 := fun z => hl (Or.inr (Or.inr (sg.symm.trans z)))
    exact bX11_readsRule_0  (fun h1 => hv h1) (fun h => absurd h ((fun z => n114 z))) (fun h => absurd h ((fun z => n114 z))) (fun h => absurd h ((fun z => n114 z))) (fun h => absurd h ((fun z => n114 z))) (fun h => absurd h ((fun z => n114 z))) (fun h => absurd h ((fun z => n114 z))) (fun h => absurd h ((fun z => n114 z))) (fun h => absurd h ((fun z => n114 z))) (fun _ h => absurd h ((fun z => n119 z))) (fun _ h => absurd h ((fun z => n119 z))) (fun _ h => absurd h ((fun z => n119 z))) (fun _ h => absurd h ((fun z => n119 z))) (fun _ h => absurd h ((fun z => n119 z))) (fun _ h => absurd h ((fun z => n119 z))) (fun _ h => absurd h ((fun z => n119 z))) (fun _ h => absurd h ((fun z => n119 z))) (fun _ _ h => absurd h ((fun z => n108 z))) (fun _ _ h => absurd h ((fun z => n108 z))) (fun _ _ h => absurd h ((fun z => n108 z))) (fun _ _ h => absurd h ((fun z => n108 z))) (fun _ _ h => absurd h ((fun z => n108 z))) (fun _ _ h => absurd h ((fun z => n108 z))) (fun _ _ h => absurd h ((fun z => n108 z))) (fun _ _ h => absurd h ((fun z => n108 z))) (fun _ _ _ h => absurd h ((fun z => n118 z))) (fun _ _ _ h => absurd h ((fun z => n118 z))) (fun _ _ _ h => absurd h ((fun z => n118 z))) (fun _ _ _ h => absurd h ((fun z => n118 z))) (fun _ _ _ h => absurd h ((fun z => n118 z))) (fun _ _ _ h => absurd h ((fun z => n118 z))) (fun _ _ _ h => absurd h ((fun z => n118 z))) (fun _ _ _ h => absurd h ((fun z => n118 z))) (fun _ _ _ _ h => absurd h ((fun z => n120 z))) (fun _ _ _ _ h => absurd h ((fun z => n120 z))) (fun _ _ _ _ h => absurd h ((fun z => n120 z))) (fun _ _ _ _ h => absurd h ((fun z => n120 z))) (fun _ _ _ _ h => absurd h ((fun z => n120 z))) (fun _ _ _ _ h => absurd h ((fun z => n120 z))) (fun _ _ _ _ h => absurd h ((fun z => n120 z))) (fun _ _ _ _ h => absurd h ((fun z => n120 z))) (fun _ _ _ _ _ => k1 )
