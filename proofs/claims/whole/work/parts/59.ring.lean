/-! ===== routes over a row ===== -/
def adjA (cir a : Nat → Int32) (u v : Nat) : Bool := decide (cntR a u v < (cir (8 * u + v)).toNatClampNeg)
theorem adjT_A (f : FF) : adjT f = adjA (f 86) (f 83) := rfl
theorem adjA_sym {f : FF} (hN : RN f) (a : Nat → Int32) {u v : Nat} (hu : u < 8) (hv : v < 8) : adjA (f 86) a u v = adjA (f 86) a v u := by
  unfold adjA
  have h1 : cntR a u v = cntR a v u := cntU_sym _ _ _ _ _
  rw [h1, (hN.1 (8 * u + v) (by omega)).1, (hN.1 (8 * v + u) (by omega)).1, hN.2.1 u v hu hv]
theorem adjA_ne {f : FF} (hN : RN f) (a : Nat → Int32) {u : Nat} (hu : u < 8) : adjA (f 86) a u u = false := by
  unfold adjA
  rw [(hN.1 (8 * u + u) (by omega)).1, hN.2.2 u hu, decide_eq_false_iff_not]
  exact Nat.not_lt_zero _
theorem RWr.cnt {f : FF} {w : Nat} {a : Nat → Int32} (hw : isW w) (H : RWr f w a) (e q : Nat) : cntU (f (w + 9)) (f (w + 10)) (f (w + 11)) e q = cntR a e q := by
  have hw2 := isW_lt hw
  have := (H.RW' hw).cnt e q
  simp only [show ¬ w + 9 = 200 by omega, show ¬ w + 10 = 200 by omega, show ¬ w + 11 = 200 by omega, if_false, if_true] at this
  exact this
theorem room_adjR {f : FF} {w : Nat} {a : Nat → Int32} (hw : isW w) (hN : RN f) (hW : RWr f w a) {u v : Nat} (hu : u < 8) (hv : v < 8) {m : Int32} (hm : 0 < m.toInt) : ¬ bnd (f 4 (8 * u + v) - f (w + 12) (8 * u + v)) m ≤ 0 ↔ adjA (f 86) a u v = true := by
  rw [bnd_pos hm]
  obtain ⟨c, hc, ec⟩ := isN_nI (hN.1 (8 * u + v) (by omega)).2.1 (by omega)
  have eu : f (w + 12) (8 * u + v) = nI (cntR a u v) := by rw [← hW.cnt hw]; exact hW.2.2.2.2.1 u v hu hv
  have hn := cntR_le (hW.rOk hw) u v
  unfold adjA
  rw [decide_eq_true_iff, (hN.1 (8 * u + v) (by omega)).1, ec, eu, pk_sub_toInt (by omega) (by omega), nI_clamp (by omega)]
  omega
theorem sp_findRouteR {G : GC} {d : Nat} {sw : Bool} {f : FF} {Q : QQ} {w e q : Nat} (hw : isW w) (he : e < 8) (hq : q < 8) (hN : RN f) {a : Nat → Int32} (hW : RWr f w a)
    (h0 : (bfs (adjA (f 86) a) q).1 e = 0 → ∀ g : FF, (∀ c, (c < 5 ∨ 10 < c ∨ c = 6) → g c = f c) → Q (some (.int (-1))) sw g)
    (h1 : ∀ (T : Nat) (p : Nat → Nat), (bfs (adjA (f 86) a) q).1 e = T + 1 → T ≤ 7 → IsRt (adjA (f 86) a) (bfs (adjA (f 86) a) q).1 e p T → (∀ k, k ≤ T → p k < 8) → ∀ g : FF, (∀ c, (c < 5 ∨ 10 < c ∨ c = 6) → g c = f c) → (∀ k, k ≤ T → g 5 k = nI (p k)) → Q (some (.int (nI T))) sw g) :
    XP G mX3_findRoute (d + 2) 0 [.ref 3, .int (nI e), .int (nI q), .ref (w + 12), .null] [] sw f Q := by
  have ha := shW_12 hw
  have ve : vp_in (nI e) 8 := vp_in_nI he (by omega)
  refine bX3_findRoute_0 ha (sp_leaveRoom ha (by omega) (fun g go g7 => ?_))
  have ea : ∀ u v, u < 8 → v < 8 → adjC g u v = adjA (f 86) a u v := by
    intro u v hu hv
    rw [Bool.eq_iff_iff]
    unfold adjC
    rw [decide_eq_true_iff, g7 (8 * u + v) (by omega)]
    exact room_adjR hw hN hW hu hv (by decide)
  have eb : bfs (adjC g) q = bfs (adjA (f 86) a) q := bfs_cg hq ea
  refine bX3_findRoute_7 ha (sp_spread hq (fun g2 hc => ?_))
  rw [eb] at hc
  have hB := (bfs_ok (adjA (f 86) a) hq).1
  have bl := bfs_le (adj := adjA (f 86) a) hq
  generalize bfs (adjA (f 86) a) q = t at hc hB bl h0 h1
  obtain ⟨c1, c2, c3, c4⟩ := hc
  have off : ∀ c, (c < 5 ∨ 10 < c ∨ c = 6) → g2 c = f c := fun c hc => by rw [c1 c (by omega) (by omega) (by omega)]; exact go c (by omega)
  have ce : (nI e).toNatClampNeg = e := nI_clamp (by omega)
  have fe : g2 8 (nI e).toNatClampNeg = eF (t.1 e) := by rw [ce]; exact c2 e he
  by_cases z : t.1 e = 0
  · have fz : g2 8 (nI e).toNatClampNeg = -1 := by rw [fe, z]; exact eF_0
    exact bX3_findRoute_12 ha ve (fun h => absurd fz h) (fun _ => h0 z g2 off)
  · obtain ⟨T, hT⟩ : ∃ T, t.1 e = T + 1 := ⟨t.1 e - 1, by omega⟩
    have fn : ¬ g2 8 (nI e).toNatClampNeg = -1 := by rw [fe, eF_m1 (by have := bl e; omega)]; exact z
    obtain ⟨p, hp, hp8⟩ := bi_rt hB (fun u v hu hv => adjA_sym hN a hu hv) T e he hT
    have hT7 : T ≤ 7 := by have := bl e; omega
    refine bX3_findRoute_12 ha ve (fun _ => ?_) (fun h => absurd h fn)
    have loop : ∀ (l j : Nat) (g3 : FF), j + l = T → (∀ c, c ≠ 5 → g3 c = g2 c) → (∀ k, k ≤ j → g3 5 k = nI (p k)) → XP G mX3_findRoute (d + 2) 35 [.ref 3, .int (nI e), .int (nI q), .ref (w + 12), .int (nI (j + 1))] [] sw g3 Q := by
      intro l
      induction l with
      | zero =>
        intro j g3 hj go3 gp
        have e1 : j = T := by omega
        subst e1
        have f3 : g3 8 (nI e).toNatClampNeg = nI j := by rw [go3 8 (by omega), fe, hT, eF_s]
        have lt : g3 8 (nI e).toNatClampNeg < nI (j + 1) := by rw [f3]; exact nI_lt (by omega) (by omega)
        refine bX3_findRoute_35 ha ve (fun _ => ve) (fun _ => ?_) (fun h => absurd lt h) (fun h => absurd lt h)
        rw [f3]
        exact h1 j p hT hT7 hp hp8 g3 (fun c hc => by rw [go3 c (by omega)]; exact off c hc) gp
      | succ l ih =>
        intro j g3 hj go3 gp
        have f3 : g3 8 (nI e).toNatClampNeg = nI T := by rw [go3 8 (by omega), fe, hT, eF_s]
        have nlt : ¬ g3 8 (nI e).toNatClampNeg < nI (j + 1) := by rw [f3]; exact nI_nlt (by omega) (by omega)
        have pr : nI (j + 1) - 1 = nI j := nI_pred j
        obtain ⟨r1, r2, r3, r4⟩ := hp.2 j (by omega)
        refine bX3_findRoute_35 ha ve (fun h => absurd h nlt) (fun h => absurd h nlt) (fun _ => by rw [pr]; exact vp_in_nI (by omega) (by omega)) (fun _ => ?_)
        rw [pr, nI_clamp (by omega), gp j (Nat.le_refl _)]
        refine sp_nearer (far := t.1) (adj := adjA (f 86) a) (v := p (j + 1)) (hp8 j (by omega)) r1 (fun x hx => by rw [go3 8 (by omega)]; exact c2 x hx) bl (fun x hx => ?_) ⟨r2, r3⟩ r4 ?_
        · have h8j := hp8 j (by omega)
          rw [go3 7 (by omega), c1 7 (by omega) (by omega) (by omega), g7 _ (by omega)]
          exact room_adjR hw hN hW h8j hx (by decide)
        · refine bX3_findRoute_65 ha (vp_in_nI (by omega) (by omega)) ?_
          rw [nI_1, nI_clamp (by omega)]
          refine ih (j + 1) _ (by omega) (fun c hc => by rw [upd2_ne _ _ _ hc]; exact go3 c hc) (fun k hk => ?_)
          rw [upd2_self]
          by_cases y : k = j + 1
          · subst y; exact pk_us
          · rw [pk_un y]; exact gp k (by omega)
    refine loop T 0 _ (by omega) (fun c hc => upd2_ne _ _ _ hc) (fun k hk => ?_)
    have : k = 0 := by omega
    subst this
    rw [upd2_self, pk_us, hp.1]
/-! ===== the row behind a ring ===== -/
noncomputable def rtP (adj : Nat → Nat → Bool) (far : Nat → Nat) (e T : Nat) : Nat → Nat := @dite (Nat → Nat) (∃ p, IsRt adj far e p T) (Classical.propDecidable _) (fun h => Classical.choose h) (fun _ _ => 0)
theorem rtP_eq {adj : Nat → Nat → Bool} {far : Nat → Nat} {e T : Nat} {p : Nat → Nat} (h : IsRt adj far e p T) : ∀ k, k ≤ T → rtP adj far e T k = p k := by
  have hx : ∃ p, IsRt adj far e p T := ⟨p, h⟩
  have e1 : rtP adj far e T = Classical.choose hx := dif_pos hx
  intro k hk
  rw [e1]
  exact (Classical.choose_spec hx).uq h k hk
abbrev SM : Type := (Nat → Int32) × Int32 × Int32 × Int32
noncomputable def rtF (cir a : Nat → Int32) (s k : Nat) : Nat := @ite Nat (s = k ∨ ¬ frM a k) (Classical.propDecidable _) 0 ((bfs (adjA cir a) (a (16 + k)).toNatClampNeg).1 (a (16 + s)).toNatClampNeg)
theorem rtF_0 {cir a : Nat → Int32} {s k : Nat} (h : s = k ∨ ¬ frM a k) : rtF cir a s k = 0 := if_pos h
theorem rtF_1 {cir a : Nat → Int32} {s k : Nat} (h1 : s ≠ k) (h2 : frM a k) : rtF cir a s k = (bfs (adjA cir a) (a (16 + k)).toNatClampNeg).1 (a (16 + s)).toNatClampNeg := if_neg (fun z => z.elim h1 (fun y => y h2))
noncomputable def rgP (cir a : Nat → Int32) (s k T : Nat) : Nat → Nat := rtP (adjA cir a) (bfs (adjA cir a) (a (16 + k)).toNatClampNeg).1 (a (16 + s)).toNatClampNeg T
def fctC (a : Nat → Int32) (s k T : Nat) (x : Nat) : Int32 := if x = 7 then nI k else if x = 8 then (if a (32 + k) = 1 then 0 else 1) else if x = 9 then nI T else fcts a s x
noncomputable def pyR (lw : FF) (fa : Nat → Int32) (s k : Nat) : Int32 := @ite Int32 (lawH lw fa 118) (Classical.propDecidable _) (nI k) (nI s)
noncomputable def rgR (lw : FF) (cir : Nat → Int32) (S : SM) (s k : Nat) : SM := if rtF cir S.1 s k = 0 ∨ frP S.1 = 20 then (S.1, S.2.1, S.2.2.1 + 1, S.2.2.2) else if lawV lw (fctC S.1 s k (rtF cir S.1 s k - 1)) 108 99 = 0 then S else (begR S.1 s k (frP S.1) (lawV lw (fctC S.1 s k (rtF cir S.1 s k - 1)) 108 99) (pyR lw (fctC S.1 s k (rtF cir S.1 s k - 1)) s k) (rtF cir S.1 s k - 1) (rgP cir S.1 s k (rtF cir S.1 s k - 1)), S.2.1 + 1, S.2.2.1, S.2.2.2)
def nxX (x : Int32) : Int32 := 25173 * x + 13849 - (25173 * x + 13849) / 65536 * 65536
noncomputable def tnR (lw : FF) (cir : Nat → Int32) (S : SM) (s : Nat) : SM := if lawV lw (fcts S.1 s) 114 10 ≤ nxX (S.1 390) - nxX (S.1 390) / 10 * 10 then (upd S.1 390 (nxX (S.1 390)), S.2) else rgR lw cir (upd S.1 390 (nxX (S.1 390)), S.2) s (lawV lw (fcts S.1 s) 119 15).toNatClampNeg
noncomputable def ctR (lw : FF) (S : SM) (s : Nat) : SM := @ite SM (lawH lw (fcts S.1 s) 120) (Classical.propDecidable _) (endsR (upd S.1 (48 + s) 0) s, S.2.1, S.2.2.1, S.2.2.2 + 1) S
theorem nxX_eq {x : Int32} (h : isN x 65535) : (25173 * x + 13849) &&& 65535 = nxX x ∧ isN (nxX x) 65535 := by
  obtain ⟨n, hn, en⟩ := isN_nI h (by omega)
  have e1 : (25173 : Int32) * x + 13849 = nI (25173 * n + 13849) := by rw [en, show (25173 : Int32) = nI 25173 from rfl, show (13849 : Int32) = nI 13849 from rfl, pk_mul, nI_add]
  unfold nxX
  rw [e1, show (65536 : Int32) = nI 65536 from rfl, pk_rem (by omega) (by omega) (by omega), pk_andN (by omega) 16 (by decide)]
  exact ⟨rfl, nI_isN (by omega) (by omega)⟩
theorem bnd_N (x : Int32) {M : Nat} (hM : M < 2 ^ 31) : isN (bnd x (nI M)) M := by
  have t := nI_toInt hM
  obtain ⟨b1, b2, b3⟩ := bnd_alt (x := x) (m := nI M) (by omega)
  by_cases c : 0 ≤ x
  · by_cases c2 : x ≤ nI M
    · rw [b1 c c2]
      have := Int32.le_iff_toInt_le.mp c
      have := Int32.le_iff_toInt_le.mp c2
      have e0 : (0 : Int32).toInt = 0 := rfl
      exact ⟨by omega, by omega⟩
    · rw [b2 c c2]; exact nI_isN (Nat.le_refl _) hM
  · rw [b3 c]; exact isN_0 _
theorem lawV_N (lw : FF) (fa : Nat → Int32) (L : Int32) {M : Nat} (hM : M < 2 ^ 31) : isN (lawV lw fa L (nI M)) M := by
  unfold lawV
  split
  · exact bnd_N _ hM
  · exact isN_0 _
