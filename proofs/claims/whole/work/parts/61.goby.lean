/-! ===== the class lets a minute go by ===== -/
theorem sp_mayRing {G : GC} {d : Nat} {sw : Bool} {f : FF} {Q : QQ} {w s : Nat} {S : SM} {lw : FF} (hw : isW w) (hE : CEnv sw lw f) (H : CRel f w S) (hs : s < 16) (fs : frM S.1 s) (hQ : ∀ g : FF, COff f g w → CRel g w (tnR lw (f 86) S s) → Q none sw g) : XP G mX7_mayRing (d + 4) 0 [.ref 32, .ref w, .int (nI s), .null, .null, .null, .null, .null, .null] [] sw f Q := by
  have hw2 := isW_lt hw
  obtain ⟨a, cb, cl, cc⟩ := S
  obtain ⟨HW, c5, c6, c7⟩ := H
  have HW : RWr f w a := HW
  have c5 : f 32 5 = cb := c5
  have c6 : f 32 6 = cl := c6
  have c7 : f 32 7 = cc := c7
  have fs : frM a s := fs
  obtain ⟨hl, hL, hN, np, nc⟩ := id hE
  refine bX7_mayRing_0 hw (sp_lookAt hw HW hs fs.1 (fun g1 o1 k1 => ?_))
  have l1 : ∀ m, m < 7 → g1 (lwB sw + m) = lw m := fun m hm => by
    have := lwB_in sw hm
    rw [o1 _ (by omega)]
    exact hl m hm
  refine bX7_mayRing_9 hw (sp_valueOf (isLw_B sw) l1 hL (Or.inl rfl) (fun g2 o2 => ?_))
  rw [lawV_cg hL k1 (Or.inl rfl)]
  refine bX7_mayRing_24 hw (bX9_draw_0 hw ?_)
  have g2f : ∀ c, c ≠ 33 → c ≠ 34 → c ≠ 35 → g2 c = f c := fun c d1 d2 d3 => by rw [o2 c d1 d3]; exact o1 c d2
  have g2w : g2 w = f w := g2f w (by omega) (by omega) (by omega)
  obtain ⟨q1, q2, q3, q4, q5, q6, q7, q8, q9, q10, q11⟩ := id HW
  have e390 : f w 7 = a 390 := q10
  obtain ⟨xe, xn⟩ := nxX_eq (x := a 390) (by rw [← e390]; exact q11)
  rw [upd2_self, pk_us, g2w, e390, xe]
  have H3 : RWr (upd2 g2 w 7 (nxX (a 390))) w (upd a 390 (nxX (a 390))) := by
    refine (HW.cg (g := g2) (fun k hk => g2f _ (by omega) (by omega) (by omega))).setF (fun m h1 h12 => upd2_ne _ _ _ (by omega)) (fun m hm => by rw [upd2_self, pk_un (by omega)]) (fun k hk => pk_un (by omega)) ?_ ?_ ?_ ?_ (by rw [upd2_self, pk_us, pk_us]) (by rw [upd2_self, pk_us]; exact xn)
    · rw [upd2_self, pk_un (by omega), pk_un (by omega), g2w]; exact q6
    · rw [upd2_self, pk_un (by omega), g2w]; exact q7
    · rw [upd2_self, pk_un (by omega), pk_un (by omega), g2w]; exact q8
    · rw [upd2_self, pk_un (by omega), g2w]; exact q9
  have g3f : ∀ c, c ≠ w → c ≠ 33 → c ≠ 34 → c ≠ 35 → upd2 g2 w 7 (nxX (a 390)) c = f c := fun c d0 d1 d2 d3 => by rw [upd2_ne _ _ _ d0]; exact g2f c d1 d2 d3
  have k3 : ∀ k, k ≤ 9 → upd2 g2 w 7 (nxX (a 390)) 34 k = fcts a s k := fun k hk => by rw [upd2_ne _ _ _ (by omega), o2 34 (by omega) (by omega)]; exact k1 k hk
  have ef : fcts (upd a 390 (nxX (a 390))) s = fcts a s := fcts_cg (pk_un (by omega)) (pk_un (by omega)) (pk_un (by omega)) (pk_un (by omega)) (pk_un (by omega))
  have fs1 : frM (upd a 390 (nxX (a 390))) s := by
    refine ⟨by rw [pk_un (by omega)]; exact fs.1, by rw [pk_un (by omega)]; exact fs.2.1, by rw [pk_un (by omega)]; exact fs.2.2.1, fun i hi z => fs.2.2.2 i hi ?_⟩
    unfold inC at z ⊢
    rw [pk_un (by omega), pk_un (by omega), pk_un (by omega)] at z
    exact z
  have tE : tnR lw (f 86) (a, cb, cl, cc) s = if lawV lw (fcts a s) 114 10 ≤ nxX (a 390) - nxX (a 390) / 10 * 10 then (upd a 390 (nxX (a 390)), cb, cl, cc) else rgR lw (f 86) (upd a 390 (nxX (a 390)), cb, cl, cc) s (lawV lw (fcts a s) 119 15).toNatClampNeg := rfl
  rw [tE] at hQ
  generalize hx : nxX (a 390) = x at *
  generalize ha1 : upd a 390 x = a1 at *
  generalize upd2 g2 w 7 x = g3 at *
  have oc : COff f g3 w := ⟨fun c d1 d2 d3 => g3f c (by omega) (by omega) (by omega) (by omega), by rw [g3f 32 (by omega) (by omega) (by omega) (by omega)], by rw [g3f 32 (by omega) (by omega) (by omega) (by omega)]⟩
  have g32 : g3 32 = f 32 := g3f 32 (by omega) (by omega) (by omega) (by omega)
  have g86 : g3 86 = f 86 := g3f 86 (by omega) (by omega) (by omega) (by omega)
  refine bX7_mayRing_29 hw (fun hlt => ?_) (fun hnl => ?_)
  · rw [if_neg (fun z => absurd hlt (Int32.not_lt.mpr z))] at hQ
    have hE3 := hE.off hw oc
    refine sp_valueOf (isLw_B sw) hE3.1 hL (Or.inr (Or.inl rfl)) (fun g4 o4 => ?_)
    rw [lawV_cg hL k3 (Or.inr (Or.inl rfl))]
    have kN : isN (lawV lw (fcts a s) 119 15) 15 := lawV_N (M := 15) lw _ _ (by omega)
    obtain ⟨k, hk, ek⟩ := isN_nI kN (by omega)
    rw [ek, nI_clamp (by omega)] at hQ
    rw [ek]
    have oc4 : COff g3 g4 w := ⟨fun c d1 d2 d3 => o4 c (by omega) (by omega), by rw [o4 32 (by omega) (by omega)], by rw [o4 32 (by omega) (by omega)]⟩
    have g432 : g4 32 = f 32 := by rw [o4 32 (by omega) (by omega)]; exact g32
    have g486 : g4 86 = f 86 := by rw [o4 86 (by omega) (by omega)]; exact g86
    refine sp_ring49 (a := a1) (cb := cb) (cl := cl) (cc := cc) (lw := lw) hw (hE3.off hw oc4) (H3.cg (fun j hj => o4 _ (by omega) (by omega))) (by rw [g432]; exact c5) (by rw [g432]; exact c6) (by rw [g432]; exact c7) hs (by omega) fs1 (fun y hy => by rw [o4 34 (by omega) (by omega), ef]; exact k3 y hy) (fun g5 o5 R5 => ?_)
    rw [g486] at R5
    exact hQ g5 ((oc.tr oc4).tr o5) R5
  · rw [if_pos (Int32.not_lt.mp hnl)] at hQ
    exact hQ g3 oc ⟨H3, by rw [g32]; exact c5, by rw [g32]; exact c6, by rw [g32]; exact c7⟩
theorem RWr.unlink {f g : FF} {w s : Nat} {a : Nat → Int32} (H : RWr f w a) (hs : s < 16) (ts : a s = 1) (off : ∀ m, 1 ≤ m → m ≤ 12 → g (w + m) = f (w + m)) (h0 : ∀ m, m ≠ 2 → g w m = f w m) (h2 : g w 2 = (f w 2) ||| ((1 : Int32) <<< (nI s &&& 31))) : RWr g w (upd a (48 + s) 0) := by
  obtain ⟨r0, r1, r2, r3, r4, r5⟩ := H.2.1 s hs
  obtain ⟨m1, m2, m3, m4, m5, m6, m7, m8, m9, m10, m11⟩ := r5 ts
  refine H.setS hs (fun m h5 h12 => off m (by omega) h12) (fun m hm x hx => ?_) (fun m h4 h8 => h0 m (by omega)) (fun m h1 h4 x hx => by rw [off m h1 (by omega)]) (fun k hk => pk_un (by omega)) (fun z => by rw [pk_un (by omega)]; exact z) ?_
  · by_cases y : m = 2
    · subst y; rw [h2]; exact bt_set_ne (by omega) hx
    · rw [h0 m y]
  · rw [off 1 (by omega) (by omega), off 2 (by omega) (by omega), off 3 (by omega) (by omega), off 4 (by omega) (by omega)]
    unfold RWs
    rw [h0 0 (by omega), h0 1 (by omega), h0 3 (by omega), h2, bt_set_eq (by omega), pk_us, pk_un (by omega), pk_un (by omega), pk_un (by omega), pk_un (by omega), pk_un (by omega), pk_un (by omega), pk_un (by omega)]
    exact ⟨r0, r1, r2, ⟨fun _ => ⟨ts, rfl⟩, fun _ => rfl⟩, r4, fun _ => ⟨m1, Or.inl rfl, m3, m4, m5, m6, m7, m8, m9, m10, m11⟩⟩
theorem sp_cutOffNow {G : GC} {d : Nat} {sw : Bool} {f : FF} {Q : QQ} {w s : Nat} {a : Nat → Int32} (hw : isW w) (H : RWr f w a) (hs : s < 16) (ts : a s = 1) (hQ : ∀ g : FF, (∀ c, (c < w ∨ w + 12 < c) → g c = f c) → RWr g w (endsR (upd a (48 + s) 0) s) → Q none sw g) : XP G mX9_cutOffNow (d + 3) 0 [.ref w, .int (nI s)] [] sw f Q := by
  refine bX9_cutOffNow_0 hw (sp_endCallOf (a := upd a (48 + s) 0) hw (H.unlink hs ts (fun m h1 h12 => upd2_ne _ _ _ (by omega)) (fun m hm => by rw [upd2_self, pk_un hm]) (by rw [upd2_self, pk_us])) hs (fun g go HG => bX9_cutOffNow_17 hw (hQ g (fun c hc => ?_) HG)))
  rw [go c hc, upd2_ne _ _ _ (by omega)]
theorem sp_mayStop {G : GC} {d : Nat} {sw : Bool} {f : FF} {Q : QQ} {w s : Nat} {S : SM} {lw : FF} (hw : isW w) (hE : CEnv sw lw f) (H : CRel f w S) (hs : s < 16) (ts : S.1 s = 1) (hQ : ∀ g : FF, COff f g w → CRel g w (ctR lw S s) → Q none sw g) : XP G mX7_mayStop (d + 4) 0 [.ref 32, .ref w, .int (nI s)] [] sw f Q := by
  have hw2 := isW_lt hw
  obtain ⟨HW, c5, c6, c7⟩ := H
  obtain ⟨hl, hL, hN, np, nc⟩ := id hE
  refine bX7_mayStop_0 hw (sp_lookAt hw HW hs ts (fun g1 o1 k1 => ?_))
  have l1 : ∀ m, m < 7 → g1 (lwB sw + m) = lw m := fun m hm => by
    have := lwB_in sw hm
    rw [o1 _ (by omega)]
    exact hl m hm
  refine bX7_mayStop_9 hw (sp_firstHolding (d := d + 1) (isLw_B sw) l1 hL (fun g2 o2 => ?_))
  rw [lawI_cg hL k1]
  have g2f : ∀ c, c ≠ 33 → c ≠ 34 → c ≠ 35 → g2 c = f c := fun c d1 d2 d3 => by rw [o2 c d1 d3]; exact o1 c d2
  have oc : COff f g2 w := ⟨fun c d1 d2 d3 => g2f c (by omega) (by omega) (by omega), by rw [g2f 32 (by omega) (by omega) (by omega)], by rw [g2f 32 (by omega) (by omega) (by omega)]⟩
  have g32 : g2 32 = f 32 := g2f 32 (by omega) (by omega) (by omega)
  have H2 : RWr g2 w S.1 := HW.cg (fun j hj => g2f _ (by omega) (by omega) (by omega))
  obtain ⟨R, hR, eR, cR, hlt⟩ := hL.R
  unfold ctR at hQ
  by_cases hh : lawH lw (fcts S.1 s) 120
  · have hh' : lawI lw (fcts S.1 s) 120 < (lw 0 0).toNatClampNeg := hh
    rw [if_pos hh] at hQ
    rw [if_pos hh']
    refine bX7_mayStop_22 hw (fun h => absurd h (nI_ne_m1 (by rw [cR] at hh'; omega))) (fun _ => sp_cutOffNow hw H2 hs ts (fun g3 o3 H3 => bX7_mayStop_31 hw (hQ _ ?_ ?_)))
    · exact oc.tr ⟨fun c d1 d2 d3 => by rw [upd2_ne _ _ _ (by omega)]; exact o3 c d3, by rw [upd2_self, pk_un (by omega), o3 32 (by omega)], by rw [upd2_self, pk_un (by omega), o3 32 (by omega)]⟩
    · refine ⟨H3.cg (fun j hj => upd2_ne _ _ _ (by omega)), ?_, ?_, ?_⟩
      · rw [upd2_self, pk_un (by omega), o3 32 (by omega), g32]; exact c5
      · rw [upd2_self, pk_un (by omega), o3 32 (by omega), g32]; exact c6
      · rw [upd2_self, pk_us, o3 32 (by omega), g32, c7]
  · have hh' : ¬ lawI lw (fcts S.1 s) 120 < (lw 0 0).toNatClampNeg := hh
    rw [if_neg hh] at hQ
    rw [if_neg hh']
    exact bX7_mayStop_22 hw (fun _ => hQ g2 oc ⟨H2, by rw [g32]; exact c5, by rw [g32]; exact c6, by rw [g32]; exact c7⟩) (fun h => absurd rfl h)
/-! the row behind a minute -/
def chs (pt pc : Int32) (a : Nat → Int32) : Nat → Nat → Int32
  | 0 => a
  | i + 1 => chR pt pc (chs pt pc a i) i
noncomputable def tns (lw : FF) (cir : Nat → Int32) (S : SM) : Nat → SM
  | 0 => S
  | s + 1 => @ite SM (frM (tns lw cir S s).1 s) (Classical.propDecidable _) (tnR lw cir (tns lw cir S s) s) (tns lw cir S s)
noncomputable def cts (lw : FF) (S : SM) : Nat → SM
  | 0 => S
  | s + 1 => if (cts lw S s).1 s = 1 ∧ (cts lw S s).1 (48 + s) = 1 then ctR lw (cts lw S s) s else cts lw S s
noncomputable def minS (lw : FF) (cir : Nat → Int32) (pt pc : Int32) (S : SM) : SM := cts lw (tns lw cir (chs pt pc S.1 20, S.2) 16) 16
noncomputable def minR (lw : FF) (cir : Nat → Int32) (pt pc : Int32) (S : SM) : SM := (upd (minS lw cir pt pc S).1 389 ((minS lw cir pt pc S).1 389 + 1), (minS lw cir pt pc S).2)
/-! what a minute leaves as it was -/
theorem chR_389 (pt pc : Int32) (a : Nat → Int32) {i : Nat} (hi : i < 20) (hp : (a (168 + i)).toNatClampNeg ≤ 15 ∨ a (188 + i) ≤ 0) : chR pt pc a i 389 = a 389 := by
  unfold chR
  split
  · rfl
  · rename_i h
    have := hp.resolve_right h
    split
    · rw [pk_un (by omega), pk_un (by omega)]
    · rw [pk_un (by omega), pk_un (by omega)]
theorem sp_goBy {G : GC} {d : Nat} {sw : Bool} {f : FF} {Q : QQ} {w : Nat} {S : SM} {lw : FF} (hw : isW w) (hE : CEnv sw lw f) (H : CRel f w S) (hm : ¬ (99999 : Int32) ≤ f w 6) (h389 : (minS lw (f 86) (f 32 3) (f 32 4) S).1 389 = S.1 389) (hQ : ∀ g : FF, COff f g w → CRel g w (minR lw (f 86) (f 32 3) (f 32 4) S) → Q none sw g) : XP G mX7_goBy (d + 5) 0 [.ref 32, .ref w, .null] [] sw f Q := by
  have hw2 := isW_lt hw
  unfold minR at hQ
  generalize hMM : minS lw (f 86) (f 32 3) (f 32 4) S = M at h389 hQ
  -- the third loop
  have third : ∀ (l s : Nat) (g : FF) (T : SM), s + l = 16 → COff f g w → CRel g w (cts lw T s) → cts lw T 16 = M → XP G mX7_goBy (d + 5) 63 [.ref 32, .ref w, .int (nI s)] [] sw g Q := by
    intro l
    induction l with
    | zero =>
      intro s g T hs og Rg eT
      have e1 : s = 16 := by omega
      subst e1
      rw [eT] at Rg
      refine bX7_goBy_63 hw (fun _ => hQ _ (og.tr ⟨fun c d1 d2 d3 => upd2_ne _ _ _ (by omega), by rw [upd2_ne _ _ _ (by omega)], by rw [upd2_ne _ _ _ (by omega)]⟩) ?_) (fun h => absurd (by decide) h) (fun h => absurd (by decide) h)
      obtain ⟨HW, c5, c6, c7⟩ := Rg
      obtain ⟨q1, q2, q3, q4, q5, q6, q7, q8, q9, q10, q11⟩ := id HW
      refine ⟨?_, by rw [upd2_ne _ _ _ (by omega)]; exact c5, by rw [upd2_ne _ _ _ (by omega)]; exact c6, by rw [upd2_ne _ _ _ (by omega)]; exact c7⟩
      have e6 : g w 6 = f w 6 := by
        have h1 : g w 6 = M.1 389 := q8
        have h2 : f w 6 = S.1 389 := H.1.2.2.2.2.2.2.2.1
        rw [h1, h2, h389]
      have n6 : isN (f w 6) 99999 := H.1.2.2.2.2.2.2.2.2.1
      obtain ⟨N, hN, eN⟩ := isN_nI n6 (by omega)
      have hM2 : N < 99999 := by
        rcases Nat.lt_or_ge N 99999 with z | z
        · exact z
        · exact absurd (by rw [eN]; exact nI_le (a := 99999) z (by omega)) hm
      show RWr _ w (upd M.1 389 (M.1 389 + 1))
      refine HW.setF (fun m h1 h12 => upd2_ne _ _ _ (by omega)) (fun m hm => by rw [upd2_self, pk_un (by omega)]) (fun k hk => pk_un (by omega)) ?_ ?_ ?_ ?_ ?_ ?_
      · rw [upd2_self, pk_un (by omega), pk_un (by omega)]; exact q6
      · rw [upd2_self, pk_un (by omega)]; exact q7
      · rw [upd2_self, pk_us, pk_us, q8]
      · rw [upd2_self, pk_us, e6, eN, nI_1]; exact nI_isN (by omega) (by omega)
      · rw [upd2_self, pk_un (by omega), pk_un (by omega)]; exact q10
      · rw [upd2_self, pk_un (by omega)]; exact q11
    | succ l ih =>
      intro s g T hs og Rg eT
      have n16 : ¬ (16 : Int32) ≤ nI s := nI_ge (a := s) (b := 16) (by omega) (by omega)
      obtain ⟨HW, c5, c6, c7⟩ := id Rg
      obtain ⟨r0, r1, r2, r3, r4, r5⟩ := HW.2.1 s (by omega)
      have cond : ((((g w 0) &&& ((g w 2) ^^^ (-1))) >>> (nI s &&& 31)) &&& 1) = 1 ↔ ((cts lw T s).1 s = 1 ∧ (cts lw T s).1 (48 + s) = 1) := by
        have b := bitI_bt (m := (g w 0) &&& ((g w 2) ^^^ (-1))) (s := s) (by omega)
        refine b.trans ?_
        rw [bt_and, bt_not _ (by omega), Bool.and_eq_true, Bool.not_eq_true']
        constructor
        · rintro ⟨z1, z2⟩
          have t := r1.mp z1
          refine ⟨t, ?_⟩
          rcases (r5 t).2.1 with y | y
          · have := r3.mpr ⟨t, y⟩
            rw [this] at z2
            exact absurd z2 (by decide)
          · exact y
        · rintro ⟨z1, z2⟩
          refine ⟨r1.mpr z1, ?_⟩
          cases hb : bt (g w 2) s with
          | false => rfl
          | true =>
            have := (r3.mp hb).2
            rw [z2] at this
            exact absurd this (by decide)
      refine bX7_goBy_63 hw (fun h => absurd h n16) (fun _ h => ?_) (fun _ h => ?_)
      · rw [nI_1]
        have e : cts lw T (s + 1) = cts lw T s := if_neg (fun z => h (cond.mpr z))
        exact ih (s + 1) g T (by omega) og (by rw [e]; exact Rg) eT
      · have hc := cond.mp h
        have e : cts lw T (s + 1) = ctR lw (cts lw T s) s := if_pos hc
        refine sp_mayStop hw (hE.off hw og) Rg (by omega) hc.1 (fun g2 o2 R2 => bX7_goBy_94 hw ?_)
        rw [nI_1]
        exact ih (s + 1) g2 T (by omega) (og.tr o2) (by rw [e]; exact R2) eT
  -- the second
  have second : ∀ (l s : Nat) (g : FF) (T : SM), s + l = 16 → COff f g w → CRel g w (tns lw (f 86) T s) → cts lw (tns lw (f 86) T 16) 16 = M → XP G mX7_goBy (d + 5) 31 [.ref 32, .ref w, .int (nI s)] [] sw g Q := by
    intro l
    induction l with
    | zero =>
      intro s g T hs og Rg eT
      have e1 : s = 16 := by omega
      subst e1
      exact bX7_goBy_31 hw (fun _ => third 16 0 g (tns lw (f 86) T 16) (by omega) og Rg eT) (fun h => absurd (by decide) h) (fun h => absurd (by decide) h)
    | succ l ih =>
      intro s g T hs og Rg eT
      have n16 : ¬ (16 : Int32) ≤ nI s := nI_ge (a := s) (b := 16) (by omega) (by omega)
      have g86 : g 86 = f 86 := og.1 86 (by omega) (by omega) (by omega)
      have cond : (((wFree g w) >>> (nI s &&& 31)) &&& 1) = 1 ↔ frM (tns lw (f 86) T s).1 s := (bitI_bt (m := wFree g w) (s := s) (by omega)).trans (Rg.1.free hw (by omega))
      refine bX7_goBy_31 hw (fun h => absurd h n16) (fun _ h => ?_) (fun _ h => ?_)
      · rw [nI_1]
        have e : tns lw (f 86) T (s + 1) = tns lw (f 86) T s := if_neg (fun z => h (cond.mpr z))
        exact ih (s + 1) g T (by omega) og (by rw [e]; exact Rg) eT
      · have e : tns lw (f 86) T (s + 1) = tnR lw (f 86) (tns lw (f 86) T s) s := if_pos (cond.mp h)
        refine sp_mayRing hw (hE.off hw og) Rg (by omega) (cond.mp h) (fun g2 o2 R2 => bX7_goBy_55 hw ?_)
        rw [nI_1]
        rw [g86] at R2
        exact ih (s + 1) g2 T (by omega) (og.tr o2) (by rw [e]; exact R2) eT
  -- the first
  have first : ∀ (l i : Nat) (g : FF), i + l = 20 → COff f g w → CRel g w (chs (f 32 3) (f 32 4) S.1 i, S.2) → XP G mX7_goBy (d + 5) 2 [.ref 32, .ref w, .int (nI i)] [] sw g Q := by
    intro l
    induction l with
    | zero =>
      intro i g hi og Rg
      have e1 : i = 20 := by omega
      subst e1
      exact bX7_goBy_2 hw (fun _ => second 16 0 g (chs (f 32 3) (f 32 4) S.1 20, S.2) (by omega) og Rg hMM) (fun h => absurd (by decide) h) (fun h => absurd (by decide) h) (fun h => absurd (by decide) h)
    | succ l ih =>
      intro i g hi og Rg
      have n20 : ¬ (20 : Int32) ≤ nI i := nI_ge (a := i) (b := 20) (by omega) (by omega)
      obtain ⟨HW, c5, c6, c7⟩ := id Rg
      have e9 : g (w + 9) (nI i).toNatClampNeg = chs (f 32 3) (f 32 4) S.1 i (188 + i) := by rw [nI_clamp (by omega)]; exact (HW.2.2.1 i (by omega)).1
      have hEg := hE.off hw og
      refine bX7_goBy_2 hw (fun h => absurd h n20) (fun _ => vp_in_nI (by omega) (by omega)) (fun _ h => ?_) (fun _ h => ?_)
      · rw [e9] at h
        rw [nI_1]
        refine ih (i + 1) g (by omega) og ?_
        have e : chs (f 32 3) (f 32 4) S.1 (i + 1) = chs (f 32 3) (f 32 4) S.1 i := if_pos h
        rw [e]
        exact Rg
      · rw [e9] at h
        refine sp_charge (d := d + 2) (pt := f 32 3) (pc := f 32 4) hw HW (by omega) h og.2.1 og.2.2 hE.2.2.2.1 hE.2.2.2.2 (fun g2 o2 H2 => bX7_goBy_23 hw ?_)
        rw [nI_1]
        have g32 : g2 32 = g 32 := o2 32 (by omega)
        exact ih (i + 1) g2 (by omega) (og.tr ⟨fun c d1 d2 d3 => o2 c d3, by rw [g32], by rw [g32]⟩) ⟨H2, by rw [g32]; exact c5, by rw [g32]; exact c6, by rw [g32]; exact c7⟩
  exact bX7_goBy_0 hw (first 20 0 f (by omega) (COff.rf f w) H)
