/-! ===== what a law is told ===== -/
def fcts (a : Nat → Int32) (s : Nat) (k : Nat) : Int32 := if k = 0 then nI s else if k = 1 then a (16 + s) else if k = 2 then a (32 + s) else if k = 3 then a (80 + s) else if k = 4 then a 388 / 100 else if k = 5 then a 389 - a 389 / 60 * 60 else if k = 6 then a 389 / 60 - a 389 / 60 / 24 * 24 else 0
theorem fcts_cg {a a' : Nat → Int32} {s : Nat} (h1 : a' (16 + s) = a (16 + s)) (h2 : a' (32 + s) = a (32 + s)) (h3 : a' (80 + s) = a (80 + s)) (h4 : a' 388 = a 388) (h5 : a' 389 = a 389) : fcts a' s = fcts a s := by
  funext k
  unfold fcts
  rw [h1, h2, h3, h4, h5]
theorem sp_lookAt {G : GC} {d : Nat} {sw : Bool} {f : FF} {Q : QQ} {w s : Nat} {a : Nat → Int32} (hw : isW w) (H : RWr f w a) (hs : s < 16) (ts : a s = 1) (hQ : ∀ g : FF, (∀ c, c ≠ 34 → g c = f c) → (∀ k, k ≤ 9 → g 34 k = fcts a s k) → Q none sw g) : XP G mX5_lookAt d 0 [.ref 33, .ref w, .int (nI s)] [] sw f Q := by
  have hw2 := isW_lt hw
  have h0 : w ≠ 34 := by omega
  have h1 : w + 1 ≠ 34 := by omega
  have h2 : w + 2 ≠ 34 := by omega
  have vs : vp_in (nI s) 16 := vp_in_nI hs (by omega)
  have cs : (nI s).toNatClampNeg = s := nI_clamp (by omega)
  obtain ⟨q1, q2, q3, q4, q5, q6, q7, q8, q9, q10, q11⟩ := H
  obtain ⟨r0, r1, r2, r3, r4, r5⟩ := q2 s hs
  obtain ⟨m1, m2, m3, m4, m5, m6, m7, m8, m9, m10, m11⟩ := r5 ts
  have fin : ∀ x : Int32, x = a (32 + s) → Q none sw (upd2 (upd2 (upd2 (upd2 (upd2 (upd2 (upd2 (upd2 (upd2 (upd2 f 34 0 (nI s)) 34 1 (f (w + 1) s)) 34 2 x) 34 3 (f (w + 2) s)) 34 4 (f w 5 / 100)) 34 5 (f w 6 - f w 6 / 60 * 60)) 34 6 (f w 6 / 60 - f w 6 / 60 / 24 * 24)) 34 7 0) 34 8 0) 34 9 0) := by
    intro x hx
    rw [m4, m6, q6, q8, hx]
    refine hQ _ (fun c hc => ?_) (fun k hk => ?_)
    · rw [upd2_ne _ _ _ hc, upd2_ne _ _ _ hc, upd2_ne _ _ _ hc, upd2_ne _ _ _ hc, upd2_ne _ _ _ hc, upd2_ne _ _ _ hc, upd2_ne _ _ _ hc, upd2_ne _ _ _ hc, upd2_ne _ _ _ hc, upd2_ne _ _ _ hc]
    · rw [upd2_self, upd2_self, upd2_self, upd2_self, upd2_self, upd2_self, upd2_self, upd2_self, upd2_self, upd2_self]
      rcases (by omega : k = 0 ∨ k = 1 ∨ k = 2 ∨ k = 3 ∨ k = 4 ∨ k = 5 ∨ k = 6 ∨ k = 7 ∨ k = 8 ∨ k = 9) with rfl | rfl | rfl | rfl | rfl | rfl | rfl | rfl | rfl | rfl <;> rfl
  refine bX5_lookAt_0 hw vs (fun _ => vs) (fun h => ?_) (fun _ => vs) (fun h => ?_)
  · simp only [upd2_ne _ _ _ h0, upd2_ne _ _ _ h1, upd2_ne _ _ _ h2, cs] at h ⊢
    refine fin 0 ?_
    have b1 : bt (f w 1) s = true := by
      have := mt (bit0_bt (m := f w 1) (s := s) (by omega)).mpr h
      simpa using this
    exact ((r2.mp b1).2).symm
  · simp only [upd2_ne _ _ _ h0, upd2_ne _ _ _ h1, upd2_ne _ _ _ h2, cs] at h ⊢
    refine fin 1 ?_
    have b1 : bt (f w 1) s = false := (bit0_bt (by omega)).mp h
    rcases m1 with m1 | m1
    · have := r2.mpr ⟨ts, m1⟩
      rw [this] at b1
      exact absurd b1 (by decide)
    · exact m1.symm
theorem sp_feels {G : GC} {d : Nat} {sw : Bool} {f : FF} {Q : QQ} {s : Nat} (hs : s < 16) (hQ : ∀ g : FF, (∀ c, c ≠ 103 → g c = f c) → (∀ k, k ≤ 9 → g 103 k = fcts (f 83) s k) → Q none sw g) : XP G mX11_feels d 0 [.ref 82, .int (nI s)] [] sw f Q := by
  have h0 : (83 : Nat) ≠ 103 := by omega
  have e16 : ((16 : Int32) + nI s) = nI (16 + s) := by rw [n_16, nI_add]
  have e32 : ((32 : Int32) + nI s) = nI (32 + s) := by rw [n_32, nI_add]
  have e80 : ((80 : Int32) + nI s) = nI (80 + s) := by rw [n_80, nI_add]
  have c16 : ((16 : Int32) + nI s).toNatClampNeg = 16 + s := by rw [e16, nI_clamp (by omega)]
  have c32 : ((32 : Int32) + nI s).toNatClampNeg = 32 + s := by rw [e32, nI_clamp (by omega)]
  have c80 : ((80 : Int32) + nI s).toNatClampNeg = 80 + s := by rw [e80, nI_clamp (by omega)]
  refine bX11_feels_0 (by rw [e16]; exact vp_in_nI (by omega) (by omega)) (by rw [e32]; exact vp_in_nI (by omega) (by omega)) (by rw [e80]; exact vp_in_nI (by omega) (by omega)) ?_
  simp only [upd2_ne _ _ _ h0, c16, c32, c80]
  refine hQ _ (fun c hc => ?_) (fun k hk => ?_)
  · rw [upd2_ne _ _ _ hc, upd2_ne _ _ _ hc, upd2_ne _ _ _ hc, upd2_ne _ _ _ hc, upd2_ne _ _ _ hc, upd2_ne _ _ _ hc, upd2_ne _ _ _ hc, upd2_ne _ _ _ hc, upd2_ne _ _ _ hc, upd2_ne _ _ _ hc]
  · rw [upd2_self, upd2_self, upd2_self, upd2_self, upd2_self, upd2_self, upd2_self, upd2_self, upd2_self, upd2_self]
    rcases (by omega : k = 0 ∨ k = 1 ∨ k = 2 ∨ k = 3 ∨ k = 4 ∨ k = 5 ∨ k = 6 ∨ k = 7 ∨ k = 8 ∨ k = 9) with rfl | rfl | rfl | rfl | rfl | rfl | rfl | rfl | rfl | rfl <;> rfl
/-! ===== charges ===== -/
def chR (pt pc : Int32) (a : Nat → Int32) (i : Nat) : Nat → Int32 := if a (188 + i) ≤ 0 then a else if a (32 + (a (168 + i)).toNatClampNeg) = 1 then upd (upd a (80 + (a (168 + i)).toNatClampNeg) (mnI 999999 (a (80 + (a (168 + i)).toNatClampNeg) + (pc + pt * a (208 + i))))) (188 + i) (a (188 + i) - 1) else upd (upd a 388 (mxI 0 (a 388 - (pc + pt * a (208 + i))))) (188 + i) (a (188 + i) - 1)
theorem bnd_fund {F P : Nat} (hF : F ≤ 999999) (hP : P ≤ 9999) : bnd (nI F + -(nI P)) 999999 = mxI 0 (nI F - nI P) ∧ isN (mxI 0 (nI F - nI P)) 999999 := by
  have e : nI F + -(nI P) = nI F - nI P := (Int32.sub_eq_add_neg _ _).symm
  have t := pk_sub_toInt (a := F) (b := P) (by omega) (by omega)
  have e0 : (0 : Int32).toInt = 0 := rfl
  have eM : (999999 : Int32).toInt = 999999 := rfl
  rw [e]
  generalize nI F - nI P = y at t ⊢
  obtain ⟨b1, b2, b3⟩ := bnd_alt (x := y) (m := 999999) (by decide)
  have yle : y ≤ 999999 := Int32.le_iff_toInt_le.mpr (by omega)
  unfold mxI
  by_cases c : 0 ≤ y
  · rw [b1 c yle, if_neg (Int32.not_lt.mpr c)]
    exact ⟨rfl, by have := Int32.le_iff_toInt_le.mp c; omega, by omega⟩
  · rw [b3 c, if_pos (Int32.not_le.mp c)]
    exact ⟨rfl, isN_0 _⟩
theorem bnd_arr {A P : Nat} (hA : A ≤ 999999) (hP : P ≤ 99999) : bnd (nI A + nI P) 999999 = mnI 999999 (nI A + nI P) ∧ isN (mnI 999999 (nI A + nI P)) 999999 := by
  rw [nI_add]
  have eM : (999999 : Int32).toInt = 999999 := rfl
  have t := nI_toInt (n := A + P) (by omega)
  have y0 : 0 ≤ nI (A + P) := nI_pos' (by omega)
  generalize nI (A + P) = y at t y0 ⊢
  obtain ⟨b1, b2, b3⟩ := bnd_alt (x := y) (m := 999999) (by decide)
  unfold mnI
  by_cases c : y ≤ 999999
  · rw [b1 y0 c, if_neg (Int32.not_lt.mpr c)]
    exact ⟨rfl, by omega, by have := Int32.le_iff_toInt_le.mp c; omega⟩
  · rw [b2 y0 c, if_pos (Int32.not_le.mp c)]
    exact ⟨rfl, by omega, by omega⟩
/-- a call's minutes change -/
theorem RWr.setLe {f g : FF} {w : Nat} {a : Nat → Int32} (H : RWr f w a) {i : Nat} {x : Int32} (hi : i < 20) (hl : f (w + 9) i ≠ 0) (hx : x ≠ 0) (nx : isN x 99) (off : ∀ m, m ≤ 12 → m ≠ 9 → g (w + m) = f (w + m)) (h9 : g (w + 9) = upd (f (w + 9)) i x) : RWr g w (upd a (188 + i) x) := by
  obtain ⟨q1, q2, q3, q4, q5, q6, q7, q8, q9, q10, q11⟩ := H
  have o0 := off 0 (by omega) (by omega)
  rw [Nat.add_zero] at o0
  unfold RWr
  rw [o0, off 1 (by omega) (by omega), off 2 (by omega) (by omega), off 3 (by omega) (by omega), off 4 (by omega) (by omega), off 5 (by omega) (by omega), off 6 (by omega) (by omega), off 7 (by omega) (by omega), off 8 (by omega) (by omega), off 10 (by omega) (by omega), off 11 (by omega) (by omega), off 12 (by omega) (by omega), h9]
  have z0 : ∀ j, upd (f (w + 9)) i x j = 0 ↔ f (w + 9) j = 0 := by
    intro j
    by_cases y : j = i
    · subst y; rw [pk_us]; exact ⟨fun z => absurd z hx, fun z => absurd z hl⟩
    · rw [pk_un y]
  refine ⟨q1, fun s hs => ?_, fun j hj => ?_, fun s hs => ?_, fun e q he hq => ?_, ?_, q7, ?_, q9, ?_, q11⟩
  · exact (q2 s hs).cg rfl rfl rfl rfl rfl rfl rfl rfl (fun k hk => pk_un (by omega))
  · obtain ⟨l1, l2, l3⟩ := q3 j hj
    have rc : ∀ z : f (w + 9) j ≠ 0, RWc (f (w + 5)) (f (w + 6)) (f (w + 7)) (f (w + 8)) (f (w + 10)) (f (w + 11)) (upd a (188 + i) x) j := fun z => (l3 z).cg rfl rfl rfl rfl (fun _ _ => rfl) rfl rfl (pk_un (by omega)) (pk_un (by omega)) (pk_un (by omega)) (pk_un (by omega)) (fun k hk => pk_un (by omega)) (fun s hs hs1 => by rw [pk_un (by omega)]; exact hs1)
    by_cases y : j = i
    · subst y
      rw [pk_us, pk_us]
      exact ⟨rfl, nx, fun _ => rc hl⟩
    · rw [pk_un y, pk_un (by omega)]
      exact ⟨l1, l2, rc⟩
  · rw [q4 s hs]
    constructor
    · rintro ⟨j, hj, z1, z2⟩; exact ⟨j, hj, fun z => z1 ((z0 j).mp z), z2⟩
    · rintro ⟨j, hj, z1, z2⟩; exact ⟨j, hj, fun z => z1 ((z0 j).mpr z), z2⟩
  · rw [q5 e q he hq, cntU_eq, cntU_eq, sumN_cg 20 (fun j hj => ?_)]
    unfold cuI
    by_cases z : f (w + 9) j = 0
    · rw [if_pos z, if_pos ((z0 j).mpr z)]
    · rw [if_neg z, if_neg (fun y => z ((z0 j).mp y))]
  · rw [pk_un (by omega)]; exact q6
  · rw [pk_un (by omega)]; exact q8
  · rw [pk_un (by omega)]; exact q10
theorem sp_charge {G : GC} {d : Nat} {sw : Bool} {f : FF} {Q : QQ} {w i : Nat} {a : Nat → Int32} {pt pc : Int32} (hw : isW w) (H : RWr f w a) (hi : i < 20) (hl : ¬ a (188 + i) ≤ 0) (e3 : f 32 3 = pt) (e4 : f 32 4 = pc) (npt : isN pt 99) (npc : isN pc 99) (hQ : ∀ g : FF, (∀ c, (c < w ∨ w + 12 < c) → g c = f c) → RWr g w (chR pt pc a i) → Q none sw g) : XP G mX7_charge (d + 2) 0 [.ref 32, .ref w, .int (nI i), .null, .null] [] sw f Q := by
  have hw2 := isW_lt hw
  have vi : vp_in (nI i) 20 := vp_in_nI hi (by omega)
  have ci : (nI i).toNatClampNeg = i := nI_clamp (by omega)
  obtain ⟨q1, q2, q3, q4, q5, q6, q7, q8, q9, q10, q11⟩ := id H
  obtain ⟨l1, l2, l3⟩ := q3 i hi
  have hl0 : f (w + 9) i ≠ 0 := fun z => hl (by rw [← l1, z]; decide)
  obtain ⟨c1, c2, c3, c4, c5, c6, c7, c8, c9, c10, c11, c12, c13, c14, c15, c16⟩ := l3 hl0
  obtain ⟨s, hs, es⟩ := isN_nI c9 (by omega)
  obtain ⟨T, hT, eT⟩ := isN_nI c12 (by omega)
  obtain ⟨PT, hPT, ePT⟩ := isN_nI npt (by omega)
  obtain ⟨PC, hPC, ePC⟩ := isN_nI npc (by omega)
  obtain ⟨L, hL, eL⟩ := isN_nI l2 (by omega)
  have L1 : 1 ≤ L := by
    rcases Nat.eq_zero_or_pos L with z | z
    · exact absurd (by rw [eL, z]; rfl) hl0
    · exact z
  have ts : a s = 1 := by rw [es, nI_clamp (by omega)] at c10; exact c10
  have cs : (nI s).toNatClampNeg = s := nI_clamp (by omega)
  have a168 : (a (168 + i)).toNatClampNeg = s := by rw [← c8, es, cs]
  have hPm : PT * T ≤ 99 * 7 := Nat.mul_le_mul hPT hT
  have eP : pc + pt * a (208 + i) = nI (PC + PT * T) := by rw [← c11, eT, ePT, ePC, pk_mul, nI_add]
  have eP2 : f 32 4 + f 32 3 * f (w + 10) (nI i).toNatClampNeg = nI (PC + PT * T) := by rw [ci, e3, e4, c11]; exact eP
  obtain ⟨r0, r1, r2, r3, r4, r5⟩ := q2 s (by omega)
  obtain ⟨m1, m2, m3, m4, m5, m6, m7, m8, m9, m10, m11⟩ := r5 ts
  obtain ⟨A, hA, eA⟩ := isN_nI m7 (by omega)
  obtain ⟨F, hF, eF⟩ := isN_nI q7 (by omega)
  -- what is left to do behind the pence
  have tail : ∀ (g1 : FF) (a1 : Nat → Int32), RWr g1 w a1 → (∀ c, (c < w ∨ w + 12 < c) → g1 c = f c) → g1 (w + 9) = f (w + 9) → a1 (188 + i) = a (188 + i) → chR pt pc a i = upd a1 (188 + i) (a (188 + i) - 1) → (¬ ((upd2 g1 (w + 9) (nI i).toNatClampNeg ((g1 (w + 9) (nI i).toNatClampNeg) - 1)) (w + 9) (nI i).toNatClampNeg) = 0 → Q none sw (upd2 g1 (w + 9) (nI i).toNatClampNeg ((g1 (w + 9) (nI i).toNatClampNeg) - 1))) ∧ (((upd2 g1 (w + 9) (nI i).toNatClampNeg ((g1 (w + 9) (nI i).toNatClampNeg) - 1)) (w + 9) (nI i).toNatClampNeg) = 0 → ∀ x3 x4 : Int32, XP G mX9_endCallAt (d + 1) 0 [.ref w, .int (nI i)] [] sw (upd2 g1 (w + 9) (nI i).toNatClampNeg ((g1 (w + 9) (nI i).toNatClampNeg) - 1)) (fun v sw' f' => XP G mX7_charge (d + 2) 78 [.ref 32, .ref w, .int (nI i), .int x3, .int x4] (retst v []) sw' f' Q)) := by
    intro g1 a1 H1 go g9 a1i ec
    have v1 : g1 (w + 9) i = nI L := by rw [g9]; exact eL
    have v2 : nI L - 1 = nI (L - 1) := by rw [n_1, pk_sub L1]
    have a188 : a (188 + i) = nI L := by rw [← l1]; exact eL
    rw [ci, v1, v2, upd2_self, pk_us]
    rw [a188, v2] at ec
    constructor
    · intro z
      refine hQ _ (fun c hc => by rw [upd2_ne _ _ _ (by omega)]; exact go c hc) ?_
      rw [ec]
      exact H1.setLe hi (by rw [v1]; exact nI_ne0 (by omega) (by omega)) z (nI_isN (by omega) (by omega)) (fun m hm m9 => upd2_ne _ _ _ (by omega)) (upd2_self _ _ _ _)
    · intro z x3 x4
      refine sp_endCallAt hw H1 hi (by rw [v1]; exact nI_ne0 (by omega) (by omega)) (fun c hc => upd2_ne _ _ _ hc) (fun j hj => by rw [upd2_self, pk_un hj]) (fun g2 go2 H2 => bX7_charge_78 hw (hQ g2 (fun c hc => by rw [go2 c hc]; exact go c hc) ?_))
      rw [ec, z]
      exact H2
  have es2 : f (w + 8) (nI i).toNatClampNeg = nI s := by rw [ci]; exact es
  by_cases lv : a (32 + s) = 1
  · have nb : ¬ (((f w 1) >>> ((f (w + 8) (nI i).toNatClampNeg) &&& 31)) &&& 1) = 1 := by
      rw [es2]
      intro z
      have := (r2.mp ((bitI_bt (by omega)).mp z)).2
      rw [lv] at this
      exact absurd this (by decide)
    refine bX7_charge_0 hw vi vi (fun _ => ?_) (fun h => absurd h nb)
    rw [eP2, es2]
    refine bX9_addArrears_0 hw (vp_in_nI (by omega) (by omega)) (vp_in_nI (by omega) (by omega)) ?_
    rw [cs]
    have eA' : f (w + 2) s = nI A := eA
    obtain ⟨b1, b2⟩ := bnd_arr (A := A) (P := PC + PT * T) hA (by omega)
    rw [eA', b1]
    have H1 : RWr (upd2 f (w + 2) s (mnI 999999 (nI A + nI (PC + PT * T)))) w (upd a (80 + s) (mnI 999999 (nI A + nI (PC + PT * T)))) := by
      refine H.setS (s := s) (by omega) (fun m h5 h12 => upd2_ne _ _ _ (by omega)) (fun m hm x hx => by rw [upd2_ne _ _ _ (by omega)]) (fun m h4 h8 => by rw [upd2_ne _ _ _ (by omega)]) (fun m h1 h4 x hx => ?_) (fun k hk => pk_un (by omega)) (fun z => by rw [pk_un (by omega)]; exact z) ?_
      · by_cases y : m = 2
        · subst y; rw [upd2_self, pk_un hx]
        · rw [upd2_ne _ _ _ (by omega)]
      · rw [upd2_ne _ _ _ (show w ≠ w + 2 by omega), upd2_ne _ _ _ (show w + 1 ≠ w + 2 by omega), upd2_ne _ _ _ (show w + 3 ≠ w + 2 by omega), upd2_ne _ _ _ (show w + 4 ≠ w + 2 by omega), upd2_self]
        unfold RWs
        rw [pk_us, pk_us, pk_un (by omega), pk_un (by omega), pk_un (by omega), pk_un (by omega), pk_un (by omega), pk_un (by omega), pk_un (by omega)]
        exact ⟨r0, r1, r2, r3, r4, fun _ => ⟨m1, m2, m3, m4, m5, rfl, b2, m8, m9, m10, m11⟩⟩
    obtain ⟨t1, t2⟩ := tail _ _ H1 (fun c hc => upd2_ne _ _ _ (by omega)) (upd2_ne _ _ _ (by omega)) (pk_un (by omega)) (by
      unfold chR
      rw [if_neg hl, a168, if_pos lv, eP, ← m6, eA'])
    exact bX7_charge_54 hw vi vi vi t1 (fun z => t2 z _ _)
  · have lv0 : a (32 + s) = 0 := m1.resolve_right lv
    have yb : (((f w 1) >>> ((f (w + 8) (nI i).toNatClampNeg) &&& 31)) &&& 1) = 1 := by
      rw [es2]
      exact (bitI_bt (by omega)).mpr (r2.mpr ⟨ts, lv0⟩)
    refine bX7_charge_0 hw vi vi (fun h => absurd yb h) (fun _ => ?_)
    rw [eP2]
    refine bX9_addFund_0 hw ?_
    have eF' : f w 5 = nI F := eF
    obtain ⟨b1, b2⟩ := bnd_fund (F := F) (P := PC + PT * T) hF (by omega)
    rw [eF', b1]
    have H1 : RWr (upd2 f w 5 (mxI 0 (nI F - nI (PC + PT * T)))) w (upd a 388 (mxI 0 (nI F - nI (PC + PT * T)))) := by
      refine H.setF (fun m h1 h12 => upd2_ne _ _ _ (by omega)) (fun m hm => by rw [upd2_self, pk_un (by omega)]) (fun k hk => pk_un (by omega)) (by rw [upd2_self, pk_us, pk_us]) (by rw [upd2_self, pk_us]; exact b2) ?_ ?_ ?_ ?_
      · rw [upd2_self, pk_un (by omega), pk_un (by omega)]; exact q8
      · rw [upd2_self, pk_un (by omega)]; exact q9
      · rw [upd2_self, pk_un (by omega), pk_un (by omega)]; exact q10
      · rw [upd2_self, pk_un (by omega)]; exact q11
    obtain ⟨t1, t2⟩ := tail _ _ H1 (fun c hc => upd2_ne _ _ _ (by omega)) (upd2_ne _ _ _ (by omega)) (pk_un (by omega)) (by
      unfold chR
      rw [if_neg hl, a168, if_neg lv, eP, ← q6, eF'])
    exact bX7_charge_44 hw vi vi vi t1 (fun z => t2 z _ _)
theorem sp_charges {G : GC} {d : Nat} {sw : Bool} {f : FF} {Q : QQ} {i : Nat} (hi : i < 20) (hl : ¬ f 83 (188 + i) ≤ 0) (hp : isN (f 83 (168 + i)) 15) (hQ : ∀ g : FF, (∀ c, c ≠ 83 → g c = f c) → g 83 = chR (f 82 4) (f 82 5) (f 83) i → Q none sw g) : XP G mX11_charges (d + 1) 0 [.ref 82, .int (nI i), .null, .null] [] sw f Q := by
  have e168 : (168 : Int32) + nI i = nI (168 + i) := by rw [n_168, nI_add]
  have e188 : (188 : Int32) + nI i = nI (188 + i) := by rw [n_188, nI_add]
  have e208 : (208 : Int32) + nI i = nI (208 + i) := by rw [n_208, nI_add]
  obtain ⟨s, hs, es⟩ := isN_nI hp (by omega)
  have c168 : ((168 : Int32) + nI i).toNatClampNeg = 168 + i := by rw [e168, nI_clamp (by omega)]
  have c188 : ((188 : Int32) + nI i).toNatClampNeg = 188 + i := by rw [e188, nI_clamp (by omega)]
  have c208 : ((208 : Int32) + nI i).toNatClampNeg = 208 + i := by rw [e208, nI_clamp (by omega)]
  have e32 : ((32 : Int32) + nI s) = nI (32 + s) := by rw [n_32, nI_add]
  have e80 : ((80 : Int32) + nI s) = nI (80 + s) := by rw [n_80, nI_add]
  have c32 : ((32 : Int32) + nI s).toNatClampNeg = 32 + s := by rw [e32, nI_clamp (by omega)]
  have c80 : ((80 : Int32) + nI s).toNatClampNeg = 80 + s := by rw [e80, nI_clamp (by omega)]
  have v168 : vp_in ((168 : Int32) + nI i) 391 := by rw [e168]; exact vp_in_nI (by omega) (by omega)
  have v188 : vp_in ((188 : Int32) + nI i) 391 := by rw [e188]; exact vp_in_nI (by omega) (by omega)
  have v208 : vp_in ((208 : Int32) + nI i) 391 := by rw [e208]; exact vp_in_nI (by omega) (by omega)
  have v32 : vp_in ((32 : Int32) + f 83 ((168 : Int32) + nI i).toNatClampNeg) 391 := by rw [c168, es, e32]; exact vp_in_nI (by omega) (by omega)
  have v80 : vp_in ((80 : Int32) + f 83 ((168 : Int32) + nI i).toNatClampNeg) 391 := by rw [c168, es, e80]; exact vp_in_nI (by omega) (by omega)
  refine bX11_charges_0 v208 v168 v32 (fun _ => v188) (fun _ => v188) (fun h => ?_) (fun _ => v80) (fun _ => v80) (fun _ => v188) (fun _ => v188) (fun h => ?_)
  · rw [c168, es, c32] at h
    rw [c208, c188]
    refine hQ _ (fun c hc => by rw [upd2_ne _ _ _ hc, upd2_ne _ _ _ hc]) ?_
    unfold chR
    rw [if_neg hl, es, nI_clamp (by omega), if_neg h, upd2_self, upd2_self, pk_un (by omega)]
  · rw [c168, es, c32] at h
    rw [c208, c188, c168, es, c80]
    refine hQ _ (fun c hc => by rw [upd2_ne _ _ _ hc, upd2_ne _ _ _ hc]) ?_
    unfold chR
    rw [if_neg hl, es, nI_clamp (by omega), if_pos h, upd2_self, upd2_self, pk_un (by omega)]
/-! ===== a free place ===== -/
noncomputable def frP (a : Nat → Int32) : Nat := fstN (fun i => a (188 + i) = 0) 20
theorem sp_lowestFreePlace {G : GC} {d : Nat} {sw : Bool} {f : FF} {Q : QQ} {w : Nat} {a : Nat → Int32} (hw : isW w) (h9 : ∀ i, i < 20 → f (w + 9) i = a (188 + i)) (hy : frP a < 20 → Q (some (.int (nI (frP a)))) sw f) (hn : ¬ frP a < 20 → Q (some (.int (-1))) sw f) : XP G mX9_lowestFreePlace d 0 [.ref w, .null] [] sw f Q := by
  have loop : ∀ (l i : Nat), i + l = 20 → (∀ j, j < i → ¬ a (188 + j) = 0) → XP G mX9_lowestFreePlace d 2 [.ref w, .int (nI i)] [] sw f Q := by
    intro l
    induction l with
    | zero =>
      intro i hi hno
      have e1 : i = 20 := by omega
      subst e1
      have e : frP a = 20 := fstN_no hno
      exact bX9_lowestFreePlace_2 hw (fun _ => hn (by omega)) (fun h => absurd (by decide) h) (fun h => absurd (by decide) h) (fun h => absurd (by decide) h)
    | succ l ih =>
      intro i hi hno
      refine bX9_lowestFreePlace_2 hw (fun h => absurd h (nI_ge (a := i) (b := 20) (by omega) (by omega))) (fun _ => vp_in_nI (by omega) (by omega)) (fun _ h => ?_) (fun _ h => ?_)
      · rw [nI_clamp (by omega), h9 i (by omega)] at h
        rw [nI_1]
        refine ih (i + 1) (by omega) (fun j hj => ?_)
        by_cases y : j = i
        · subst y; exact h
        · exact hno j (by omega)
      · rw [nI_clamp (by omega), h9 i (by omega)] at h
        have e : frP a = i := fstN_eq (by omega) h hno
        have := hy (by omega)
        rw [e] at this
        exact this
  exact bX9_lowestFreePlace_0 hw (loop 20 0 (by omega) (fun j hj => absurd hj (by omega)))
theorem sp_freePlace {G : GC} {d : Nat} {sw : Bool} {f : FF} {Q : QQ} (hr : rOk (f 83)) (hQ : Q (some (.int (nI (frP (f 83))))) sw f) : XP G mX11_freePlace d 0 [.ref 82, .null] [] sw f Q := by
  have loop : ∀ (l i : Nat), i + l = 20 → (∀ j, j < i → ¬ f 83 (188 + j) = 0) → XP G mX11_freePlace d 2 [.ref 82, .int (nI i)] [] sw f Q := by
    intro l
    induction l with
    | zero =>
      intro i hi hno
      have e1 : i = 20 := by omega
      subst e1
      have e : frP (f 83) = 20 := fstN_no hno
      rw [e] at hQ
      exact bX11_freePlace_2 (fun _ => hQ) (fun h => absurd (by decide) h) (fun h => absurd (by decide) h) (fun h => absurd (by decide) h)
    | succ l ih =>
      intro i hi hno
      have e188 : (188 : Int32) + nI i = nI (188 + i) := by rw [n_188, nI_add]
      have p0 := isN_le0 (hr i (by omega)).1
      refine bX11_freePlace_2 (fun h => absurd h (nI_ge (a := i) (b := 20) (by omega) (by omega))) (fun _ => by rw [e188]; exact vp_in_nI (by omega) (by omega)) (fun _ h => ?_) (fun _ h => ?_)
      · rw [e188, nI_clamp (by omega)] at h
        have e : frP (f 83) = i := fstN_eq (by omega) (p0.mp h) hno
        rw [e] at hQ
        exact hQ
      · rw [e188, nI_clamp (by omega)] at h
        rw [nI_1]
        refine ih (i + 1) (by omega) (fun j hj => ?_)
        by_cases y : j = i
        · subst y; exact fun z => h (p0.mpr z)
        · exact hno j (by omega)
  exact bX11_freePlace_0 (loop 20 0 (by omega) (fun j hj => absurd hj (by omega)))
