/-! ===== bits ===== -/
theorem bt_hi (x : Int32) {s : Nat} (hs : 32 ≤ s) : bt x s = false := BitVec.getLsbD_of_ge _ _ hs
theorem bt_set_ne {m : Int32} {s x : Nat} (hs : s < 32) (h : x ≠ s) : bt (m ||| ((1 : Int32) <<< (nI s &&& 31))) x = bt m x := by
  by_cases hx : x < 32
  · rw [bt_or, bt_one hs hx, decide_eq_false h, Bool.or_false]
  · rw [bt_hi _ (by omega), bt_hi _ (by omega)]
theorem bt_set_eq {m : Int32} {s : Nat} (hs : s < 32) : bt (m ||| ((1 : Int32) <<< (nI s &&& 31))) s = true := by
  rw [bt_or, bt_one hs hs, decide_eq_true rfl, Bool.or_true]
theorem bt_clr_ne {m : Int32} {s x : Nat} (hs : s < 32) (h : x ≠ s) : bt (m &&& (((1 : Int32) <<< (nI s &&& 31)) ^^^ (-1))) x = bt m x := by
  by_cases hx : x < 32
  · rw [bt_and, bt_not _ hx, bt_one hs hx, decide_eq_false h]
    simp
  · rw [bt_hi _ (by omega), bt_hi _ (by omega)]
theorem bt_clr_eq {m : Int32} {s : Nat} (hs : s < 32) : bt (m &&& (((1 : Int32) <<< (nI s &&& 31)) ^^^ (-1))) s = false := by
  rw [bt_and, bt_not _ hs, bt_one hs hs, decide_eq_true rfl]
  simp
/-! ===== the lemmas of a world, for a row ===== -/
theorem isW_lt {w : Nat} (hw : isW w) : w + 12 < 200 ∧ 43 ≤ w ∧ w + 12 ≤ 81 := by rcases hw with rfl | rfl | rfl <;> omega
theorem RWr.inCW {f : FF} {w : Nat} {a : Nat → Int32} (hw : isW w) (H : RWr f w a) {s i : Nat} (hi : i < 20) : inC a s i ↔ (f (w + 9) i ≠ 0 ∧ (f (w + 6) i = nI s ∨ f (w + 7) i = nI s)) := by
  have hw2 := isW_lt hw
  have := (H.RW' hw).inCW (s := s) hi
  simp only [show ¬ w + 9 = 200 by omega, show ¬ w + 6 = 200 by omega, show ¬ w + 7 = 200 by omega, if_false, if_true] at this
  exact this
theorem RWr.talk {f : FF} {w : Nat} {a : Nat → Int32} (hw : isW w) (H : RWr f w a) {s : Nat} (hs : s < 16) : bt (f w 4) s = true ↔ ∃ i, i < 20 ∧ inC a s i := by
  have hw2 := isW_lt hw
  have := (H.RW' hw).talk (s := s) hs
  simp only [show ¬ w = 200 by omega, if_false, if_true] at this
  exact this
theorem RWr.co {f : FF} {w : Nat} {a : Nat → Int32} (hw : isW w) (H : RWr f w a) {s i : Nat} (hs : s < 16) (hi : i < 20) (z : inC a s i) : f (w + 5) s = nI i := by
  have hw2 := isW_lt hw
  have := (H.RW' hw).co hs hi (by simp only [if_true]; exact z)
  simp only [show ¬ w + 5 = 200 by omega, if_false] at this
  exact this
theorem RWr.uniq {f : FF} {w : Nat} {a : Nat → Int32} (hw : isW w) (H : RWr f w a) {s i j : Nat} (hs : s < 16) (hi : i < 20) (hj : j < 20) (z : inC a s i) (y : inC a s j) : i = j := by
  have := (H.co hw hs hi z).symm.trans (H.co hw hs hj y)
  exact (nI_eq (by omega) (by omega)).mp this
theorem RWr.free {f : FF} {w : Nat} {a : Nat → Int32} (hw : isW w) (H : RWr f w a) {s : Nat} (hs : s < 16) : bt (wFree f w) s = true ↔ frM a s := by
  have hw2 := isW_lt hw
  have := (H.RW' hw).free (s := s) hs
  unfold wFree at this ⊢
  simp only [show ¬ w = 200 by omega, if_false, if_true] at this
  exact this
theorem RWr.rOk {f : FF} {w : Nat} {a : Nat → Int32} (hw : isW w) (H : RWr f w a) : rOk a := by
  have := (H.RW' hw).rOk
  simp only [if_true] at this
  exact this
theorem RWr.toldIn {f : FF} {w : Nat} {a : Nat → Int32} (hw : isW w) (H : RWr f w a) {s i : Nat} (hs : s < 16) (hi : i < 20) (z : inC a s i) : a s = 1 := by
  obtain ⟨z1, z2⟩ := (H.inCW hw hi).mp z
  have c := (H.2.2.1 i hi).2.2 z1
  have c6 : a (f (w + 6) i).toNatClampNeg = 1 := c.2.2.2.2.2.1
  have c7 : a (f (w + 7) i).toNatClampNeg = 1 := c.2.2.2.2.2.2.1
  rcases z2 with z2 | z2
  · rw [z2, nI_clamp (by omega)] at c6; exact c6
  · rw [z2, nI_clamp (by omega)] at c7; exact c7
/-! ===== a call's end, in the class ===== -/
theorem sp_endCallAt {G : GC} {d : Nat} {sw : Bool} {f f1 : FF} {Q : QQ} {w i : Nat} {a : Nat → Int32} (hw : isW w) (H : RWr f w a) (hi : i < 20) (hl : f (w + 9) i ≠ 0) (o1 : ∀ c, c ≠ w + 9 → f1 c = f c) (o2 : ∀ j, j ≠ i → f1 (w + 9) j = f (w + 9) j) (hQ : ∀ g : FF, (∀ c, (c < w ∨ w + 12 < c) → g c = f c) → RWr g w (upd a (188 + i) 0) → Q none sw g) : XP G mX9_endCallAt (d + 1) 0 [.ref w, .int (nI i)] [] sw f1 Q := by
  have vi : vp_in (nI i) 20 := vp_in_nI hi (by omega)
  have c := (H.2.2.1 i hi).2.2 hl
  have c2 : isN (f (w + 6) i) 15 := c.2.1
  have c4 : isN (f (w + 7) i) 15 := c.2.2.2.1
  have c12 : isN (f (w + 10) i) 7 := c.2.2.2.2.2.2.2.2.2.2.2.1
  have c13 : ∀ k : Nat, (k : Int) ≤ (f (w + 10) i).toInt → f (w + 11) (8 * i + k) = a (228 + 8 * i + k) ∧ isN (f (w + 11) (8 * i + k)) 7 := c.2.2.2.2.2.2.2.2.2.2.2.2.1
  have c14 : ∀ k : Nat, (k : Int) < (f (w + 10) i).toInt → f (w + 11) (8 * i + k) ≠ f (w + 11) (8 * i + k + 1) := c.2.2.2.2.2.2.2.2.2.2.2.2.2.1
  obtain ⟨p, hp, ep⟩ := isN_nI c2 (by omega)
  obtain ⟨r, hr, er⟩ := isN_nI c4 (by omega)
  obtain ⟨T, hT, eT⟩ := isN_nI c12 (by omega)
  have tT : (f (w + 10) i).toInt = T := by rw [eT, nI_toInt (by omega)]
  refine bX9_endCallAt_0 hw vi vi vi ?_
  rw [nI_clamp (by omega), upd2_ne _ _ _ (show w ≠ w + 9 by omega), upd2_ne _ _ _ (show w + 6 ≠ w + 9 by omega), upd2_ne _ _ _ (show w + 7 ≠ w + 9 by omega), o1 w (by omega), o1 (w + 6) (by omega), o1 (w + 7) (by omega), ep, er]
  have n10 : ∀ (y : Int32) (m : Nat), m ≠ 0 → m ≠ 9 → m ≤ 12 → upd2 (upd2 f1 (w + 9) i 0) w 4 y (w + m) = f (w + m) := fun y m m0 m9 hm => by rw [upd2_ne _ _ _ (by omega), upd2_ne _ _ _ (by omega)]; exact o1 _ (by omega)
  refine sp_addUsed (T := T) hw hi (by rw [n10 _ 10 (by omega) (by omega) (by omega)]; exact eT) (by omega) (fun k hk => by rw [n10 _ 11 (by omega) (by omega) (by omega)]; exact (c13 k (by omega)).2) (fun k hk => by rw [n10 _ 11 (by omega) (by omega) (by omega)]; exact c14 k (by omega)) (fun g go gu => bX9_endCallAt_41 hw (hQ g (fun c hc => ?_) ?_))
  · rw [go c (by omega), upd2_ne _ _ _ (by omega), upd2_ne _ _ _ (by omega)]; exact o1 c (by omega)
  · have gw : g w = upd (f w) 4 ((f w 4) &&& ((((1 : Int32) <<< (nI p &&& 31)) ||| ((1 : Int32) <<< (nI r &&& 31))) ^^^ (-1))) := by rw [go w (by omega), upd2_self, upd2_ne _ _ _ (by omega), o1 w (by omega)]
    have g9 : g (w + 9) = upd (f1 (w + 9)) i 0 := by rw [go _ (by omega), upd2_ne _ _ _ (by omega), upd2_self]
    refine H.endC hw hi hl (fun m m1 m11 m9 => by rw [go _ (by omega)]; exact n10 _ m (by omega) m9 (by omega)) (fun m hm m4 => by rw [gw, pk_un m4]) (fun j hj => by rw [g9, pk_un hj]; exact o2 j hj) (by rw [g9, pk_us]) (fun s => ?_) (fun e q he hq => ?_)
    · rw [gw, pk_us, ep, er]
      by_cases hs : s < 32
      · rw [bt_and, bt_not _ hs, bt_or, bt_one (by omega) hs, bt_one (by omega) hs, Bool.and_eq_true, Bool.not_eq_true', Bool.or_eq_false_iff, decide_eq_false_iff_not, decide_eq_false_iff_not, Ne, Ne, nI_eq (by omega) (by omega), nI_eq (by omega) (by omega)]
        constructor
        · rintro ⟨z1, z2, z3⟩; exact ⟨z1, fun z => z2 z.symm, fun z => z3 z.symm⟩
        · rintro ⟨z1, z2, z3⟩; exact ⟨z1, fun z => z2 z.symm, fun z => z3 z.symm⟩
      · rw [bt_hi _ (by omega), bt_hi _ (by omega)]
        constructor
        · intro z; exact absurd z (by decide)
        · intro z; exact absurd z.1 (by decide)
    · rw [gu e q he hq, n10 _ 12 (by omega) (by omega) (by omega), n10 _ 11 (by omega) (by omega) (by omega), eT, nI_clamp (by omega)]
theorem sp_endCallOf {G : GC} {d : Nat} {sw : Bool} {f : FF} {Q : QQ} {w s : Nat} {a : Nat → Int32} (hw : isW w) (H : RWr f w a) (hs : s < 16) (hQ : ∀ g : FF, (∀ c, (c < w ∨ w + 12 < c) → g c = f c) → RWr g w (endsR a s) → Q none sw g) : XP G mX9_endCallOf (d + 2) 0 [.ref w, .int (nI s)] [] sw f Q := by
  by_cases tk : ∃ i, i < 20 ∧ inC a s i
  · have b4 : (((f w 4) >>> (nI s &&& 31)) &&& 1) = 1 := (bitI_bt (by omega)).mpr ((H.talk hw hs).mpr tk)
    obtain ⟨i, hi, hin⟩ := tk
    have hco := H.co hw hs hi hin
    have hl := ((H.inCW hw hi).mp hin).1
    refine bX9_endCallOf_0 hw (fun h => absurd b4 h) (fun _ => vp_in_nI hs (by omega)) (fun _ => ?_)
    rw [nI_clamp (by omega), hco]
    refine sp_endCallAt hw H hi hl (fun _ _ => rfl) (fun _ _ => rfl) (fun g go hg => bX9_endCallOf_22 hw (hQ g go ?_))
    rw [endsR_y hi hin (fun j hj hjn => by have := H.uniq hw hs hi (show j < 20 by omega) hin hjn; omega)]
    exact hg
  · have b4 : ¬ (((f w 4) >>> (nI s &&& 31)) &&& 1) = 1 := fun h => tk ((H.talk hw hs).mp ((bitI_bt (by omega)).mp h))
    refine bX9_endCallOf_0 hw (fun _ => hQ f (fun _ _ => rfl) ?_) (fun h => absurd h b4) (fun h => absurd h b4)
    rw [endsR_n (fun i hi hin => tk ⟨i, hi, hin⟩)]
    exact H
/-! ===== subscriber ===== -/
def subR (a : Nat → Int32) (s : Nat) (e lv : Int32) : Nat → Int32 := upd (upd (upd (upd (upd (upd (upd (upd a s 1) (16 + s) e) (32 + s) lv) (48 + s) 1) (64 + s) 0) (80 + s) 0) (96 + s) 0) (112 + s) 0
theorem subR_at (a : Nat → Int32) {s : Nat} (e lv : Int32) (hs : s < 16) : subR a s e lv s = 1 ∧ subR a s e lv (16 + s) = e ∧ subR a s e lv (32 + s) = lv ∧ subR a s e lv (48 + s) = 1 ∧ subR a s e lv (64 + s) = 0 ∧ subR a s e lv (80 + s) = 0 ∧ subR a s e lv (96 + s) = 0 ∧ subR a s e lv (112 + s) = 0 := by
  unfold subR upd
  refine ⟨?_, ?_, ?_, ?_, ?_, ?_, ?_, ?_⟩ <;> simp
theorem subR_off (a : Nat → Int32) {s k : Nat} (e lv : Int32) (hs : s < 16) (hk : 128 ≤ k ∨ k % 16 ≠ s) : subR a s e lv k = a k := by
  unfold subR
  rw [pk_un (by omega), pk_un (by omega), pk_un (by omega), pk_un (by omega), pk_un (by omega), pk_un (by omega), pk_un (by omega), pk_un (by omega)]
theorem sp_enter {G : GC} {d : Nat} {sw : Bool} {f : FF} {Q : QQ} {w s : Nat} {e lv : Int32} {a : Nat → Int32} (hw : isW w) (H : RWr f w a) (hs : s < 16) (he : isN e 7) (hlv : lv = 0 ∨ lv = 1) (hQ : ∀ g : FF, (∀ c, (c < w ∨ w + 12 < c) → g c = f c) → RWr g w (subR (endsR a s) s e lv) → Q none sw g) : XP G mX9_enter (d + 3) 0 [.ref w, .int (nI s), .int e, .int lv, .null] [] sw f Q := by
  refine bX9_enter_0 hw (sp_endCallOf hw H hs (fun g go H1 => ?_))
  have vs : vp_in (nI s) 16 := vp_in_nI hs (by omega)
  have cs : (nI s).toNatClampNeg = s := nI_clamp (by omega)
  obtain ⟨r0, r1, r2, r3, r4, r5, r6, r7⟩ := subR_at (endsR a s) e lv hs
  have fin : ∀ (g2 : FF) (d1 : Int32), (∀ c, (c < w ∨ w + 4 < c) → g2 c = g c) → (∀ m, 4 ≤ m → g2 w m = g w m) → g2 w 0 = (g w 0) ||| ((1 : Int32) <<< (nI s &&& 31)) → g2 w 1 = d1 → (∀ x, x ≠ s → bt d1 x = bt (g w 1) x) → (bt d1 s = true ↔ lv = 0) → g2 w 2 = (g w 2) &&& (((1 : Int32) <<< (nI s &&& 31)) ^^^ (-1)) → g2 w 3 = (g w 3) &&& (((1 : Int32) <<< (nI s &&& 31)) ^^^ (-1)) → g2 (w + 1) = upd (g (w + 1)) s e → g2 (w + 2) = upd (g (w + 2)) s 0 → g2 (w + 3) = upd (g (w + 3)) s 0 → g2 (w + 4) = upd (g (w + 4)) s 0 → Q none sw g2 := by
    intro g2 d1 k0 k1 e0 e1 e1a e1b e2 e3 x1 x2 x3 x4
    refine hQ g2 (fun c hc => by rw [k0 c (by omega)]; exact go c hc) (H1.setS hs (fun m m5 m12 => k0 _ (by omega)) (fun m hm x hx => ?_) (fun m m4 m8 => k1 m m4) (fun m m1 m4 x hx => ?_) (fun k hk => subR_off _ e lv hs hk) (fun _ => r0) ?_)
    · rcases (by omega : m = 0 ∨ m = 1 ∨ m = 2 ∨ m = 3) with rfl | rfl | rfl | rfl
      · rw [e0]; exact bt_set_ne (by omega) hx
      · rw [e1]; exact e1a x hx
      · rw [e2]; exact bt_clr_ne (by omega) hx
      · rw [e3]; exact bt_clr_ne (by omega) hx
    · rcases (by omega : m = 1 ∨ m = 2 ∨ m = 3 ∨ m = 4) with rfl | rfl | rfl | rfl
      · rw [x1, pk_un hx]
      · rw [x2, pk_un hx]
      · rw [x3, pk_un hx]
      · rw [x4, pk_un hx]
    · unfold RWs
      rw [r0, r1, r2, r3, r4, r5, r6, r7, e0, e1, e2, e3, x1, x2, x3, x4, pk_us, pk_us, pk_us, pk_us, bt_set_eq (by omega), bt_clr_eq (by omega), bt_clr_eq (by omega)]
      refine ⟨Or.inr rfl, ⟨fun _ => rfl, fun _ => rfl⟩, ⟨fun z => ⟨rfl, e1b.mp z⟩, fun z => e1b.mpr z.2⟩, ⟨fun z => absurd z (by decide), fun z => absurd z.2 (by decide)⟩, ⟨fun z => absurd z (by decide), fun z => absurd z.2 (by decide)⟩, fun _ => ⟨hlv, Or.inr rfl, Or.inl rfl, rfl, he, rfl, isN_0 _, rfl, isN_0 _, rfl, isN_0 _⟩⟩
  refine bX9_enter_5 hw (fun _ => vs) (fun _ => vs) (fun _ => vs) (fun _ => vs) (fun z => ?_) (fun _ => vs) (fun _ => vs) (fun _ => vs) (fun _ => vs) (fun z => ?_)
  · rw [cs]
    refine fin _ ((g w 1) ||| ((1 : Int32) <<< (nI s &&& 31))) (fun c hc => ?_) (fun m hm => ?_) ?_ ?_ (fun x hx => bt_set_ne (by omega) hx) ⟨fun _ => z, fun _ => bt_set_eq (by omega)⟩ ?_ ?_ ?_ ?_ ?_ ?_
    · rw [upd2_ne _ _ _ (by omega), upd2_ne _ _ _ (by omega), upd2_ne _ _ _ (by omega), upd2_ne _ _ _ (by omega), upd2_ne _ _ _ (by omega), upd2_ne _ _ _ (by omega), upd2_ne _ _ _ (by omega), upd2_ne _ _ _ (by omega)]
    · rw [upd2_ne _ _ _ (by omega), upd2_ne _ _ _ (by omega), upd2_ne _ _ _ (by omega), upd2_ne _ _ _ (by omega), upd2_self, pk_un (by omega), upd2_self, pk_un (by omega), upd2_self, pk_un (by omega), upd2_self, pk_un (by omega)]
    all_goals simp [upd2, upd]
    all_goals (funext j; simp [upd])
  · rw [cs]
    refine fin _ ((g w 1) &&& (((1 : Int32) <<< (nI s &&& 31)) ^^^ (-1))) (fun c hc => ?_) (fun m hm => ?_) ?_ ?_ (fun x hx => bt_clr_ne (by omega) hx) ⟨fun h => absurd h (by rw [bt_clr_eq (by omega)]; decide), fun h => absurd h z⟩ ?_ ?_ ?_ ?_ ?_ ?_
    · rw [upd2_ne _ _ _ (by omega), upd2_ne _ _ _ (by omega), upd2_ne _ _ _ (by omega), upd2_ne _ _ _ (by omega), upd2_ne _ _ _ (by omega), upd2_ne _ _ _ (by omega), upd2_ne _ _ _ (by omega), upd2_ne _ _ _ (by omega)]
    · rw [upd2_ne _ _ _ (by omega), upd2_ne _ _ _ (by omega), upd2_ne _ _ _ (by omega), upd2_ne _ _ _ (by omega), upd2_self, pk_un (by omega), upd2_self, pk_un (by omega), upd2_self, pk_un (by omega), upd2_self, pk_un (by omega)]
    all_goals simp [upd2, upd]
    all_goals (funext j; simp [upd])
theorem sp_subscriberM {G : GC} {d : Nat} {sw : Bool} {f : FF} {Q : QQ} {s : Nat} {e lv : Int32} (hs : s < 16) (he : 0 ≤ e ∧ e ≤ 7) (hlv : lv = 0 ∨ lv = 1) (hr : rOk (f 83)) (hnt : f 83 s ≠ 1 → ∀ i, i < 20 → ¬ inC (f 83) s i) (hQ : ∀ g : FF, (∀ c, c ≠ 83 → g c = f c) → g 83 = subR (endsR (f 83) s) s e lv → Q (some (.int 1)) sw g) : XP G mX11_subscriber (d + 2) 0 [.ref 82, .int (nI s), .int e, .int lv] [] sw f Q := by
  have c1 : 0 ≤ nI s ∧ nI s ≤ 15 := ⟨nI_pos' (by omega), nI_le (b := 15) (by omega) (by omega)⟩
  have cs : (nI s).toNatClampNeg = s := nI_clamp (by omega)
  have e16 : ((16 : Int32) + nI s) = nI (16 + s) := by rw [n_16, nI_add]
  have e32 : ((32 : Int32) + nI s) = nI (32 + s) := by rw [n_32, nI_add]
  have e48 : ((48 : Int32) + nI s) = nI (48 + s) := by rw [n_48, nI_add]
  have e64 : ((64 : Int32) + nI s) = nI (64 + s) := by rw [n_64, nI_add]
  have e80 : ((80 : Int32) + nI s) = nI (80 + s) := by rw [n_80, nI_add]
  have e96 : ((96 : Int32) + nI s) = nI (96 + s) := by rw [n_96, nI_add]
  have e112 : ((112 : Int32) + nI s) = nI (112 + s) := by rw [n_112, nI_add]
  have v0 : vp_in (nI s) 391 := vp_in_nI (by omega) (by omega)
  have v16 : vp_in (16 + nI s) 391 := by rw [e16]; exact vp_in_nI (by omega) (by omega)
  have v32 : vp_in (32 + nI s) 391 := by rw [e32]; exact vp_in_nI (by omega) (by omega)
  have v48 : vp_in (48 + nI s) 391 := by rw [e48]; exact vp_in_nI (by omega) (by omega)
  have v64 : vp_in (64 + nI s) 391 := by rw [e64]; exact vp_in_nI (by omega) (by omega)
  have v80 : vp_in (80 + nI s) 391 := by rw [e80]; exact vp_in_nI (by omega) (by omega)
  have v96 : vp_in (96 + nI s) 391 := by rw [e96]; exact vp_in_nI (by omega) (by omega)
  have v112 : vp_in (112 + nI s) 391 := by rw [e112]; exact vp_in_nI (by omega) (by omega)
  have fin : ∀ (g : FF) (x : Int32), (∀ c, c ≠ 83 → g c = f c) → g 83 = endsR (f 83) s → x = lv → Q (some (.int 1)) sw (upd2 (upd2 (upd2 (upd2 (upd2 (upd2 (upd2 (upd2 g 83 (nI s).toNatClampNeg 1) 83 ((16 + nI s).toNatClampNeg) e) 83 ((32 + nI s).toNatClampNeg) x) 83 ((48 + nI s).toNatClampNeg) 1) 83 ((64 + nI s).toNatClampNeg) 0) 83 ((80 + nI s).toNatClampNeg) 0) 83 ((96 + nI s).toNatClampNeg) 0) 83 ((112 + nI s).toNatClampNeg) 0) := by
    intro g x go gr hx
    rw [cs, e16, e32, e48, e64, e80, e96, e112, nI_clamp (by omega), nI_clamp (by omega), nI_clamp (by omega), nI_clamp (by omega), nI_clamp (by omega), nI_clamp (by omega), nI_clamp (by omega), hx]
    refine hQ _ (fun c hc => ?_) ?_
    · rw [upd2_ne _ _ _ hc, upd2_ne _ _ _ hc, upd2_ne _ _ _ hc, upd2_ne _ _ _ hc, upd2_ne _ _ _ hc, upd2_ne _ _ _ hc, upd2_ne _ _ _ hc, upd2_ne _ _ _ hc]; exact go c hc
    · rw [upd2_self, upd2_self, upd2_self, upd2_self, upd2_self, upd2_self, upd2_self, upd2_self, gr]
      rfl
  have l1 : ¬ lv = 0 → lv = 1 := fun h => hlv.resolve_left h
  by_cases t : toldM f (nI s)
  · refine bX11_subscriber_0 (fun h => absurd c1 h) (fun _ _ h => absurd t h) (fun _ _ h => absurd t h) (fun _ _ h => absurd t h) (fun _ _ h => absurd t h) (fun _ _ h => absurd t h) (fun _ _ h => absurd t h) (fun _ _ h => absurd t h) (fun _ _ h => absurd t h) (fun _ _ h => absurd t h) (fun _ _ h => absurd t h) (fun _ _ h => absurd t h) (fun _ _ h => absurd t h) (fun _ _ h => absurd t h) (fun _ _ h => absurd t h) (fun _ _ h => absurd t h) (fun _ _ h => absurd t h) (fun _ _ _ => ?_) (fun _ h => absurd he h)
    refine sp_endsCallOf hr (fun g go gr => ?_)
    exact bX11_subscriber_35 v0 v16 (fun _ => v32) (fun _ => v48) (fun _ => v64) (fun _ => v80) (fun _ => v96) (fun _ => v112) (fun z => fin g 0 go gr z.symm) (fun _ => v32) (fun _ => v48) (fun _ => v64) (fun _ => v80) (fun _ => v96) (fun _ => v112) (fun z => fin g 1 go gr (l1 z).symm)
  · have gr : f 83 = endsR (f 83) s := (endsR_n (hnt (fun z => t ((toldM_iff (by omega)).mpr z)))).symm
    exact bX11_subscriber_0 (fun h => absurd c1 h) (fun _ _ _ => v0) (fun _ _ _ => v16) (fun _ _ _ _ => v32) (fun _ _ _ _ => v48) (fun _ _ _ _ => v64) (fun _ _ _ _ => v80) (fun _ _ _ _ => v96) (fun _ _ _ _ => v112) (fun _ _ _ z => fin f 0 (fun _ _ => rfl) gr z.symm) (fun _ _ _ _ => v32) (fun _ _ _ _ => v48) (fun _ _ _ _ => v64) (fun _ _ _ _ => v80) (fun _ _ _ _ => v96) (fun _ _ _ _ => v112) (fun _ _ _ z => fin f 1 (fun _ _ => rfl) gr (l1 z).symm) (fun _ _ h => absurd h t) (fun _ h => absurd he h)
theorem op_subscriber (G : GC) : OP1 G RR := by
  intro a1 a2 a3 h01 sw f hR
  obtain ⟨h1, h2, h3, h4, h5, h6, h7⟩ := id hR
  by_cases c1 : 0 ≤ a1 ∧ a1 ≤ 15
  · by_cases c2 : 0 ≤ a2 ∧ a2 ≤ 7
    · obtain ⟨s, hs, rfl⟩ := rng (K := 15) (by decide) c1
      have hN2 : isN a2 7 := isN_of c2 (by decide)
      refine bX10_subscriber_0 (d := 995) (fun h => absurd c1 h) (fun _ _ => sp_enter isW_43 (RWr.of h6) (by omega) hN2 h01 (fun g go HW => bX10_subscriber_29 (d := 995) ⟨_, rfl, ?_⟩)) (fun _ h => absurd c2 h)
      have g83 : g 83 = f 83 := go 83 (by omega)
      refine sp_subscriberM (d := 997) (by omega) c2 h01 (by rw [g83]; exact h6.rOk) (fun z i hi hin => z (by rw [g83] at hin ⊢; exact (RWr.of h6).toldIn isW_43 (by omega) hi hin)) (fun g2 go2 gr => ⟨rfl, ?_⟩)
      have o : ∀ c, (c < 43 ∨ 55 < c) → c ≠ 83 → g2 c = f c := fun c hc hc2 => by rw [go2 c hc2]; exact go c (by omega)
      refine ⟨h1.cg (by rw [o 1 (by omega) (by omega)]) (o 2 (by omega) (by omega)) (by rw [o 82 (by omega) (by omega)]) (o 90 (by omega) (by omega)), h2.cg (o 4 (by omega) (by omega)) (o 6 (by omega) (by omega)) (o 86 (by omega) (by omega)), h3.cg (by rw [o 82 (by omega) (by omega)]) (by rw [o 82 (by omega) (by omega)]) (by rw [o 32 (by omega) (by omega)]) (by rw [o 32 (by omega) (by omega)]), h4.cg (o 12 (by omega) (by omega)) (fun e _ => by rw [o 13 (by omega) (by omega)]) (o 112 (by omega) (by omega)) (o 113 (by omega) (by omega)), h5.cg (fun k hk => o _ (by have := lwB_in sw hk; omega) (by have := lwB_in sw hk; omega)) (by rw [o 82 (by omega) (by omega)]) (fun k k1 k2 => o k (by omega) (by omega)), ?_, h7.cg (by rw [o 82 (by omega) (by omega)]) (by rw [o 0 (by omega) (by omega)]) (fun k hk => o _ (by omega) (by omega)) (o 85 (by omega) (by omega))⟩
      refine RWr.to (HW.cg (fun k hk => go2 _ (by omega))) ?_
      rw [gr, g83]
    · exact bX10_subscriber_0 (d := 995) (fun h => absurd c1 h) (fun _ h => absurd h c2) (fun _ _ => ⟨_, rfl, bX11_subscriber_0 (d := 997) (fun h => absurd c1 h) (fun _ h => absurd h c2) (fun _ h => absurd h c2) (fun _ h => absurd h c2) (fun _ h => absurd h c2) (fun _ h => absurd h c2) (fun _ h => absurd h c2) (fun _ h => absurd h c2) (fun _ h => absurd h c2) (fun _ h => absurd h c2) (fun _ h => absurd h c2) (fun _ h => absurd h c2) (fun _ h => absurd h c2) (fun _ h => absurd h c2) (fun _ h => absurd h c2) (fun _ h => absurd h c2) (fun _ h => absurd h c2) (fun _ h => absurd h c2) (fun _ _ => ⟨rfl, hR⟩)⟩)
  · exact bX10_subscriber_0 (d := 995) (fun _ => ⟨_, rfl, bX11_subscriber_0 (d := 997) (fun _ => ⟨rfl, hR⟩) (fun h => absurd h c1) (fun h => absurd h c1) (fun h => absurd h c1) (fun h => absurd h c1) (fun h => absurd h c1) (fun h => absurd h c1) (fun h => absurd h c1) (fun h => absurd h c1) (fun h => absurd h c1) (fun h => absurd h c1) (fun h => absurd h c1) (fun h => absurd h c1) (fun h => absurd h c1) (fun h => absurd h c1) (fun h => absurd h c1) (fun h => absurd h c1) (fun h => absurd h c1) (fun h => absurd h c1)⟩) (fun h => absurd h c1) (fun h => absurd h c1)
