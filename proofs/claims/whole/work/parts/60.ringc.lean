/-! ===== a minute in the class ===== -/
def COff (f g : FF) (w : Nat) : Prop := (∀ c, (c < 5 ∨ c = 6 ∨ 10 < c) → (c < 32 ∨ 35 < c) → (c < w ∨ w + 12 < c) → g c = f c) ∧ g 32 3 = f 32 3 ∧ g 32 4 = f 32 4
theorem COff.rf (f : FF) (w : Nat) : COff f f w := ⟨fun _ _ _ _ => rfl, rfl, rfl⟩
theorem COff.tr {f g h : FF} {w : Nat} (a : COff f g w) (b : COff g h w) : COff f h w := ⟨fun c c1 c2 c3 => (b.1 c c1 c2 c3).trans (a.1 c c1 c2 c3), b.2.1.trans a.2.1, b.2.2.trans a.2.2⟩
def CRel (g : FF) (w : Nat) (S : SM) : Prop := RWr g w S.1 ∧ g 32 5 = S.2.1 ∧ g 32 6 = S.2.2.1 ∧ g 32 7 = S.2.2.2
def CEnv (sw : Bool) (lw f : FF) : Prop := (∀ m, m < 7 → f (lwB sw + m) = lw m) ∧ LOK lw ∧ RN f ∧ isN (f 32 3) 99 ∧ isN (f 32 4) 99
theorem CEnv.off {sw : Bool} {lw f g : FF} {w : Nat} (h : CEnv sw lw f) (hw : isW w) (o : COff f g w) : CEnv sw lw g := by
  have hw2 := isW_lt hw
  obtain ⟨h1, h2, h3, h4, h5⟩ := h
  refine ⟨fun m hm => ?_, h2, h3.cg (o.1 4 (by omega) (by omega) (by omega)) (o.1 6 (by omega) (by omega) (by omega)) (o.1 86 (by omega) (by omega) (by omega)), by rw [o.2.1]; exact h4, by rw [o.2.2]; exact h5⟩
  have := lwB_in sw hm
  rw [o.1 _ (by omega) (by omega) (by omega)]
  exact h1 m hm
theorem sp_begin {G : GC} {d : Nat} {sw : Bool} {f : FF} {Q : QQ} {w i s k : Nat} {m : Int32} (hw : isW w) (hi : i < 20) (hs : s < 16) (hk : k < 16) (hQ : ∀ g : FF, (∀ c, (c < w ∨ w + 12 < c) → g c = f c) → (∀ x, x ≠ 4 → g w x = f w x) → g w 4 = (f w 4) ||| (((1 : Int32) <<< (nI s &&& 31)) ||| ((1 : Int32) <<< (nI k &&& 31))) → (∀ x, (x = 1 ∨ x = 2 ∨ x = 8 ∨ 10 ≤ x) → x ≤ 12 → g (w + x) = f (w + x)) → g (w + 3) = upd (f (w + 3)) s (mnI 9999 (f (w + 3) s + 1)) → g (w + 4) = upd (f (w + 4)) k (mnI 9999 (f (w + 4) k + 1)) → g (w + 5) = upd (upd (f (w + 5)) s (nI i)) k (nI i) → g (w + 6) = upd (f (w + 6)) i (nI s) → g (w + 7) = upd (f (w + 7)) i (nI k) → g (w + 9) = upd (f (w + 9)) i m → Q none sw g) : XP G mX9_begin d 0 [.ref w, .int (nI i), .int (nI s), .int (nI k), .int m] [] sw f Q := by
  have vi : vp_in (nI i) 20 := vp_in_nI hi (by omega)
  have vs : vp_in (nI s) 16 := vp_in_nI hs (by omega)
  have vk : vp_in (nI k) 16 := vp_in_nI hk (by omega)
  have ci : (nI i).toNatClampNeg = i := nI_clamp (by omega)
  have cs : (nI s).toNatClampNeg = s := nI_clamp (by omega)
  have ck : (nI k).toNatClampNeg = k := nI_clamp (by omega)
  refine bX9_begin_0 hw vi vi vi vs vk vs vs vk vk ?_
  have a1 : w ≠ w + 6 := by omega
  have a2 : w ≠ w + 7 := by omega
  have a3 : w ≠ w + 9 := by omega
  have a4 : w ≠ w + 5 := by omega
  have b1 : w + 3 ≠ w + 6 := by omega
  have b2 : w + 3 ≠ w + 7 := by omega
  have b3 : w + 3 ≠ w + 9 := by omega
  have b4 : w + 3 ≠ w + 5 := by omega
  have b5 : w + 3 ≠ w := by omega
  have d1 : w + 4 ≠ w + 6 := by omega
  have d2 : w + 4 ≠ w + 7 := by omega
  have d3 : w + 4 ≠ w + 9 := by omega
  have d4 : w + 4 ≠ w + 5 := by omega
  have d5 : w + 4 ≠ w := by omega
  have d6 : w + 4 ≠ w + 3 := by omega
  simp only [upd2_ne _ _ _ a1, upd2_ne _ _ _ a2, upd2_ne _ _ _ a3, upd2_ne _ _ _ a4, upd2_ne _ _ _ b1, upd2_ne _ _ _ b2, upd2_ne _ _ _ b3, upd2_ne _ _ _ b4, upd2_ne _ _ _ b5, upd2_ne _ _ _ d1, upd2_ne _ _ _ d2, upd2_ne _ _ _ d3, upd2_ne _ _ _ d4, upd2_ne _ _ _ d5, upd2_ne _ _ _ d6, ci, cs, ck]
  refine hQ _ (fun c hc => ?_) (fun x hx => ?_) ?_ (fun x hx hx2 => ?_) ?_ ?_ ?_ ?_ ?_ ?_
  · rw [upd2_ne _ _ _ (by omega), upd2_ne _ _ _ (by omega), upd2_ne _ _ _ (by omega), upd2_ne _ _ _ (by omega), upd2_ne _ _ _ (by omega), upd2_ne _ _ _ (by omega), upd2_ne _ _ _ (by omega), upd2_ne _ _ _ (by omega)]
  · rw [upd2_ne _ _ _ (by omega), upd2_ne _ _ _ (by omega), upd2_self, pk_un hx, upd2_ne _ _ _ (by omega), upd2_ne _ _ _ (by omega), upd2_ne _ _ _ (by omega), upd2_ne _ _ _ (by omega), upd2_ne _ _ _ (by omega)]
  · rw [upd2_ne _ _ _ (by omega), upd2_ne _ _ _ (by omega), upd2_self, pk_us]
  · rw [upd2_ne _ _ _ (by omega), upd2_ne _ _ _ (by omega), upd2_ne _ _ _ (by omega), upd2_ne _ _ _ (by omega), upd2_ne _ _ _ (by omega), upd2_ne _ _ _ (by omega), upd2_ne _ _ _ (by omega), upd2_ne _ _ _ (by omega)]
  · rw [upd2_ne _ _ _ (by omega), upd2_self, upd2_ne _ _ _ (by omega), upd2_ne _ _ _ (by omega), upd2_ne _ _ _ (by omega), upd2_ne _ _ _ (by omega), upd2_ne _ _ _ (by omega), upd2_ne _ _ _ (by omega)]
    rfl
  · rw [upd2_self, upd2_ne _ _ _ (by omega), upd2_ne _ _ _ (by omega), upd2_ne _ _ _ (by omega), upd2_ne _ _ _ (by omega), upd2_ne _ _ _ (by omega), upd2_ne _ _ _ (by omega), upd2_ne _ _ _ (by omega)]
    rfl
  · rw [upd2_ne _ _ _ (by omega), upd2_ne _ _ _ (by omega), upd2_ne _ _ _ (by omega), upd2_self, upd2_self, upd2_ne _ _ _ (by omega), upd2_ne _ _ _ (by omega), upd2_ne _ _ _ (by omega)]
  · rw [upd2_ne _ _ _ (by omega), upd2_ne _ _ _ (by omega), upd2_ne _ _ _ (by omega), upd2_ne _ _ _ (by omega), upd2_ne _ _ _ (by omega), upd2_ne _ _ _ (by omega), upd2_ne _ _ _ (by omega), upd2_self]
  · rw [upd2_ne _ _ _ (by omega), upd2_ne _ _ _ (by omega), upd2_ne _ _ _ (by omega), upd2_ne _ _ _ (by omega), upd2_ne _ _ _ (by omega), upd2_ne _ _ _ (by omega), upd2_self, upd2_ne _ _ _ (by omega)]
  · rw [upd2_ne _ _ _ (by omega), upd2_ne _ _ _ (by omega), upd2_ne _ _ _ (by omega), upd2_ne _ _ _ (by omega), upd2_ne _ _ _ (by omega), upd2_self, upd2_ne _ _ _ (by omega), upd2_ne _ _ _ (by omega)]
theorem sp_seize {G : GC} {d : Nat} {sw : Bool} {f : FF} {Q : QQ} {w i T : Nat} {p : Nat → Nat} (hw : isW w) (hi : i < 20) (hT : T ≤ 7) (h5 : ∀ k, k ≤ T → f 5 k = nI (p k)) (hp8 : ∀ k, k ≤ T → p k < 8) (hpn : ∀ k, k < T → p k ≠ p (k + 1)) (hQ : ∀ g : FF, (∀ c, c ≠ w + 10 → c ≠ w + 11 → c ≠ w + 12 → g c = f c) → g (w + 10) = upd (f (w + 10)) i (nI T) → (∀ j x, j < 20 → j ≠ i → x < 8 → g (w + 11) (8 * j + x) = f (w + 11) (8 * j + x)) → (∀ x, x ≤ T → g (w + 11) (8 * i + x) = nI (p x)) → (∀ e q, e < 8 → q < 8 → g (w + 12) (8 * e + q) = addN (f (w + 12) (8 * e + q)) 1 (cntP (edg (g (w + 11)) e q i) T)) → Q none sw g) : XP G mX9_seize (d + 1) 0 [.ref w, .int (nI i), .ref 5, .int (nI T)] [] sw f Q := by
  have hw2 := isW_lt hw
  have vi : vp_in (nI i) 20 := vp_in_nI hi (by omega)
  have ci : (nI i).toNatClampNeg = i := nI_clamp (by omega)
  have e8i : nI i * 8 = nI (8 * i) := by rw [n_8, pk_mul, Nat.mul_comm]
  have c8i : (nI i * 8).toNatClampNeg = 8 * i := by rw [e8i, nI_clamp (by omega)]
  refine bX9_seize_0 hw sh5 vi (by rw [e8i]; exact nI_pos (by omega)) (by rw [c8i]; omega) ?_
  rw [ci, c8i]
  have n11 : cpy2 (upd2 f (w + 10) i (nI T)) 5 (w + 11) 0 (8 * i) 8 (w + 11) = va_cpy (f 5) (f (w + 11)) 0 (8 * i) 8 := by
    unfold cpy2
    rw [if_pos rfl, upd2_ne _ _ _ (by omega), upd2_ne _ _ _ (by omega)]
  have nof : ∀ c, c ≠ w + 11 → cpy2 (upd2 f (w + 10) i (nI T)) 5 (w + 11) 0 (8 * i) 8 c = upd2 f (w + 10) i (nI T) c := fun c hc => cpy2_ne hc
  have in11 : ∀ x, x < 8 → va_cpy (f 5) (f (w + 11)) 0 (8 * i) 8 (8 * i + x) = f 5 x := fun x hx => by rw [pk_cpy_in (by omega) (by omega), show 0 + (8 * i + x - 8 * i) = x by omega]
  refine sp_addUsed (T := T) hw hi (by rw [nof _ (by omega), upd2_self, pk_us]) hT (fun k hk => ?_) (fun k hk => ?_) (fun g go gu => bX9_seize_28 hw sh5 (hQ g (fun c c1 c2 c3 => ?_) ?_ (fun j x hj hji hx => ?_) (fun x hx => ?_) (fun e q he hq => ?_)))
  · rw [n11, in11 k (by omega), h5 k hk]; exact nI_isN (by have := hp8 k hk; omega) (by omega)
  · rw [n11, in11 k (by omega), show 8 * i + k + 1 = 8 * i + (k + 1) by omega, in11 (k + 1) (by omega), h5 k (by omega), h5 (k + 1) (by omega)]
    have h8 := hp8 k (by omega)
    have h9 := hp8 (k + 1) (by omega)
    intro z
    exact hpn k hk ((nI_eq (by omega) (by omega)).mp z)
  · rw [go c c3, nof c c2, upd2_ne _ _ _ c1]
  · rw [go _ (by omega), nof _ (by omega), upd2_self]
  · rw [go _ (by omega), n11, pk_cpy_out (by omega)]
  · rw [go _ (by omega), n11, in11 x (by omega), h5 x hx]
  · rw [gu e q he hq, go (w + 11) (by omega), nof (w + 12) (by omega), upd2_ne _ _ _ (by omega)]
theorem bit_val (m : Int32) {s : Nat} (hs : s < 32) : (m >>> (nI s &&& 31)) &&& 1 = if bt m s = true then 1 else 0 := by
  by_cases c : bt m s = true
  · rw [if_pos c]; exact (bitI_bt hs).mpr c
  · rw [if_neg c]; exact (bit0_bt hs).mpr (by simpa using c)
theorem sp_ring49 {G : GC} {d : Nat} {sw : Bool} {f : FF} {Q : QQ} {w s k : Nat} {a : Nat → Int32} {cb cl cc : Int32} {lw : FF} {x3 : Int32} {v4 v5 v6 v7 v8 : Value} (hw : isW w) (hE : CEnv sw lw f) (HW : RWr f w a) (c5 : f 32 5 = cb) (c6 : f 32 6 = cl) (c7 : f 32 7 = cc) (hs : s < 16) (hk : k < 16) (fs : frM a s) (k1 : ∀ x, x ≤ 9 → f 34 x = fcts a s x) (hQ : ∀ g : FF, COff f g w → CRel g w (rgR lw (f 86) (a, cb, cl, cc) s k) → Q none sw g) : XP G mX7_mayRing (d + 4) 49 [.ref 32, .ref w, .int (nI s), .int x3, v4, v5, v6, v7, v8] [.int (nI k)] sw f Q := by
  have hw2 := isW_lt hw
  obtain ⟨hl, hL, hN, np, nc⟩ := id hE
  have h9 : ∀ i, i < 20 → f (w + 9) i = a (188 + i) := fun i hi => (HW.2.2.1 i hi).1
  have lost : (rtF (f 86) a s k = 0 ∨ frP a = 20) → ∀ g : FF, COff f g w → (∀ j, j < 13 → g (w + j) = f (w + j)) → g 32 = f 32 → Q none sw (upd2 g 32 6 (g 32 6 + 1)) := by
    intro z g og gw g32
    refine hQ _ (og.tr ⟨fun c d1 d2 d3 => upd2_ne _ _ _ (by omega), by rw [upd2_self, pk_un (by omega)], by rw [upd2_self, pk_un (by omega)]⟩) ?_
    unfold rgR
    rw [if_pos z]
    refine ⟨HW.cg (fun j hj => by rw [upd2_ne _ _ _ (by omega)]; exact gw j hj), ?_, ?_, ?_⟩
    · rw [upd2_self, pk_un (by omega), g32]; exact c5
    · rw [upd2_self, pk_us, g32, c6]
    · rw [upd2_self, pk_un (by omega), g32]; exact c7
  have lostF : (s = k ∨ ¬ frM a k) → ∀ (x5 : Int32), XP G mX9_lowestFreePlace (d + 3) 0 [.ref w, .null] [] sw f (fun v sw' f' => XP G mX7_mayRing (d + 4) 116 [.ref 32, .ref w, .int (nI s), .int x3, .int (nI k), .int x5, .int (-1), v7, v8] (retst v []) sw' f' Q) := by
    intro z x5
    have lo := lost (Or.inl (rtF_0 z)) f (COff.rf f w) (fun _ _ => rfl) rfl
    exact sp_lowestFreePlace hw h9 (fun _ => bX7_mayRing_116 hw (fun _ => lo) (fun h => absurd rfl h) (fun h => absurd rfl h)) (fun _ => bX7_mayRing_116 hw (fun _ => lo) (fun h => absurd rfl h) (fun h => absurd rfl h))
  have frB' : (((wFree f w) >>> (nI k &&& 31)) &&& 1) = 1 ↔ frM a k := by
    have := bitI_bt (m := wFree f w) (s := k) (by omega)
    exact this.trans (HW.free hw hk)
  by_cases hsk : s = k
  · refine bX7_mayRing_49 hw (fun _ => lostF (Or.inl hsk) 0) (fun h => absurd (by rw [hsk]) h) (fun h => absurd (by rw [hsk]) h) (fun h => absurd (by rw [hsk]) h) (fun h => absurd (by rw [hsk]) h)
  · have nks : ¬ nI k = nI s := fun z => hsk ((nI_eq (by omega) (by omega)).mp z).symm
    by_cases fk : frM a k
    · refine bX7_mayRing_49 hw (fun h => absurd h nks) (fun _ h => absurd (frB'.mpr fk) h) (fun _ _ => vp_in_nI hs (by omega)) (fun _ _ => vp_in_nI hk (by omega)) (fun _ _ => ?_)
      obtain ⟨-, -, -, -, -, rs⟩ := HW.2.1 s hs
      obtain ⟨-, -, -, -, -, rk⟩ := HW.2.1 k hk
      obtain ⟨-, -, -, es4, es5, -⟩ := rs fs.1
      obtain ⟨lk1, -, -, ek4, ek5, -⟩ := rk fk.1
      obtain ⟨e, he, ee⟩ := isN_nI es5 (by omega)
      obtain ⟨q, hq, eq⟩ := isN_nI ek5 (by omega)
      have ae : (a (16 + s)).toNatClampNeg = e := by rw [← es4, ee, nI_clamp (by omega)]
      have aq : (a (16 + k)).toNatClampNeg = q := by rw [← ek4, eq, nI_clamp (by omega)]
      have rF : rtF (f 86) a s k = (bfs (adjA (f 86) a) q).1 e := by rw [rtF_1 hsk fk, ae, aq]
      have ee' : f (w + 1) (nI s).toNatClampNeg = nI e := by rw [nI_clamp (by omega)]; exact ee
      have eq' : f (w + 1) (nI k).toNatClampNeg = nI q := by rw [nI_clamp (by omega)]; exact eq
      rw [ee', eq']
      refine sp_findRouteR (d := d + 1) hw (by omega) (by omega) hN HW (fun z g1 o1 => ?_) (fun T p hT hT7 hp hp8 g1 o1 gp => ?_)
      · have og : COff f g1 w := ⟨fun c d1 d2 d3 => o1 c (by omega), by rw [o1 32 (by omega)], by rw [o1 32 (by omega)]⟩
        have lo := lost (Or.inl (by rw [rF]; exact z)) g1 og (fun j hj => o1 _ (by omega)) (o1 32 (by omega))
        refine bX7_mayRing_106 hw (sp_lowestFreePlace hw (a := a) (fun i hi => by rw [o1 _ (by omega)]; exact h9 i hi) (fun _ => bX7_mayRing_116 hw (fun _ => lo) (fun h => absurd rfl h) (fun h => absurd rfl h)) (fun _ => bX7_mayRing_116 hw (fun _ => lo) (fun h => absurd rfl h) (fun h => absurd rfl h)))
      · have og : COff f g1 w := ⟨fun c d1 d2 d3 => o1 c (by omega), by rw [o1 32 (by omega)], by rw [o1 32 (by omega)]⟩
        have rT : rtF (f 86) a s k = T + 1 := by rw [rF]; exact hT
        have nT : ¬ nI T = -1 := nI_ne_m1 (by omega)
        have pth : ∀ x, x ≤ T → rgP (f 86) a s k T x = p x := by
          intro x hx
          unfold rgP
          rw [ae, aq]
          exact rtP_eq hp x hx
        refine bX7_mayRing_106 hw (sp_lowestFreePlace hw (a := a) (fun i hi => by rw [o1 _ (by omega)]; exact h9 i hi) (fun hpl => ?_) (fun hpl => ?_))
        · have hne : ¬ (rtF (f 86) a s k = 0 ∨ frP a = 20) := by omega
          have hi := hpl
          have hfr : a (188 + frP a) = 0 := by
            rcases fstN_cases (fun i => a (188 + i) = 0) 20 with ⟨y1, y2, y3⟩ | ⟨y1, y2⟩
            · exact y2
            · have y1 : frP a = 20 := y1
              omega
          unfold rgR at hQ
          rw [if_neg hne, rT, Nat.add_sub_cancel] at hQ
          generalize frP a = i at hi hfr hQ ⊢
          have ni : ¬ nI i = -1 := nI_ne_m1 (by omega)
          refine bX7_mayRing_116 hw (fun h => absurd h nT) (fun _ _ => bX5_lookAtCall_0 hw ?_) (fun _ h => absurd h ni)
          -- what the law is told of the call
          have g2w : ∀ y y2 y3 : Int32, ∀ c, c ≠ 34 → upd2 (upd2 (upd2 g1 34 7 y) 34 8 y2) 34 9 y3 c = g1 c := fun y y2 y3 c hc => by rw [upd2_ne _ _ _ hc, upd2_ne _ _ _ hc, upd2_ne _ _ _ hc]
          rw [upd2_ne _ _ _ (show w ≠ 34 by omega), o1 w (by omega)]
          have dv : ((f w 1 >>> (nI k &&& 31)) &&& 1) = if a (32 + k) = 1 then 0 else 1 := by
            rw [bit_val _ (by omega)]
            obtain ⟨-, -, r2, -⟩ := HW.2.1 k hk
            by_cases c : a (32 + k) = 1
            · rw [if_pos c, if_neg (fun z => by rw [(r2.mp z).2] at c; exact absurd c (by decide))]
            · rw [if_neg c, if_pos (r2.mpr ⟨fk.1, lk1.resolve_right c⟩)]
          rw [dv]
          have g1_34 : g1 34 = f 34 := o1 34 (by omega)
          have k2 : ∀ x, x ≤ 9 → upd2 (upd2 (upd2 g1 34 7 (nI k)) 34 8 (if a (32 + k) = 1 then 0 else 1)) 34 9 (nI T) 34 x = fctC a s k T x := by
            intro x hx
            rw [upd2_self, upd2_self, upd2_self]
            unfold fctC
            by_cases y9 : x = 9
            · subst y9; rw [pk_us, if_neg (by omega), if_neg (by omega), if_pos rfl]
            · rw [pk_un y9]
              by_cases y8 : x = 8
              · subst y8; rw [pk_us, if_neg (show ¬ (8 : Nat) = 7 by omega), if_pos (show (8 : Nat) = 8 from rfl)]
              · rw [pk_un y8]
                by_cases y7 : x = 7
                · subst y7; rw [pk_us, if_pos rfl]
                · rw [pk_un y7, if_neg y7, if_neg y8, if_neg y9, g1_34]; exact k1 x hx
          have go2 := g2w (nI k) (if a (32 + k) = 1 then 0 else 1) (nI T)
          generalize upd2 (upd2 (upd2 g1 34 7 (nI k)) 34 8 (if a (32 + k) = 1 then 0 else 1)) 34 9 (nI T) = g2 at k2 go2 ⊢
          have l2 : ∀ m, m < 7 → g2 (lwB sw + m) = lw m := fun m hm => by
            have := lwB_in sw hm
            rw [go2 _ (by omega), o1 _ (by omega)]
            exact hl m hm
          refine bX7_mayRing_153 hw (sp_valueOf (isLw_B sw) l2 hL (Or.inr (Or.inr rfl)) (fun g3 o3 => ?_))
          rw [lawV_cg hL k2 (Or.inr (Or.inr rfl))]
          have mN : isN (lawV lw (fctC a s k T) 108 99) 99 := lawV_N (M := 99) lw _ _ (by omega)
          have g3f : ∀ c, (c < 5 ∨ c = 6 ∨ 10 < c) → c ≠ 33 → c ≠ 34 → c ≠ 35 → g3 c = f c := fun c d1 d2 d3 d4 => by rw [o3 c d2 d4, go2 c d3]; exact o1 c (by omega)
          have o3g : COff f g3 w := ⟨fun c d1 d2 d3 => g3f c d1 (by omega) (by omega) (by omega), by rw [g3f 32 (by omega) (by omega) (by omega) (by omega)], by rw [g3f 32 (by omega) (by omega) (by omega) (by omega)]⟩
          have g32 : g3 32 = f 32 := g3f 32 (by omega) (by omega) (by omega) (by omega)
          have g3w : ∀ j, j < 13 → g3 (w + j) = f (w + j) := fun j hj => g3f _ (by omega) (by omega) (by omega) (by omega)
          by_cases m0 : lawV lw (fctC a s k T) 108 99 = 0
          · rw [if_pos m0] at hQ
            refine bX7_mayRing_168 hw (fun h => absurd m0 h) (fun _ => hQ g3 o3g ⟨HW.cg g3w, by rw [g32]; exact c5, by rw [g32]; exact c6, by rw [g32]; exact c7⟩)
          · rw [if_neg m0] at hQ
            have l3 : ∀ m, m < 7 → g3 (lwB sw + m) = lw m := fun m hm => by
              have := lwB_in sw hm
              rw [o3 _ (by omega) (by omega)]
              exact l2 m hm
            have g3_34 : ∀ x, x ≤ 9 → g3 34 x = fctC a s k T x := fun x hx => by rw [o3 34 (by omega) (by omega)]; exact k2 x hx
            refine bX7_mayRing_168 hw (fun _ => sp_firstHolding (d := d + 1) (isLw_B sw) l3 hL (fun g4 o4 => ?_)) (fun h => absurd h m0)
            rw [lawI_cg hL g3_34]
            have g4f : ∀ c, (c < 5 ∨ c = 6 ∨ 10 < c) → c ≠ 33 → c ≠ 34 → c ≠ 35 → g4 c = f c := fun c d1 d2 d3 d4 => by rw [o4 c d2 d4]; exact g3f c d1 d2 d3 d4
            have g45 : g4 5 = g1 5 := by rw [o4 5 (by omega) (by omega), o3 5 (by omega) (by omega), go2 5 (by omega)]
            have g4w : ∀ j, j < 13 → g4 (w + j) = f (w + j) := fun j hj => g4f _ (by omega) (by omega) (by omega) (by omega)
            have hpn : ∀ x, x < T → p x ≠ p (x + 1) := by
              intro x hx z
              have := (hp.2 x hx).2.1
              rw [← z, adjA_ne hN a (hp8 x (by omega))] at this
              exact absurd this (by decide)
            -- the rest, for either payer
            have rest : ∀ pv : Int32, pv = pyR lw (fctC a s k T) s k → (pv = nI s ∨ pv = nI k) → ∀ x5 x8 : Int32, x8 = lawV lw (fctC a s k T) 108 99 → XP G mX9_begin (d + 3) 0 [.ref w, .int (nI i), .int (nI s), .int (nI k), .int x8] [] sw (upd2 g4 (w + 8) (nI i).toNatClampNeg pv) (fun v sw' f' => XP G mX7_mayRing (d + 4) 217 [.ref 32, .ref w, .int (nI s), .int x3, .int (nI k), .int x5, .int (nI T), .int (nI i), .int x8] (retst v []) sw' f' Q) := by
              intro pv hpy hpv x5 x8 hx8
              rw [nI_clamp (by omega)]
              refine sp_begin hw hi hs hk (fun g5 b0 b1 b2 b3 b4 b5 b6 b7 b8 b9 => bX7_mayRing_217 hw ?_)
              have u8 : ∀ c, c ≠ w + 8 → upd2 g4 (w + 8) i pv c = g4 c := fun c hc => upd2_ne _ _ _ hc
              refine sp_seize (d := d + 2) (p := p) hw hi hT7 (fun x hx => by rw [b0 5 (by omega), u8 5 (by omega), g45]; exact gp x hx) hp8 hpn (fun g6 s0 s1 s2 s3 s4 => bX7_mayRing_232 hw (hQ _ ?_ ?_))
              · refine ⟨fun c d1 d2 d3 => ?_, ?_, ?_⟩
                · rw [upd2_ne _ _ _ (by omega), s0 c (by omega) (by omega) (by omega), b0 c d3, u8 c (by omega)]
                  exact g4f c d1 (by omega) (by omega) (by omega)
                · rw [upd2_self, pk_un (by omega), s0 32 (by omega) (by omega) (by omega), b0 32 (by omega), u8 32 (by omega), g4f 32 (by omega) (by omega) (by omega) (by omega)]
                · rw [upd2_self, pk_un (by omega), s0 32 (by omega) (by omega) (by omega), b0 32 (by omega), u8 32 (by omega), g4f 32 (by omega) (by omega) (by omega) (by omega)]
              · have g32' : g6 32 = f 32 := by rw [s0 32 (by omega) (by omega) (by omega), b0 32 (by omega), u8 32 (by omega), g4f 32 (by omega) (by omega) (by omega) (by omega)]
                refine ⟨?_, ?_, ?_, ?_⟩
                · rw [← hpy, ← hx8]
                  have n32 : ∀ j, j ≤ 12 → upd2 g6 32 5 (g6 32 5 + 1) (w + j) = g6 (w + j) := fun j hj => upd2_ne _ _ _ (by omega)
                  have n32' : upd2 g6 32 5 (g6 32 5 + 1) w = g6 w := upd2_ne _ _ _ (by omega)
                  have s0' : ∀ j, j ≤ 9 → g6 (w + j) = g5 (w + j) := fun j hj => s0 _ (by omega) (by omega) (by omega)
                  have s0w : g6 w = g5 w := s0 w (by omega) (by omega) (by omega)
                  have f4 : ∀ j, j < 13 → j ≠ 8 → upd2 g4 (w + 8) i pv (w + j) = f (w + j) := fun j hj h8 => by rw [u8 _ (by omega)]; exact g4w j hj
                  have f4w : upd2 g4 (w + 8) i pv w = f w := by rw [u8 w (by omega)]; exact g4f w (by omega) (by omega) (by omega) (by omega)
                  have rtR : begR a s k i x8 pv T (rgP (f 86) a s k T) = begR a s k i x8 pv T p := by
                    have : ∀ (b : Nat → Int32) (n : Nat), n ≤ T + 1 → rowsR b i (rgP (f 86) a s k T) n = rowsR b i p n := by
                      intro b n
                      induction n with
                      | zero => intro _; rfl
                      | succ n ihn =>
                        intro hn
                        show upd _ _ _ = upd _ _ _
                        rw [ihn (by omega), pth n (by omega)]
                    unfold begR begA
                    rw [this _ (T + 1) (Nat.le_refl _)]
                  rw [rtR]
                  refine HW.beg hw hi hs hk hsk hfr fs fk (by rw [hx8]; exact mN) (by rw [hx8]; exact m0) hpv hT7 hp8 hpn (fun x hx => ?_) (fun x => ?_) ?_ ?_ ?_ ?_ ?_ ?_ ?_ ?_ ?_ ?_ (fun j x hj hji hx => ?_) (fun x hx => ?_) (fun e q he hq => ?_)
                  · rw [n32', s0w, b1 x hx, f4w]
                  · rw [n32', s0w, b2, f4w]
                    by_cases hx : x < 32
                    · rw [bt_or, bt_or, bt_one (by omega) hx, bt_one (by omega) hx, Bool.or_eq_true, Bool.or_eq_true, decide_eq_true_iff, decide_eq_true_iff]
                    · rw [bt_hi _ (by omega), bt_hi _ (by omega)]
                      constructor
                      · intro z; exact absurd z (by decide)
                      · intro z; rcases z with z | z | z
                        · exact z
                        · omega
                        · omega
                  · rw [n32 1 (by omega), s0' 1 (by omega), b3 1 (by omega) (by omega), f4 1 (by omega) (by omega)]
                  · rw [n32 2 (by omega), s0' 2 (by omega), b3 2 (by omega) (by omega), f4 2 (by omega) (by omega)]
                  · rw [n32 3 (by omega), s0' 3 (by omega), b4, f4 3 (by omega) (by omega)]
                  · rw [n32 4 (by omega), s0' 4 (by omega), b5, f4 4 (by omega) (by omega)]
                  · rw [n32 5 (by omega), s0' 5 (by omega), b6, f4 5 (by omega) (by omega)]
                  · rw [n32 6 (by omega), s0' 6 (by omega), b7, f4 6 (by omega) (by omega)]
                  · rw [n32 7 (by omega), s0' 7 (by omega), b8, f4 7 (by omega) (by omega)]
                  · rw [n32 8 (by omega), s0' 8 (by omega), b3 8 (by omega) (by omega), upd2_self, g4w 8 (by omega)]
                  · rw [n32 9 (by omega), s0' 9 (by omega), b9, f4 9 (by omega) (by omega)]
                  · rw [n32 10 (by omega), s1, b3 10 (by omega) (by omega), f4 10 (by omega) (by omega)]
                  · rw [n32 11 (by omega), s2 j x hj hji hx, b3 11 (by omega) (by omega), f4 11 (by omega) (by omega)]
                  · rw [n32 11 (by omega)]; exact s3 x hx
                  · rw [n32 12 (by omega), n32 11 (by omega), s4 e q he hq, b3 12 (by omega) (by omega), f4 12 (by omega) (by omega)]
                · rw [upd2_self, pk_us, g32', c5]
                · rw [upd2_self, pk_un (by omega), g32']; exact c6
                · rw [upd2_self, pk_un (by omega), g32']; exact c7
            obtain ⟨R, hR, eR, cR, hlt⟩ := hL.R
            by_cases hh : lawH lw (fctC a s k T) 118
            · have hh' : lawI lw (fctC a s k T) 118 < (lw 0 0).toNatClampNeg := hh
              have py : nI k = pyR lw (fctC a s k T) s k := by unfold pyR; rw [if_pos hh]
              rw [if_pos hh']
              have ne : ¬ nI (lawI lw (fctC a s k T) 118) = -1 := nI_ne_m1 (by rw [cR] at hh'; omega)
              exact bX7_mayRing_195 hw (fun _ => vp_in_nI hi (by omega)) (fun _ => rest _ py (Or.inr rfl) _ _ rfl) (fun h => absurd h ne) (fun h => absurd h ne)
            · have hh' : ¬ lawI lw (fctC a s k T) 118 < (lw 0 0).toNatClampNeg := hh
              have py : nI s = pyR lw (fctC a s k T) s k := by unfold pyR; rw [if_neg hh]
              rw [if_neg hh']
              exact bX7_mayRing_195 hw (fun h => absurd rfl h) (fun h => absurd rfl h) (fun _ => vp_in_nI hi (by omega)) (fun _ => rest _ py (Or.inl rfl) _ _ rfl)
        · have hle : frP a ≤ 20 := by
            rcases fstN_cases (fun i => a (188 + i) = 0) 20 with ⟨y1, y2, y3⟩ | ⟨y1, y2⟩
            · exact Nat.le_of_lt y1
            · exact Nat.le_of_eq y1
          have lo := lost (Or.inr (by omega)) g1 og (fun j hj => o1 _ (by omega)) (o1 32 (by omega))
          exact bX7_mayRing_116 hw (fun h => absurd h nT) (fun _ h => absurd rfl h) (fun _ _ => lo)
    · exact bX7_mayRing_49 hw (fun h => absurd h nks) (fun _ _ => lostF (Or.inr fk) 0) (fun _ h => absurd (frB'.mp h) fk) (fun _ h => absurd (frB'.mp h) fk) (fun _ h => absurd (frB'.mp h) fk)
