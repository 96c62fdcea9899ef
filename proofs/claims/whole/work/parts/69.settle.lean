/-! ===== the class reads all lines ===== -/
theorem BLat.cg {g h : FF} {i : Nat} {l : BL} (H : BLat g i l) (h1 : h 21 i = g 21 i) (h2 : h 22 i = g 22 i) (h3 : h 23 i = g 23 i) : BLat h i l := by unfold BLat at H ⊢; rw [h1, h2, h3]; exact H
theorem BLs.cg {g h : FF} (h1 : h 21 = g 21) (h2 : h 22 = g 22) (h3 : h 23 = g 23) : ∀ (L : List BL) (i : Nat), BLs g i L → BLs h i L := by
  intro L
  induction L with
  | nil => intro i _; trivial
  | cons l L ih =>
    intro i H
    exact ⟨H.1.cg (by rw [h1]) (by rw [h2]) (by rw [h3]), ih (i + 1) H.2⟩
theorem sp_readLines {G : GC} {d : Nat} {sw : Bool} {f : FF} {Q : QQ} {n : Nat} {a : Nat → Int32} {mk : Int32} (ht : TX f n) (hp0 : f 1 3 = nI 0) (hmk : ∀ s, s < 16 → (bt mk s = true ↔ a s = 1)) (hE : ∀ (e : Int32) (g : FF), linesR (f 90) n a 21 0 0 = .error e → CB f g → Q (some (.int e)) sw g) (hO : ∀ (L : List BL) (g : FF), linesR (f 90) n a 21 0 0 = .ok L → CB f g → BLs g 0 L → g 20 4 = nI L.length → Q (some (.int (nI L.length))) sw g) : XP G mX0_readLines (d + 3) 0 [.ref 20, .int mk, .null] [] sw f Q := by
  have loop : ∀ (l i p : Nat) (g : FF), i + l = 21 → i ≤ 20 → p ≤ n → CB f g → g 1 3 = nI p → (∀ (e : Int32) (g' : FF), linesR (f 90) n a l i p = .error e → CB f g' → Q (some (.int e)) sw g') → (∀ (L : List BL) (g' : FF), linesR (f 90) n a l i p = .ok L → CB f g' → (∀ k, k < i → g' 21 k = g 21 k ∧ g' 22 k = g 22 k ∧ g' 23 k = g 23 k) → BLs g' i L → g' 20 4 = nI (i + L.length) → Q (some (.int (nI (i + L.length)))) sw g') → XP G mX0_readLines (d + 3) 2 [.ref 20, .int mk, .int (nI i)] [] sw g Q := by
    intro l
    induction l with
    | zero => intro i p g h1 h2; omega
    | succ l ih =>
      intro i p g hi hi20 hpn og g3 hE hO
      have g90 : g 90 = f 90 := og.1 90 (by omega) (by omega)
      have n20 : ¬ (20 : Int32) < nI i := nI_nlt (a := 20) (b := i) (by omega) (by omega)
      have htg := ht.cb og
      refine bX0_readLines_2 (fun h => absurd h n20) (fun _ => sp_readWhose htg g3 hpn hi20 hmk (fun e g1 hw o1 e5 => ?_) (fun s hw => ?_))
      · rw [g90] at hw
        refine bX0_readLines_14 (fun _ => ?_) (fun h => absurd rfl h)
        rw [e5]
        refine hE e g1 ?_ (og.tr (CB.ot o1))
        unfold linesR lineP
        rw [hw]
      · rw [g90] at hw
        obtain ⟨w1, w2, w3⟩ := whoP_ok hw
        refine bX0_readLines_14 (fun h => absurd h (by decide)) (fun _ => ?_)
        have o1 : CB g (upd2 (upd2 g 1 3 (nI (p + 1))) 21 i (nI s)) := ((CB.rf g).up (by omega)).up (by omega)
        have h190 : upd2 (upd2 g 1 3 (nI (p + 1))) 21 i (nI s) 90 = f 90 := by rw [upd2_ne _ _ _ (by omega), upd2_ne _ _ _ (by omega)]; exact g90
        have c1 : ∀ k, k ≠ i → upd2 (upd2 g 1 3 (nI (p + 1))) 21 i (nI s) 21 k = g 21 k := fun k hk => by rw [upd2_self, pk_un hk, upd2_ne _ _ _ (by omega)]
        have c2 : upd2 (upd2 g 1 3 (nI (p + 1))) 21 i (nI s) 22 = g 22 := by rw [upd2_ne _ _ _ (by omega), upd2_ne _ _ _ (by omega)]
        have c3 : upd2 (upd2 g 1 3 (nI (p + 1))) 21 i (nI s) 23 = g 23 := by rw [upd2_ne _ _ _ (by omega), upd2_ne _ _ _ (by omega)]
        have c13 : upd2 (upd2 g 1 3 (nI (p + 1))) 21 i (nI s) 1 3 = nI (p + 1) := by rw [upd2_ne _ _ _ (by omega), upd2_self, pk_us]
        have c21 : upd2 (upd2 g 1 3 (nI (p + 1))) 21 i (nI s) 21 i = nI s := by rw [upd2_self, pk_us]
        generalize upd2 (upd2 g 1 3 (nI (p + 1))) 21 i (nI s) = g1 at o1 h190 c1 c2 c3 c13 c21 ⊢
        have og1 := og.tr o1
        refine sp_readWhat (s := s) (ht.cb og1) c13 (by omega) w1 (by omega) c21 (fun e g2 hr o2 _ e5 => ?_) (fun r g2 hr p1 p2 o2 k21 k22 r3 rB r20 => ?_)
        · rw [h190] at hr
          refine bX0_readLines_22 (fun h => absurd rfl h) (fun h => absurd rfl h) (fun _ => ?_)
          rw [e5]
          refine hE e g2 ?_ (og1.tr o2)
          have hl : lineP (f 90) n a i p = .error e := by unfold lineP; rw [hw]; exact hr
          unfold linesR
          rw [hl]
        · rw [h190] at hr
          have hl : lineP (f 90) n a i p = .ok r := by unfold lineP; rw [hw]; exact hr
          have o3 : CB f (upd2 g2 20 4 (nI i + 1)) := (og1.tr o2).up (by omega)
          have r13 : (upd2 g2 20 4 (nI i + 1)) 1 3 = nI r.1 := by rw [upd2_ne _ _ _ (by omega)]; exact r3
          have h260 := ht.2.1
          have h390 : upd2 g2 20 4 (nI i + 1) 90 = f 90 := o3.1 90 (by omega) (by omega)
          have at3 : tAt (upd2 g2 20 4 (nI i + 1)) ((upd2 g2 20 4 (nI i + 1)) 1 3) = tx (f 90) n r.1 := by rw [r13, (ht.cb o3).at (by omega), h390]
          have B3 : BLat (upd2 g2 20 4 (nI i + 1)) i r.2 := rB.cg (by rw [upd2_ne _ _ _ (by omega)]) (by rw [upd2_ne _ _ _ (by omega)]) (by rw [upd2_ne _ _ _ (by omega)])
          have r20' : upd2 g2 20 4 (nI i + 1) 20 4 = nI (i + 1) := by rw [upd2_self, pk_us, nI_1]
          have low : ∀ k, k < i → upd2 g2 20 4 (nI i + 1) 21 k = g 21 k ∧ upd2 g2 20 4 (nI i + 1) 22 k = g 22 k ∧ upd2 g2 20 4 (nI i + 1) 23 k = g 23 k := by
            intro k hk
            rw [upd2_ne _ _ _ (by omega), upd2_ne _ _ _ (by omega), upd2_ne _ _ _ (by omega), k21 k, c1 k (by omega), (k22 k (by omega)).1, (k22 k (by omega)).2, c2, c3]
            exact ⟨rfl, rfl, rfl⟩
          refine bX0_readLines_22 (fun _ h => ?_) (fun _ h => ?_) (fun h => absurd h (by decide))
          · rw [at3] at h
            generalize upd2 g2 20 4 (nI i + 1) = g3' at *
            refine sp_passes (ht.cb o3) r13 p2 (by decide) (fun hy g4 o4 e4 => ?_) (fun hy g4 o4 e5 => ?_)
            · rw [h390] at hy
              have hlt := tx_in hy (by decide)
              have hl20 : i + 1 ≤ 20 := by omega
              refine bX0_readLines_65 (fun _ => ?_) (fun h => absurd h (by decide))
              rw [nI_1]
              refine ih (i + 1) (r.1 + 1) g4 (by omega) hl20 (by omega) (o3.tr (CB.ot o4)) e4 (fun e g' he o' => hE e g' ?_ o') (fun L g' hL o' lw' bs' h20 => ?_)
              · unfold linesR
                rw [hl]
                show (if tx (f 90) n r.1 = -1 then _ else if tx (f 90) n r.1 = 59 then _ else _) = _
                rw [if_neg h, if_pos hy, he]
              · have eL : linesR (f 90) n a (l + 1) i p = .ok (r.2 :: L) := by
                  unfold linesR
                  rw [hl]
                  show (if tx (f 90) n r.1 = -1 then _ else if tx (f 90) n r.1 = 59 then _ else _) = _
                  rw [if_neg h, if_pos hy, hL]
                have el : i + (r.2 :: L).length = i + 1 + L.length := by rw [List.length_cons]; omega
                have := hO (r.2 :: L) g' eL o' (fun k hk => ?_) ⟨?_, bs'⟩ (by rw [el]; exact h20)
                · rw [el] at this
                  exact this
                · have q := lw' k (by omega)
                  have q2 := low k hk
                  rw [q.1, q.2.1, q.2.2, o4.1 21 (by omega), o4.1 22 (by omega), o4.1 23 (by omega)]
                  exact q2
                · have q := lw' i (by omega)
                  exact B3.cg (by rw [q.1, o4.1 21 (by omega)]) (by rw [q.2.1, o4.1 22 (by omega)]) (by rw [q.2.2, o4.1 23 (by omega)])
            · rw [h390] at hy
              refine bX0_readLines_65 (fun h => absurd rfl h) (fun _ => ?_)
              rw [e5]
              refine hE _ g4 ?_ (o3.tr (CB.ot o4))
              unfold linesR
              rw [hl]
              show (if tx (f 90) n r.1 = -1 then _ else if tx (f 90) n r.1 = 59 then _ else _) = _
              rw [if_neg h, if_neg hy]
          · rw [at3] at h
            rw [r20']
            have eL : linesR (f 90) n a (l + 1) i p = .ok [r.2] := by
              unfold linesR
              rw [hl]
              show (if tx (f 90) n r.1 = -1 then _ else if tx (f 90) n r.1 = 59 then _ else _) = _
              rw [if_pos h]
            exact hO [r.2] _ eL o3 low ⟨B3, trivial⟩ r20'
  refine bX0_readLines_0 (loop 21 0 0 f (by omega) (by omega) (by omega) (CB.rf f) hp0 hE (fun L g' hL o' _ bs h20 => ?_))
  rw [Nat.zero_add] at h20 ⊢
  exact hO L g' hL o' bs h20
theorem linesR_ok {t : Nat → Int32} {n : Nat} {a : Nat → Int32} : ∀ (l i p : Nat) (L : List BL), linesR t n a l i p = .ok L → (∀ x, x ∈ L → lnOk a x) ∧ 1 ≤ L.length ∧ i + L.length ≤ 20 := by
  intro l
  induction l with
  | zero => intro i p L h; unfold linesR at h; exact absurd h (by simp)
  | succ l ih =>
    intro i p L h
    unfold linesR at h
    cases hl : lineP t n a i p with
    | error e => rw [hl] at h; exact absurd h (by simp)
    | ok r =>
      rw [hl] at h
      have h : (if tx t n r.1 = -1 then Except.ok [r.2] else if tx t n r.1 = 59 then (match linesR t n a l (i + 1) (r.1 + 1) with | .error e => .error e | .ok L => .ok (r.2 :: L)) else .error (er 1 r.1)) = Except.ok L := h
      have hln : lnOk a r.2 ∧ i < 20 := by
        unfold lineP at hl
        cases hw : whoP t n a i p with
        | error e => rw [hw] at hl; exact absurd hl (by simp)
        | ok s =>
          rw [hw] at hl
          have := whoP_ok hw
          exact ⟨whatP_ok this.2.2 hl, this.1⟩
      by_cases c1 : tx t n r.1 = -1
      · rw [if_pos c1] at h
        have := Except.ok.inj h
        subst this
        refine ⟨fun x hx => ?_, by simp, by simp; omega⟩
        rw [List.mem_singleton] at hx
        rw [hx]
        exact hln.1
      · rw [if_neg c1] at h
        by_cases c2 : tx t n r.1 = 59
        · rw [if_pos c2] at h
          cases hr : linesR t n a l (i + 1) (r.1 + 1) with
          | error e => rw [hr] at h; exact absurd h (by simp)
          | ok L2 =>
            rw [hr] at h
            have := Except.ok.inj h
            subst this
            obtain ⟨q1, q2, q3⟩ := ih (i + 1) (r.1 + 1) L2 hr
            refine ⟨fun x hx => ?_, by rw [List.length_cons]; omega, by rw [List.length_cons]; omega⟩
            rcases List.mem_cons.mp hx with z | z
            · rw [z]; exact hln.1
            · exact q1 x z
        · rw [if_neg c2] at h; exact absurd h (by simp)
/-! ===== the class settles ===== -/
theorem bnd_mx (v m : Int32) : bnd v m = mxI 0 (mnI m v) := by
  unfold bnd mxI mnI
  generalize (if m < v then m else v) = y
  by_cases c : 0 < y
  · rw [if_pos c, if_neg (fun z => absurd (Int32.lt_trans c z) (by simp))]
  · rw [if_neg c]
    by_cases c2 : y < 0
    · rw [if_pos c2]
    · rw [if_neg c2]
      exact Int32.le_antisymm (Int32.not_lt.mp c2) (Int32.not_lt.mp c)
theorem mx_N (v : Int32) : isN (mxI 0 (mnI 999999 v)) 999999 := by rw [← bnd_mx]; exact bnd_N (M := 999999) v (by omega)
theorem apR_lo {a : Nat → Int32} {l : BL} {x : Nat} (hx : x < 16) : apR a l x = a x := by
  unfold apR
  repeat' split
  · exact pk_un (by omega)
  · rw [endsR_lo _ _ (by omega), pk_un (by omega)]
  · exact pk_un (by omega)
  · exact pk_un (by omega)
  · exact pk_un (by omega)
  · exact pk_un (by omega)
  · exact pk_un (by omega)
theorem RWr.fund {f g : FF} {w : Nat} {a : Nat → Int32} {y : Int32} (H : RWr f w a) (ny : isN y 999999) (off : ∀ m, 1 ≤ m → m ≤ 12 → g (w + m) = f (w + m)) (hg : g w = upd (f w) 5 y) : RWr g w (upd a 388 y) := by
  obtain ⟨q1, q2, q3, q4, q5, q6, q7, q8, q9, q10, q11⟩ := id H
  refine H.setF off (fun m hm => by rw [hg, pk_un (by omega)]) (fun k hk => pk_un (by omega)) (by rw [hg, pk_us, pk_us]) (by rw [hg, pk_us]; exact ny) ?_ ?_ ?_ ?_
  · rw [hg, pk_un (by omega), pk_un (by omega)]; exact q8
  · rw [hg, pk_un (by omega)]; exact q9
  · rw [hg, pk_un (by omega), pk_un (by omega)]; exact q10
  · rw [hg, pk_un (by omega)]; exact q11
theorem RWr.arr {f g : FF} {w s : Nat} {a : Nat → Int32} {y : Int32} (H : RWr f w a) (hs : s < 16) (ts : a s = 1) (ny : isN y 999999) (off : ∀ m, m ≤ 12 → m ≠ 2 → g (w + m) = f (w + m)) (hg : g (w + 2) = upd (f (w + 2)) s y) : RWr g w (upd a (80 + s) y) := by
  obtain ⟨r0, r1, r2, r3, r4, r5⟩ := H.2.1 s hs
  obtain ⟨m1, m2, m3, m4, m5, m6, m7, m8, m9, m10, m11⟩ := r5 ts
  have o0 := off 0 (by omega) (by omega)
  rw [Nat.add_zero] at o0
  refine H.setS hs (fun m h5 h12 => off m h12 (by omega)) (fun m hm x hx => by rw [o0]) (fun m h4 h8 => by rw [o0]) (fun m h1 h4 x hx => ?_) (fun k hk => pk_un (by omega)) (fun z => by rw [pk_un (by omega)]; exact z) ?_
  · by_cases z : m = 2
    · subst z; rw [hg, pk_un hx]
    · rw [off m (by omega) z]
  · rw [o0, off 1 (by omega) (by omega), off 3 (by omega) (by omega), off 4 (by omega) (by omega), hg]
    unfold RWs
    rw [pk_us, pk_us, pk_un (by omega), pk_un (by omega), pk_un (by omega), pk_un (by omega), pk_un (by omega), pk_un (by omega), pk_un (by omega)]
    exact ⟨r0, r1, r2, r3, r4, fun _ => ⟨m1, m2, m3, m4, m5, rfl, ny, m8, m9, m10, m11⟩⟩
/-- one flag of one subscriber changes -/
theorem RWr.flag {f g : FF} {w s j : Nat} {a : Nat → Int32} {y v : Int32} (H : RWr f w a) (hs : s < 16) (ts : a s = 1) (hj : 1 ≤ j ∧ j ≤ 3) (hv : v = 0 ∨ v = 1) (off : ∀ m, 1 ≤ m → m ≤ 12 → g (w + m) = f (w + m)) (hg : g w = upd (f w) j y) (hne : ∀ x, x ≠ s → bt y x = bt (f w j) x) (hy : bt y s = true ↔ v = (if j = 3 then 1 else 0)) : RWr g w (upd a (16 + 16 * j + s) v) := by
  obtain ⟨r0, r1, r2, r3, r4, r5⟩ := H.2.1 s hs
  obtain ⟨m1, m2, m3, m4, m5, m6, m7, m8, m9, m10, m11⟩ := r5 ts
  refine H.setS hs (fun m h5 h12 => off m (by omega) h12) (fun m hm x hx => ?_) (fun m h4 h8 => by rw [hg, pk_un (by omega)]) (fun m h1 h4 x hx => by rw [off m h1 (by omega)]) (fun k hk => pk_un (by omega)) (fun z => by rw [pk_un (by omega)]; exact z) ?_
  · rw [hg]
    by_cases z : m = j
    · subst z; rw [pk_us]; exact hne x hx
    · rw [pk_un z]
  · rw [off 1 (by omega) (by omega), off 2 (by omega) (by omega), off 3 (by omega) (by omega), off 4 (by omega) (by omega), hg]
    unfold RWs
    rcases (by omega : j = 1 ∨ j = 2 ∨ j = 3) with rfl | rfl | rfl
    · rw [show 16 + 16 * 1 + s = 32 + s by omega, pk_us, pk_us, pk_un (show (0 : Nat) ≠ 1 by omega), pk_un (show (2 : Nat) ≠ 1 by omega), pk_un (show (3 : Nat) ≠ 1 by omega), pk_un (show s ≠ 32 + s by omega), pk_un (show 48 + s ≠ 32 + s by omega), pk_un (show 64 + s ≠ 32 + s by omega), pk_un (show 16 + s ≠ 32 + s by omega), pk_un (show 80 + s ≠ 32 + s by omega), pk_un (show 96 + s ≠ 32 + s by omega), pk_un (show 112 + s ≠ 32 + s by omega)]
      rw [if_neg (by omega)] at hy
      exact ⟨r0, r1, ⟨fun z => ⟨ts, hy.mp z⟩, fun z => hy.mpr z.2⟩, r3, r4, fun _ => ⟨hv, m2, m3, m4, m5, m6, m7, m8, m9, m10, m11⟩⟩
    · rw [show 16 + 16 * 2 + s = 48 + s by omega, pk_us, pk_us, pk_un (show (0 : Nat) ≠ 2 by omega), pk_un (show (1 : Nat) ≠ 2 by omega), pk_un (show (3 : Nat) ≠ 2 by omega), pk_un (show s ≠ 48 + s by omega), pk_un (show 32 + s ≠ 48 + s by omega), pk_un (show 64 + s ≠ 48 + s by omega), pk_un (show 16 + s ≠ 48 + s by omega), pk_un (show 80 + s ≠ 48 + s by omega), pk_un (show 96 + s ≠ 48 + s by omega), pk_un (show 112 + s ≠ 48 + s by omega)]
      rw [if_neg (by omega)] at hy
      exact ⟨r0, r1, r2, ⟨fun z => ⟨ts, hy.mp z⟩, fun z => hy.mpr z.2⟩, r4, fun _ => ⟨m1, hv, m3, m4, m5, m6, m7, m8, m9, m10, m11⟩⟩
    · rw [show 16 + 16 * 3 + s = 64 + s by omega, pk_us, pk_us, pk_un (show (0 : Nat) ≠ 3 by omega), pk_un (show (1 : Nat) ≠ 3 by omega), pk_un (show (2 : Nat) ≠ 3 by omega), pk_un (show s ≠ 64 + s by omega), pk_un (show 32 + s ≠ 64 + s by omega), pk_un (show 48 + s ≠ 64 + s by omega), pk_un (show 16 + s ≠ 64 + s by omega), pk_un (show 80 + s ≠ 64 + s by omega), pk_un (show 96 + s ≠ 64 + s by omega), pk_un (show 112 + s ≠ 64 + s by omega)]
      rw [if_pos rfl] at hy
      exact ⟨r0, r1, r2, r3, ⟨fun z => ⟨ts, hy.mp z⟩, fun z => hy.mpr z.2⟩, fun _ => ⟨m1, m2, hv, m4, m5, m6, m7, m8, m9, m10, m11⟩⟩
theorem sp_settle {G : GC} {d : Nat} {sw : Bool} {f : FF} {Q : QQ} {w : Nat} {a : Nat → Int32} {L : List BL} (hw : isW w) (H : RWr f w a) (hL : ∀ x, x ∈ L → lnOk a x) (h20 : L.length ≤ 20) (hB : BLs f 0 L) (hN : f 20 4 = nI L.length) (hQ : ∀ g : FF, (∀ c, (c < w ∨ w + 12 < c) → g c = f c) → RWr g w (apL a L) → Q none sw g) : XP G mX0_settle (d + 5) 0 [.ref 20, .ref w, .null] [] sw f Q := by
  have hw2 := isW_lt hw
  have loop : ∀ (M : List BL) (i : Nat) (b : Nat → Int32) (g : FF), i + M.length = L.length → (∀ x, x ∈ M → lnOk a x) → BLs g i M → (∀ c, (c < w ∨ w + 12 < c) → g c = f c) → RWr g w b → (∀ x, x < 16 → b x = a x) → apL b M = apL a L → XP G mX0_settle (d + 5) 2 [.ref 20, .ref w, .int (nI i)] [] sw g Q := by
    intro M
    induction M with
    | nil =>
      intro i b g hi hM bs og Hg hb he
      have e4 : g 20 4 ≤ nI i := by rw [og 20 (by omega), hN, ← hi]; exact nI_le (Nat.le_refl _) (by have : ([] : List BL).length = 0 := rfl; omega)
      refine bX0_settle_2 hw (fun _ => hQ g og ?_) (fun h => absurd e4 h) (fun h => absurd e4 h) (fun h => absurd e4 h) (fun h => absurd e4 h) (fun h => absurd e4 h) (fun h => absurd e4 h)
      rw [← he]
      exact Hg
    | cons l M ih =>
      intro i b g hi hM bs og Hg hb he
      have hlen : (l :: M).length = M.length + 1 := List.length_cons
      have n4 : ¬ g 20 4 ≤ nI i := by rw [og 20 (by omega), hN]; exact nI_ge (by omega) (by omega)
      have n20 : ¬ (20 : Int32) ≤ nI i := nI_ge (a := i) (b := 20) (by omega) (by omega)
      have vi : vp_in (nI i) 20 := vp_in_nI (by omega) (by omega)
      have ci : (nI i).toNatClampNeg = i := nI_clamp (by omega)
      obtain ⟨⟨b1, b2, b3⟩, bs2⟩ := bs
      have hl := hM l List.mem_cons_self
      have nx : ∀ g2 : FF, (∀ c, (c < w ∨ w + 12 < c) → g2 c = g c) → RWr g2 w (apR b l) → XP G mX0_settle (d + 5) 2 [.ref 20, .ref w, .int (nI i + 1)] [] sw g2 Q := by
        intro g2 o2 H2
        rw [nI_1]
        exact ih (i + 1) (apR b l) g2 (by omega) (fun x hx => hM x (List.mem_cons_of_mem _ hx)) (BLs.cg (o2 21 (by omega)) (o2 22 (by omega)) (o2 23 (by omega)) M _ bs2) (fun c hc => by rw [o2 c hc]; exact og c hc) H2 (fun x hx => by rw [apR_lo hx]; exact hb x hx) he
      rcases hl with ⟨z1, z2⟩ | ⟨z1, z2, z3⟩
      · have w16 : g 21 (nI i).toNatClampNeg = 16 := by rw [ci, b1, z1]; rfl
        refine bX0_settle_2 hw (fun h => absurd h n4) (fun _ h => absurd h n20) (fun _ _ => vi) (fun _ _ h => absurd w16 h) (fun _ _ h => absurd w16 h) (fun _ _ _ => vi) (fun _ _ _ => ?_)
        rw [ci, b3 z2]
        refine bX9_addFund_0 (d := d + 3) hw (bX0_settle_37 hw (nx _ (fun c hc => upd2_ne _ _ _ (by omega)) ?_))
        have e5 : g w 5 = b 388 := Hg.2.2.2.2.2.1
        unfold apR
        rw [if_pos z1, e5, bnd_mx]
        exact Hg.fund (mx_N _) (fun m h1 h12 => upd2_ne _ _ _ (by omega)) (upd2_self _ _ _ _)
      · have n16 : ¬ g 21 (nI i).toNatClampNeg = 16 := by
          rw [ci, b1]
          intro z
          have := (nI_eq (b := 16) (by omega) (by omega)).mp z
          omega
        have hl16 : ¬ l.1 = 16 := by omega
        have ts : b l.1 = 1 := by rw [hb _ z1]; exact z2
        have e21 : g 21 (nI i).toNatClampNeg = nI l.1 := by rw [ci]; exact b1
        have e22 : g 22 (nI i).toNatClampNeg = l.2.1 := by rw [ci]; exact b2
        refine bX0_settle_2 hw (fun h => absurd h n4) (fun _ h => absurd h n20) (fun _ _ => vi) (fun _ _ _ => vi) (fun _ _ _ => ?_) (fun _ _ h => absurd h n16) (fun _ _ h => absurd h n16)
        rw [e21]
        have m22 : ∀ y : Int32, g 22 (nI i).toNatClampNeg = y → l.2.1 = y := fun y hy => e22.symm.trans hy
        refine bX0_settleLine_0 hw vi (fun h => ?_) (fun h => ?_) (fun h => ?_) (fun h => ?_) (fun h => ?_) (fun _ _ _ _ _ => vi) (fun h33 h42 h63 h94 h95 => ?_)
        · have h := m22 _ h
          refine sp_cutOffNow hw Hg z1 ts (fun g2 o2 H2 => bX0_settleLine_61 hw (bX0_settle_52 hw (nx g2 o2 ?_)))
          unfold apR
          rw [if_neg hl16, if_pos h]
          exact H2
        · have h := m22 _ h
          refine bX0_settle_52 hw (nx _ (fun c hc => upd2_ne _ _ _ (by omega)) ?_)
          unfold apR
          rw [if_neg hl16, if_neg (by rw [h]; decide), if_neg (by rw [h]; decide), if_pos h]
          have := Hg.flag (g := upd2 g w 1 ((g w 1) ||| ((1 : Int32) <<< (nI l.1 &&& 31)))) (s := l.1) (j := 1) (v := 0) z1 ts (by omega) (Or.inl rfl) (fun m h1 h12 => upd2_ne _ _ _ (by omega)) (upd2_self _ _ _ _) (fun x hx => bt_set_ne (by omega) hx) ⟨fun _ => rfl, fun _ => bt_set_eq (by omega)⟩
          rw [show 16 + 16 * 1 + l.1 = 32 + l.1 by omega] at this
          exact this
        · have h := m22 _ h
          refine bX0_settle_52 hw (nx _ (fun c hc => upd2_ne _ _ _ (by omega)) ?_)
          unfold apR
          rw [if_neg hl16, if_neg (by rw [h]; decide), if_pos h]
          have := Hg.flag (g := upd2 g w 2 ((g w 2) &&& (((1 : Int32) <<< (nI l.1 &&& 31)) ^^^ (-1)))) (s := l.1) (j := 2) (v := 1) z1 ts (by omega) (Or.inr rfl) (fun m h1 h12 => upd2_ne _ _ _ (by omega)) (upd2_self _ _ _ _) (fun x hx => bt_clr_ne (by omega) hx) ⟨fun z => absurd z (by rw [bt_clr_eq (by omega)]; decide), fun z => absurd z (by decide)⟩
          rw [show 16 + 16 * 2 + l.1 = 48 + l.1 by omega] at this
          exact this
        · have h := m22 _ h
          refine bX0_settle_52 hw (nx _ (fun c hc => upd2_ne _ _ _ (by omega)) ?_)
          unfold apR
          rw [if_neg hl16, if_neg (by rw [h]; decide), if_neg (by rw [h]; decide), if_neg (by rw [h]; decide), if_pos h]
          have := Hg.flag (g := upd2 g w 3 ((g w 3) ||| ((1 : Int32) <<< (nI l.1 &&& 31)))) (s := l.1) (j := 3) (v := 1) z1 ts (by omega) (Or.inr rfl) (fun m h1 h12 => upd2_ne _ _ _ (by omega)) (upd2_self _ _ _ _) (fun x hx => bt_set_ne (by omega) hx) ⟨fun _ => rfl, fun _ => bt_set_eq (by omega)⟩
          rw [show 16 + 16 * 3 + l.1 = 64 + l.1 by omega] at this
          exact this
        · have h := m22 _ h
          refine bX0_settle_52 hw (nx _ (fun c hc => upd2_ne _ _ _ (by omega)) ?_)
          unfold apR
          rw [if_neg hl16, if_neg (by rw [h]; decide), if_neg (by rw [h]; decide), if_neg (by rw [h]; decide), if_neg (by rw [h]; decide), if_pos h]
          have := Hg.flag (g := upd2 g w 3 ((g w 3) &&& (((1 : Int32) <<< (nI l.1 &&& 31)) ^^^ (-1)))) (s := l.1) (j := 3) (v := 0) z1 ts (by omega) (Or.inl rfl) (fun m h1 h12 => upd2_ne _ _ _ (by omega)) (upd2_self _ _ _ _) (fun x hx => bt_clr_ne (by omega) hx) ⟨fun z => absurd z (by rw [bt_clr_eq (by omega)]; decide), fun z => absurd z (by decide)⟩
          rw [show 16 + 16 * 3 + l.1 = 64 + l.1 by omega] at this
          exact this
        · rw [e22] at h33 h42 h63 h94 h95
          have z43 : l.2.1 = 43 ∨ l.2.1 = 45 := by
            rcases z3 with y | y | y
            · exact Or.inl y
            · exact Or.inr y
            · rcases y with y | y | y | y | y
              · exact absurd y h33
              · exact absurd y h63
              · exact absurd y h42
              · exact absurd y h94
              · exact absurd y h95
          rw [ci, b3 z43]
          have cl : (nI l.1).toNatClampNeg = l.1 := nI_clamp (by omega)
          refine bX9_addArrears_0 (d := d + 2) hw (vp_in_nI z1 (by omega)) (vp_in_nI z1 (by omega)) (bX0_settleLine_139 hw (bX0_settle_52 hw (nx _ (fun c hc => upd2_ne _ _ _ (by omega)) ?_)))
          obtain ⟨-, -, -, -, -, r5⟩ := Hg.2.1 l.1 z1
          have e80 : g (w + 2) l.1 = b (80 + l.1) := (r5 ts).2.2.2.2.2.1
          unfold apR
          rw [if_neg hl16, if_neg h33, if_neg h63, if_neg h42, if_neg h94, if_neg h95, cl, e80, bnd_mx]
          exact Hg.arr z1 ts (mx_N _) (fun m hm h2 => upd2_ne _ _ _ (by omega)) (upd2_self _ _ _ _)
  exact bX0_settle_0 hw (loop L 0 a f (by omega) hL hB (fun _ _ => rfl) H (fun _ _ => rfl) rfl)
