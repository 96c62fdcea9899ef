/-! ===== the law asked ===== -/
theorem fstN_cg {P P' : Nat → Prop} {n : Nat} (h : ∀ i, i < n → (P i ↔ P' i)) : fstN P n = fstN P' n := by
  rcases fstN_cases P n with ⟨c1, c2, c3⟩ | ⟨c1, c2⟩
  · exact (fstN_eq c1 ((h _ c1).mp c2) (fun j hj hp => c3 j hj ((h j (by omega)).mpr hp))).symm
  · rw [c1]
    exact (fstN_no (fun i hi hp => c2 i hi ((h i hi).mpr hp))).symm
theorem evL_cg {sg wi fa fa' : Nat → Int32} {v b : Nat} {cd : Bool} (hvb : v ≤ b) (hb240 : b ≤ 240) (hw : wfSeg sg wi v b cd) (he : ∀ k, v ≤ k → k < b → ∃ c, enc (sg k) (wi k) c) (hf : ∀ k, k ≤ 9 → fa k = fa' k) (F : Nat) (st : Nat → Int32) : evL sg wi fa b F v 0 st = evL sg wi fa' b F v 0 st := by
  obtain ⟨dep, bo, d0, d1, d2, hst⟩ := hw
  have loop : ∀ (F k : Nat) (st : Nat → Int32), v ≤ k → k ≤ b → evL sg wi fa b F k (dep k) st = evL sg wi fa' b F k (dep k) st := by
    intro F
    induction F with
    | zero => intro k st _ _; rfl
    | succ F ih =>
      intro k st hvk hkb
      by_cases hk : k = b
      · rw [evL_end (by omega), evL_end (by omega)]
      · have hlt : k < b := by omega
        obtain ⟨dk, hwf⟩ := hst k hvk hlt
        obtain ⟨w1, w2, w3, w4, w5⟩ := id hwf
        obtain ⟨c, hc⟩ := he k hvk hlt
        rcases enc_sg hc with ⟨h, -⟩ | ⟨h, hwi⟩ | h | h | ⟨h, -⟩ | ⟨h, -⟩
        · rw [evL_48 hlt h, evL_48 hlt h, ← (w1 (Or.inl h)).1]
          exact ih _ _ (by omega) (by omega)
        · rw [evL_97 hlt h, evL_97 hlt h, ← (w1 (Or.inr h)).1, hf _ (cnN hwi)]
          exact ih _ _ (by omega) (by omega)
        · have hd := isA_wf hwf h
          by_cases hz : (sg k = 47 ∨ sg k = 37) ∧ st (dep k - 1) = 0
          · rw [evL_Az hlt h hz, evL_Az hlt h hz]
          · rw [evL_An hlt h hz, evL_An hlt h hz, show dep k - 1 = dep (k + 1) by omega]
            exact ih _ _ (by omega) (by omega)
        · rw [evL_33 hlt h, evL_33 hlt h, ← (w4 h).2.2.1]
          exact ih _ _ (by omega) (by omega)
        · obtain ⟨x1, x2, x3, t, x4, x5, x6, x7, x8⟩ := w5 (Or.inl h)
          by_cases hz : st (dep k - 1) = 0
          · rw [evL_38j hlt h hz, evL_38j hlt h hz, x4, nI_clamp (by omega), show dep k = dep t by omega]
            exact ih _ _ (by omega) x6
          · rw [evL_38p hlt h hz, evL_38p hlt h hz, show dep k - 1 = dep (k + 1) by omega]
            exact ih _ _ (by omega) (by omega)
        · obtain ⟨x1, x2, x3, t, x4, x5, x6, x7, x8⟩ := w5 (Or.inr h)
          by_cases hz : st (dep k - 1) = 1
          · rw [evL_124j hlt h hz, evL_124j hlt h hz, x4, nI_clamp (by omega), show dep k = dep t by omega]
            exact ih _ _ (by omega) x6
          · rw [evL_124p hlt h hz, evL_124p hlt h hz, show dep k - 1 = dep (k + 1) by omega]
            exact ih _ _ (by omega) (by omega)
  have := loop F v st (Nat.le_refl _) hvb
  rw [d0] at this
  exact this
/-- the steps of a law from one to another -/
def evS (lw : FF) (fa : Nat → Int32) (x y : Int32) : Int32 := evL (lw 5) (lw 6) fa y.toNatClampNeg 241 x.toNatClampNeg 0 (fun _ => 0)
def LOK (lw : FF) : Prop := isN (lw 0 0) 16 ∧ ∀ i : Nat, (i : Int) < (lw 0 0).toInt → ∃ v c e : Nat, v ≤ c ∧ c ≤ e ∧ e ≤ 240 ∧ lw 2 i = nI v ∧ lw 3 i = nI c ∧ lw 4 i = nI e ∧ (∀ k, v ≤ k → k < e → ∃ x, enc (lw 5 k) (lw 6 k) x) ∧ (v < c → wfSeg (lw 5) (lw 6) v c false) ∧ wfSeg (lw 5) (lw 6) c e true ∧ ((lw 1 i = 114 ∨ lw 1 i = 119 ∨ lw 1 i = 108) → v < c)
def LMd (lw f : FF) : Prop := RLd (lw 0) (lw 1) (lw 2) (lw 3) (lw 4) (lw 5) (lw 6) (f 82) (f 97) (f 98) (f 99) (f 100) (f 101)
theorem LMd.ok {lw f : FF} (h : LMd lw f) : LOK lw := by
  obtain ⟨h1, h2, h3⟩ := h
  refine ⟨h2, fun i hi => ?_⟩
  obtain ⟨_, _, _, _, v, c, e, g1, g2, g3, g4, g5, g6, g7, g8, g9, g10⟩ := h3 i hi
  exact ⟨v, c, e, g1, g2, g3, g4, g5, g6, fun k k1 k2 => ⟨_, g7 k k1 k2⟩, g8, g9, g10⟩
theorem LMd.cg {lw f g : FF} (h : LMd lw f) (h1 : g 82 19 = f 82 19) (h2 : ∀ k, 97 ≤ k → k ≤ 101 → g k = f k) : LMd lw g := by
  unfold LMd RLd at h ⊢
  rw [h1, h2 97 (by omega) (by omega), h2 98 (by omega) (by omega), h2 99 (by omega) (by omega), h2 100 (by omega) (by omega), h2 101 (by omega) (by omega)]
  exact h
def hld (lw : FF) (fa : Nat → Int32) (L : Int32) (i : Nat) : Prop := lw 1 i = L ∧ evS lw fa (lw 3 i) (lw 4 i) ≠ 0
noncomputable def lawI (lw : FF) (fa : Nat → Int32) (L : Int32) : Nat := fstN (hld lw fa L) (lw 0 0).toNatClampNeg
def lawH (lw : FF) (fa : Nat → Int32) (L : Int32) : Prop := lawI lw fa L < (lw 0 0).toNatClampNeg
noncomputable def lawV (lw : FF) (fa : Nat → Int32) (L m : Int32) : Int32 := if lawI lw fa L < (lw 0 0).toNatClampNeg then bnd (evS lw fa (lw 2 (lawI lw fa L)) (lw 3 (lawI lw fa L))) m else 0
theorem LOK.R {lw : FF} (h : LOK lw) : ∃ R, R ≤ 16 ∧ lw 0 0 = nI R ∧ (lw 0 0).toNatClampNeg = R ∧ ∀ i : Nat, i < R → (i : Int) < (lw 0 0).toInt := by
  obtain ⟨R, hR, eR⟩ := isN_nI h.1 (by omega)
  exact ⟨R, hR, eR, by rw [eR, nI_clamp (by omega)], fun i hi => by rw [eR, nI_toInt (by omega)]; omega⟩
theorem evS_01 {lw : FF} (h : LOK lw) (fa : Nat → Int32) {i : Nat} (hi : (i : Int) < (lw 0 0).toInt) : is01 (evS lw fa (lw 3 i) (lw 4 i)) := by
  obtain ⟨v, c, e, g1, g2, g3, g4, g5, g6, g7, g8, g9, g10⟩ := h.2 i hi
  unfold evS
  rw [g5, g6, nI_clamp (by omega), nI_clamp (by omega)]
  exact evL_bool g2 g3 g9 (fun k k1 k2 => g7 k (by omega) k2) _ _
theorem evS_cgc {lw : FF} (h : LOK lw) {fa fa' : Nat → Int32} (hf : ∀ k, k ≤ 9 → fa k = fa' k) {i : Nat} (hi : (i : Int) < (lw 0 0).toInt) : evS lw fa (lw 3 i) (lw 4 i) = evS lw fa' (lw 3 i) (lw 4 i) := by
  obtain ⟨v, c, e, g1, g2, g3, g4, g5, g6, g7, g8, g9, g10⟩ := h.2 i hi
  unfold evS
  rw [g5, g6, nI_clamp (by omega), nI_clamp (by omega)]
  exact evL_cg g2 g3 g9 (fun k k1 k2 => g7 k (by omega) k2) hf _ _
theorem evS_cgv {lw : FF} (h : LOK lw) {fa fa' : Nat → Int32} (hf : ∀ k, k ≤ 9 → fa k = fa' k) {i : Nat} (hi : (i : Int) < (lw 0 0).toInt) (hl : lw 1 i = 114 ∨ lw 1 i = 119 ∨ lw 1 i = 108) : evS lw fa (lw 2 i) (lw 3 i) = evS lw fa' (lw 2 i) (lw 3 i) := by
  obtain ⟨v, c, e, g1, g2, g3, g4, g5, g6, g7, g8, g9, g10⟩ := h.2 i hi
  unfold evS
  rw [g4, g5, nI_clamp (by omega), nI_clamp (by omega)]
  exact evL_cg g1 (by omega) (g8 (g10 hl)) (fun k k1 k2 => g7 k k1 (by omega)) hf _ _
theorem lawI_cg {lw : FF} (h : LOK lw) {fa fa' : Nat → Int32} (hf : ∀ k, k ≤ 9 → fa k = fa' k) (L : Int32) : lawI lw fa L = lawI lw fa' L := by
  obtain ⟨R, hR, eR, cR, hlt⟩ := h.R
  unfold lawI
  rw [cR]
  refine fstN_cg (fun i hi => ?_)
  unfold hld
  rw [evS_cgc h hf (hlt i hi)]
theorem lawV_cg {lw : FF} (h : LOK lw) {fa fa' : Nat → Int32} (hf : ∀ k, k ≤ 9 → fa k = fa' k) {L : Int32} (hL : L = 114 ∨ L = 119 ∨ L = 108) (m : Int32) : lawV lw fa L m = lawV lw fa' L m := by
  obtain ⟨R, hR, eR, cR, hlt⟩ := h.R
  unfold lawV
  rw [lawI_cg h hf L]
  by_cases c : lawI lw fa' L < (lw 0 0).toNatClampNeg
  · rw [if_pos c, if_pos c]
    rw [cR] at c
    rcases fstN_cases (hld lw fa' L) (lw 0 0).toNatClampNeg with ⟨c1, c2, c3⟩ | ⟨c1, c2⟩
    · have c2 : hld lw fa' L (lawI lw fa' L) := c2
      rw [evS_cgv h hf (hlt _ c) (by rw [c2.1]; exact hL)]
    · have c1 : lawI lw fa' L = _ := c1
      rw [cR] at c1
      omega
  · rw [if_neg c, if_neg c]
/-! the class -/
theorem sp_firstHolding {G : GC} {d : Nat} {sw : Bool} {f : FF} {Q : QQ} {q : Nat} {lw : FF} {L : Int32} (hq : isLw q) (hl : ∀ m, m < 7 → f (q + m) = lw m) (hL : LOK lw) (hQ : ∀ g : FF, (∀ x, x ≠ 33 → x ≠ 35 → g x = f x) → Q (some (.int (if lawI lw (f 34) L < (lw 0 0).toNatClampNeg then nI (lawI lw (f 34) L) else -1))) sw g) : XP G mX5_firstHolding (d + 2) 0 [.ref 33, .ref q, .int L, .null] [] sw f Q := by
  obtain ⟨R, hR, eR, cR, hlt⟩ := hL.R
  rw [cR] at hQ
  have hq2 : q + 6 < 43 ∧ q ≠ 33 ∧ q ≠ 35 ∧ q + 1 ≠ 33 ∧ q + 1 ≠ 35 ∧ q + 2 ≠ 33 ∧ q + 2 ≠ 35 ∧ q + 3 ≠ 33 ∧ q + 3 ≠ 35 ∧ q + 4 ≠ 33 ∧ q + 4 ≠ 35 ∧ q + 5 ≠ 33 ∧ q + 5 ≠ 35 ∧ q + 6 ≠ 33 ∧ q + 6 ≠ 35 := by rcases hq with rfl | rfl <;> omega
  have loop : ∀ (l i : Nat) (g : FF), i + l = R → (∀ x, x ≠ 33 → x ≠ 35 → g x = f x) → (∀ j, j < i → ¬ hld lw (f 34) L j) → XP G mX5_firstHolding (d + 2) 2 [.ref 33, .ref q, .int L, .int (nI i)] [] sw g Q := by
    intro l
    induction l with
    | zero =>
      intro i g hi go hn
      have e1 : i = R := by omega
      subst e1
      have gq : g q 0 = nI i := by
        have := hl 0 (by omega)
        rw [go q hq2.2.1 hq2.2.2.1, show f q = lw 0 from this]
        exact eR
      have le : g q 0 ≤ nI i := by rw [gq]; exact nI_le (Nat.le_refl _) (by omega)
      have e : lawI lw (f 34) L = i := by unfold lawI; rw [cR]; exact fstN_no hn
      refine bX5_firstHolding_2 hq (fun _ => ?_) (fun h => absurd le h) (fun h => absurd le h) (fun h => absurd le h) (fun h => absurd le h) (fun h => absurd le h) (fun h => absurd le h)
      have := hQ g go
      rw [if_neg (by omega)] at this
      exact this
    | succ l ih =>
      intro i g hi go hn
      have gq : g q 0 = nI R := by
        have := hl 0 (by omega)
        rw [go q hq2.2.1 hq2.2.2.1, show f q = lw 0 from this]
        exact eR
      have nle : ¬ g q 0 ≤ nI i := by rw [gq]; exact nI_ge (by omega) (by omega)
      have n16 : ¬ (16 : Int32) ≤ nI i := nI_ge (a := i) (b := 16) (by omega) (by omega)
      have vi : vp_in (nI i) 16 := vp_in_nI (by omega) (by omega)
      have ci : (nI i).toNatClampNeg = i := nI_clamp (by omega)
      have gm : ∀ m, m < 7 → m ≠ 0 → g (q + m) = lw m := fun m hm h0 => by
        rw [go _ (by rcases hq with rfl | rfl <;> omega) (by rcases hq with rfl | rfl <;> omega)]
        exact hl m hm
      have nx : ∀ g2 : FF, (∀ x, x ≠ 33 → x ≠ 35 → g2 x = f x) → ¬ hld lw (f 34) L i → XP G mX5_firstHolding (d + 2) 2 [.ref 33, .ref q, .int L, .int (nI i + 1)] [] sw g2 Q := by
        intro g2 go2 h
        rw [nI_1]
        refine ih (i + 1) g2 (by omega) go2 (fun j hj => ?_)
        by_cases y : j = i
        · subst y; exact h
        · exact hn j (by omega)
      obtain ⟨v, c, e, g1, g2, g3, g4, g5, g6, g7, g8, g9, g10⟩ := hL.2 i (hlt i (by omega))
      refine bX5_firstHolding_2 hq (fun h => absurd h nle) (fun _ h => absurd h n16) (fun _ _ => vi) (fun _ _ h => nx g go (fun z => h (by rw [ci, gm 1 (by omega) (by omega)]; exact z.1))) (fun _ _ _ => vi) (fun _ _ _ => vi) (fun _ _ h => ?_)
      rw [ci, gm 1 (by omega) (by omega)] at h
      rw [ci, gm 3 (by omega) (by omega), gm 4 (by omega) (by omega), g5, g6]
      refine sp_reckon hq g2 g3 (cd := true) (by rw [gm 5 (by omega) (by omega), gm 6 (by omega) (by omega)]; exact g9) (fun k k1 k2 => by rw [gm 5 (by omega) (by omega), gm 6 (by omega) (by omega)]; exact g7 k (by omega) k2) (fun g3' go3 => ?_)
      rw [gm 5 (by omega) (by omega), gm 6 (by omega) (by omega), go 34 (by omega) (by omega)]
      have ev : evL (lw 5) (lw 6) (f 34) e 241 c 0 (fun _ => 0) = evS lw (f 34) (lw 3 i) (lw 4 i) := by
        unfold evS
        rw [g5, g6, nI_clamp (by omega), nI_clamp (by omega)]
      rw [ev]
      have go4 : ∀ x, x ≠ 33 → x ≠ 35 → g3' x = f x := fun x x1 x2 => by rw [go3 x x1 x2]; exact go x x1 x2
      refine bX5_firstHolding_43 hq (fun z => nx g3' go4 (fun y => y.2 z)) (fun z => ?_)
      have eI : lawI lw (f 34) L = i := by unfold lawI; rw [cR]; exact fstN_eq (by omega) ⟨h, z⟩ hn
      have := hQ g3' go4
      rw [if_pos (by omega), eI] at this
      exact this
  exact bX5_firstHolding_0 hq (loop R 0 f (by omega) (fun _ _ _ => rfl) (fun j hj => absurd hj (by omega)))
theorem sp_valueOf {G : GC} {d : Nat} {sw : Bool} {f : FF} {Q : QQ} {q : Nat} {lw : FF} {L m : Int32} (hq : isLw q) (hl : ∀ m, m < 7 → f (q + m) = lw m) (hL : LOK lw) (h3 : L = 114 ∨ L = 119 ∨ L = 108) (hQ : ∀ g : FF, (∀ x, x ≠ 33 → x ≠ 35 → g x = f x) → Q (some (.int (lawV lw (f 34) L m))) sw g) : XP G mX5_valueOf (d + 3) 0 [.ref 33, .ref q, .int L, .int m, .null] [] sw f Q := by
  obtain ⟨R, hR, eR, cR, hlt⟩ := hL.R
  unfold lawV at hQ
  rw [cR] at hQ
  refine bX5_valueOf_0 hq (sp_firstHolding hq hl hL (fun g go => ?_))
  rw [cR]
  have gm : ∀ m, m < 7 → m ≠ 0 → g (q + m) = lw m := fun m hm h0 => by
    rw [go _ (by rcases hq with rfl | rfl <;> omega) (by rcases hq with rfl | rfl <;> omega)]
    exact hl m hm
  by_cases c : lawI lw (f 34) L < R
  · rw [if_pos c]
    have hd : hld lw (f 34) L (lawI lw (f 34) L) := by
      rcases fstN_cases (hld lw (f 34) L) (lw 0 0).toNatClampNeg with ⟨c1, c2, c3⟩ | ⟨c1, c2⟩
      · exact c2
      · have c1 : lawI lw (f 34) L = _ := c1
        rw [cR] at c1
        omega
    generalize lawI lw (f 34) L = i at c hd hQ ⊢
    have vi : vp_in (nI i) 16 := vp_in_nI (by omega) (by omega)
    have ci : (nI i).toNatClampNeg = i := nI_clamp (by omega)
    obtain ⟨v, c', e, g1, g2, g3, g4, g5, g6, g7, g8, g9, g10⟩ := hL.2 i (hlt i c)
    refine bX5_valueOf_6 hq (fun _ => vi) (fun _ => vi) (fun _ => ?_) (fun h => absurd h (nI_ne_m1 (by omega)))
    rw [ci, gm 2 (by omega) (by omega), gm 3 (by omega) (by omega), g4, g5]
    refine sp_reckon hq g1 (by omega) (cd := false) (by rw [gm 5 (by omega) (by omega), gm 6 (by omega) (by omega)]; exact g8 (g10 (by rw [hd.1]; exact h3))) (fun k k1 k2 => by rw [gm 5 (by omega) (by omega), gm 6 (by omega) (by omega)]; exact g7 k k1 (by omega)) (fun g3' go3 => bX5_valueOf_37 hq ?_)
    rw [gm 5 (by omega) (by omega), gm 6 (by omega) (by omega), go 34 (by omega) (by omega)]
    have ev : evL (lw 5) (lw 6) (f 34) c' 241 v 0 (fun _ => 0) = evS lw (f 34) (lw 2 i) (lw 3 i) := by
      unfold evS
      rw [g4, g5, nI_clamp (by omega), nI_clamp (by omega)]
    rw [ev]
    have := hQ g3' (fun x x1 x2 => by rw [go3 x x1 x2]; exact go x x1 x2)
    rw [if_pos c] at this
    exact this
  · rw [if_neg c]
    refine bX5_valueOf_6 hq (fun h => absurd rfl h) (fun h => absurd rfl h) (fun h => absurd rfl h) (fun _ => ?_)
    have := hQ g go
    rw [if_neg c] at this
    exact this
/-! the reference -/
theorem bnd_alt {x m : Int32} (hm : 0 ≤ m.toInt) : (0 ≤ x → x ≤ m → bnd x m = x) ∧ (0 ≤ x → ¬ x ≤ m → bnd x m = m) ∧ (¬ 0 ≤ x → bnd x m = 0) := by
  have e0 : (0 : Int32).toInt = 0 := rfl
  unfold bnd
  refine ⟨fun h1 h2 => ?_, fun h1 h2 => ?_, fun h1 => ?_⟩
  · rw [if_neg (Int32.not_lt.mpr h2)]
    by_cases c : 0 < x
    · rw [if_pos c]
    · rw [if_neg c]
      exact Int32.le_antisymm h1 (Int32.not_lt.mp c)
  · have c := Int32.not_le.mp h2
    rw [if_pos c]
    by_cases c2 : 0 < m
    · rw [if_pos c2]
    · rw [if_neg c2]
      have := Int32.le_iff_toInt_le.mp (Int32.not_lt.mp c2)
      apply Int32.toInt_inj.mp
      omega
  · have c := Int32.lt_iff_toInt_lt.mp (Int32.not_le.mp h1)
    have n1 : ¬ m < x := fun z => by have := Int32.lt_iff_toInt_lt.mp z; omega
    rw [if_neg n1, if_neg (fun z => h1 (Int32.le_of_lt z))]
theorem sp_byLaw {G : GC} {d : Nat} {sw : Bool} {f : FF} {Q : QQ} {lw : FF} {L m : Int32} (hM : LMd lw f) (h3 : L = 114 ∨ L = 119 ∨ L = 108) (hm : 0 ≤ m.toInt) (hQ : ∀ g : FF, (∀ x, x ≠ 102 → g x = f x) → Q (some (.int (lawV lw (f 103) L m))) sw g) : XP G mX11_byLaw (d + 2) 0 [.ref 82, .int L, .int m, .null, .null] [] sw f Q := by
  have hL := hM.ok
  obtain ⟨R, hR, eR, cR, hlt⟩ := hL.R
  unfold lawV at hQ
  rw [cR] at hQ
  have e19 : f 82 19 = nI R := by rw [← hM.1]; exact eR
  have loop : ∀ (l i : Nat) (g : FF) (v4 : Value), i + l = R → (∀ x, x ≠ 102 → g x = f x) → (∀ j, j < i → ¬ hld lw (f 103) L j) → XP G mX11_byLaw (d + 2) 2 [.ref 82, .int L, .int m, .int (nI i), v4] [] sw g Q := by
    intro l
    induction l with
    | zero =>
      intro i g v4 hi go hn
      have e1 : i = R := by omega
      subst e1
      have le : g 82 19 ≤ nI i := by rw [go 82 (by omega), e19]; exact nI_le (Nat.le_refl _) (by omega)
      have e : lawI lw (f 103) L = i := by unfold lawI; rw [cR]; exact fstN_no hn
      refine bX11_byLaw_2 (fun _ => ?_) (fun h => absurd le h) (fun h => absurd le h) (fun h => absurd le h) (fun h => absurd le h) (fun h => absurd le h)
      have := hQ g go
      rw [if_neg (by omega)] at this
      exact this
    | succ l ih =>
      intro i g v4 hi go hn
      have nle : ¬ g 82 19 ≤ nI i := by rw [go 82 (by omega), e19]; exact nI_ge (by omega) (by omega)
      have vi : vp_in (nI i) 16 := vp_in_nI (by omega) (by omega)
      have ci : (nI i).toNatClampNeg = i := nI_clamp (by omega)
      have nx : ∀ (g2 : FF) (v4 : Value), (∀ x, x ≠ 102 → g2 x = f x) → ¬ hld lw (f 103) L i → XP G mX11_byLaw (d + 2) 2 [.ref 82, .int L, .int m, .int (nI i + 1), v4] [] sw g2 Q := by
        intro g2 v4 go2 h
        rw [nI_1]
        refine ih (i + 1) g2 v4 (by omega) go2 (fun j hj => ?_)
        by_cases y : j = i
        · subst y; exact h
        · exact hn j (by omega)
      obtain ⟨k1, k2, k3, k4, v, c, e, g1, g2, g3, g4, g5, g6, g7, g8, g9, g10⟩ := hM.2.2 i (hlt i (by omega))
      have l1 : g 98 (nI i).toNatClampNeg = lw 1 i := by rw [ci, go 98 (by omega), k1]
      have l2 : g 99 (nI i).toNatClampNeg = nI v := by rw [ci, go 99 (by omega), ← k2, g4]
      have l3 : g 100 (nI i).toNatClampNeg = nI c := by rw [ci, go 100 (by omega), ← k3, g5]
      have l4 : g 101 (nI i).toNatClampNeg = nI e := by rw [ci, go 101 (by omega), ← k4, g6]
      refine bX11_byLaw_2 (fun h => absurd h nle) (fun _ => vi) (fun _ h => nx g v4 go (fun z => h (l1.trans z.1))) (fun _ _ => vi) (fun _ _ => vi) (fun _ h => ?_)
      rw [l1] at h
      rw [l3, l4]
      refine sp_comesTo g2 g3 g9 (fun k y1 y2 => by rw [go 97 (by omega)]; exact g7 k (by omega) y2) (fun g3' go3 => ?_)
      rw [go 103 (by omega)]
      have ev : evL (lw 5) (lw 6) (f 103) e 241 c 0 (fun _ => 0) = evS lw (f 103) (lw 3 i) (lw 4 i) := by
        unfold evS
        rw [g5, g6, nI_clamp (by omega), nI_clamp (by omega)]
      rw [ev]
      have b01 := evS_01 hL (f 103) (hlt i (by omega))
      have go4 : ∀ x, x ≠ 102 → g3' x = f x := fun x x1 => by rw [go3 x x1]; exact go x x1
      refine bX11_byLaw_36 (fun _ => vi) (fun _ => vi) (fun z => ?_) (fun z => nx g3' v4 go4 (fun y => y.2 (b01.resolve_right z)))
      have hz : evS lw (f 103) (lw 3 i) (lw 4 i) ≠ 0 := by rw [z]; decide
      have eI : lawI lw (f 103) L = i := by unfold lawI; rw [cR]; exact fstN_eq (by omega) ⟨h, hz⟩ hn
      have l2' : g3' 99 (nI i).toNatClampNeg = nI v := by rw [go3 99 (by omega)]; exact l2
      have l3' : g3' 100 (nI i).toNatClampNeg = nI c := by rw [go3 100 (by omega)]; exact l3
      rw [l2', l3']
      refine sp_comesTo g1 (by omega) (g8 (g10 (by rw [h]; exact h3))) (fun k y1 y2 => by rw [go4 97 (by omega)]; exact g7 k y1 (by omega)) (fun g5' go5 => ?_)
      rw [go4 103 (by omega)]
      have ev2 : evL (lw 5) (lw 6) (f 103) c 241 v 0 (fun _ => 0) = evS lw (f 103) (lw 2 i) (lw 3 i) := by
        unfold evS
        rw [g4, g5, nI_clamp (by omega), nI_clamp (by omega)]
      rw [ev2]
      have fin := hQ g5' (fun x x1 => by rw [go5 x x1]; exact go4 x x1)
      rw [if_pos (by omega), eI] at fin
      obtain ⟨b1, b2, b3⟩ := bnd_alt (x := evS lw (f 103) (lw 2 i) (lw 3 i)) hm
      exact bX11_byLaw_59 (fun y1 y2 => by rw [b1 y1 y2] at fin; exact fin) (fun y1 y2 => by rw [b2 y1 y2] at fin; exact fin) (fun y1 => by rw [b3 y1] at fin; exact fin)
  exact bX11_byLaw_0 (loop R 0 f .null (by omega) (fun _ _ => rfl) (fun j hj => absurd hj (by omega)))
theorem sp_holdsAny {G : GC} {d : Nat} {sw : Bool} {f : FF} {Q : QQ} {lw : FF} {L : Int32} (hM : LMd lw f) (hy : lawH lw (f 103) L → ∀ g : FF, (∀ x, x ≠ 102 → g x = f x) → Q (some (.int 1)) sw g) (hn0 : ¬ lawH lw (f 103) L → ∀ g : FF, (∀ x, x ≠ 102 → g x = f x) → Q (some (.int 0)) sw g) : XP G mX11_holdsAny (d + 2) 0 [.ref 82, .int L, .null] [] sw f Q := by
  have hL := hM.ok
  obtain ⟨R, hR, eR, cR, hlt⟩ := hL.R
  unfold lawH at hy hn0
  rw [cR] at hy hn0
  have e19 : f 82 19 = nI R := by rw [← hM.1]; exact eR
  have loop : ∀ (l i : Nat) (g : FF), i + l = R → (∀ x, x ≠ 102 → g x = f x) → (∀ j, j < i → ¬ hld lw (f 103) L j) → XP G mX11_holdsAny (d + 2) 2 [.ref 82, .int L, .int (nI i)] [] sw g Q := by
    intro l
    induction l with
    | zero =>
      intro i g hi go hn
      have e1 : i = R := by omega
      subst e1
      have le : g 82 19 ≤ nI i := by rw [go 82 (by omega), e19]; exact nI_le (Nat.le_refl _) (by omega)
      have e : lawI lw (f 103) L = i := by unfold lawI; rw [cR]; exact fstN_no hn
      exact bX11_holdsAny_2 (fun _ => hn0 (by omega) g go) (fun h => absurd le h) (fun h => absurd le h) (fun h => absurd le h) (fun h => absurd le h) (fun h => absurd le h)
    | succ l ih =>
      intro i g hi go hn
      have nle : ¬ g 82 19 ≤ nI i := by rw [go 82 (by omega), e19]; exact nI_ge (by omega) (by omega)
      have vi : vp_in (nI i) 16 := vp_in_nI (by omega) (by omega)
      have ci : (nI i).toNatClampNeg = i := nI_clamp (by omega)
      have nx : ∀ (g2 : FF), (∀ x, x ≠ 102 → g2 x = f x) → ¬ hld lw (f 103) L i → XP G mX11_holdsAny (d + 2) 2 [.ref 82, .int L, .int (nI i + 1)] [] sw g2 Q := by
        intro g2 go2 h
        rw [nI_1]
        refine ih (i + 1) g2 (by omega) go2 (fun j hj => ?_)
        by_cases y : j = i
        · subst y; exact h
        · exact hn j (by omega)
      obtain ⟨k1, k2, k3, k4, v, c, e, g1, g2, g3, g4, g5, g6, g7, g8, g9, g10⟩ := hM.2.2 i (hlt i (by omega))
      have l1 : g 98 (nI i).toNatClampNeg = lw 1 i := by rw [ci, go 98 (by omega), k1]
      have l3 : g 100 (nI i).toNatClampNeg = nI c := by rw [ci, go 100 (by omega), ← k3, g5]
      have l4 : g 101 (nI i).toNatClampNeg = nI e := by rw [ci, go 101 (by omega), ← k4, g6]
      refine bX11_holdsAny_2 (fun h => absurd h nle) (fun _ => vi) (fun _ h => nx g go (fun z => h (l1.trans z.1))) (fun _ _ => vi) (fun _ _ => vi) (fun _ h => ?_)
      rw [l1] at h
      rw [l3, l4]
      refine sp_comesTo g2 g3 g9 (fun k y1 y2 => by rw [go 97 (by omega)]; exact g7 k (by omega) y2) (fun g3' go3 => ?_)
      rw [go 103 (by omega)]
      have ev : evL (lw 5) (lw 6) (f 103) e 241 c 0 (fun _ => 0) = evS lw (f 103) (lw 3 i) (lw 4 i) := by
        unfold evS
        rw [g5, g6, nI_clamp (by omega), nI_clamp (by omega)]
      rw [ev]
      have b01 := evS_01 hL (f 103) (hlt i (by omega))
      have go4 : ∀ x, x ≠ 102 → g3' x = f x := fun x x1 => by rw [go3 x x1]; exact go x x1
      refine bX11_holdsAny_36 (fun z => nx g3' go4 (fun y => y.2 (b01.resolve_right z))) (fun z => ?_)
      have hz : evS lw (f 103) (lw 3 i) (lw 4 i) ≠ 0 := by rw [z]; decide
      have eI : lawI lw (f 103) L = i := by unfold lawI; rw [cR]; exact fstN_eq (by omega) ⟨h, hz⟩ hn
      exact hy (by omega) g3' go4
  exact bX11_holdsAny_0 (loop R 0 f (by omega) (fun _ _ => rfl) (fun j hj => absurd hj (by omega)))
