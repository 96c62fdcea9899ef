/-! ===== the class's flow ===== -/
theorem sp_push {G : GC} {d : Nat} {sw : Bool} {f : FF} {Q : QQ} {adj : Nat → Nat → Bool} {x R : Nat → Nat} {D s q : Nat} (hp : PO adj x D s q) (hD : D ≤ 7) (h8 : f 8 q = nI D) (h9 : ∀ j, j < D → f 9 (x j) = nI (x (j + 1))) (h7 : ∀ i, i < 64 → f 7 i = nI (R i)) (hR : ∀ i, i < 64 → R i ≤ 18) (h0 : ∀ j, j < D → 0 < R (8 * x (j + 1) + x j))
    (hQ : ∀ (m : Nat) (g : FF), 1 ≤ m → (∀ j, j < D → m ≤ R (8 * x (j + 1) + x j)) → (∀ c, c ≠ 7 → g c = f c) → (∀ i, i < 64 → g 7 i = nI (pushP R x m D i)) → Q (some (.int (nI m))) sw g) : XP G mX3_push d 0 [.ref 3, .int (nI q), .null, .null, .null] [] sw f Q := by
  have hq8 : q < 8 := by rw [← hp.1]; exact hp.2.2.1 0 (by omega)
  have vq : vp_in (nI q) 8 := vp_in_nI hq8 (by omega)
  have cq : (nI q).toNatClampNeg = q := nI_clamp (by omega)
  have second : ∀ (m : Nat), 1 ≤ m → (∀ j, j < D → m ≤ R (8 * x (j + 1) + x j)) → ∀ (l j : Nat) (g : FF), j + l = D → (∀ c, c ≠ 7 → g c = f c) → (∀ i, i < 64 → g 7 i = nI (pushP R x m j i)) → XP G mX3_push d 58 [.ref 3, .int (nI q), .int (nI m), .int (nI (x j)), .int (nI j)] [] sw g Q := by
    intro m hm hmR l
    induction l with
    | zero =>
      intro j g hj go g7
      have e1 : j = D := by omega
      subst e1
      have le : g 8 (nI q).toNatClampNeg ≤ nI j := by rw [cq, go 8 (by omega), h8]; exact nI_le (Nat.le_refl _) (by omega)
      exact bX3_push_58 vq (fun _ => hQ m g hm hmR go g7) (fun h => absurd le h) (fun h => absurd le h) (fun h => absurd le h) (fun h => absurd le h) (fun h => absurd le h) (fun h => absurd le h) (fun h => absurd le h) (fun h => absurd le h)
    | succ l ih =>
      intro j g hj go g7
      have nle : ¬ g 8 (nI q).toNatClampNeg ≤ nI j := by rw [cq, go 8 (by omega), h8]; exact nI_ge (by omega) (by omega)
      have xj := hp.2.2.1 j (by omega)
      have xj1 := hp.2.2.1 (j + 1) (by omega)
      have xne := hp.2.2.2.1 j (j + 1) (by omega) (by omega)
      have vx : vp_in (nI (x j)) 8 := vp_in_nI xj (by omega)
      have b9 : g 9 (nI (x j)).toNatClampNeg = nI (x (j + 1)) := by rw [nI_clamp (by omega), go 9 (by omega)]; exact h9 j (by omega)
      have cA : (nI (8 * x (j + 1) + x j)).toNatClampNeg = 8 * x (j + 1) + x j := nI_clamp (by omega)
      have cB : (nI (8 * x j + x (j + 1))).toNatClampNeg = 8 * x j + x (j + 1) := nI_clamp (by omega)
      have AB : 8 * x j + x (j + 1) ≠ 8 * x (j + 1) + x j := by omega
      have mA : m ≤ pushP R x m j (8 * x (j + 1) + x j) := by rw [pushP_keep hp (by omega) j (Nat.le_refl _)]; exact hmR j (by omega)
      have n97 : (9 : Nat) ≠ 7 := by omega
      refine bX3_push_58 vq (fun h => absurd h nle) (fun _ => vx) (fun _ => ?_) (fun _ => ?_) (fun _ => vx) (fun _ => ?_) (fun _ => ?_) (fun _ => vx) (fun _ => ?_)
      · rw [b9, e8]; exact vp_in_nI (by omega) (by omega)
      · rw [b9, e8]; exact vp_in_nI (by omega) (by omega)
      · rw [upd2_ne _ _ _ n97, b9, e8]; exact vp_in_nI (by omega) (by omega)
      · rw [upd2_ne _ _ _ n97, b9, e8]; exact vp_in_nI (by omega) (by omega)
      · simp only [upd2_ne _ _ _ n97, b9, e8, cA, cB, nI_1]
        refine ih (j + 1) _ (by omega) (fun c hc => by rw [upd2_ne _ _ _ hc, upd2_ne _ _ _ hc]; exact go c hc) (fun i hi => ?_)
        rw [upd2_self, upd2_self]
        show _ = nI (updN (updN _ _ _) _ _ i)
        by_cases y : i = 8 * x j + x (j + 1)
        · subst y
          rw [pk_us, updN_s, pk_un AB, g7 _ hi, nI_add]
        · rw [pk_un y, updN_n y]
          by_cases y2 : i = 8 * x (j + 1) + x j
          · subst y2
            rw [pk_us, updN_s, g7 _ hi, pk_sub mA]
          · rw [pk_un y2, updN_n y2, g7 i hi]
  have first : ∀ (l j m : Nat), j + l = D → 1 ≤ m → m ≤ 72 → (∀ i, i < j → m ≤ R (8 * x (i + 1) + x i)) → XP G mX3_push d 8 [.ref 3, .int (nI q), .int (nI m), .int (nI (x j)), .int (nI j)] [] sw f Q := by
    intro l
    induction l with
    | zero =>
      intro j m hj hm hm2 hmR
      have e1 : j = D := by omega
      subst e1
      have le : f 8 (nI q).toNatClampNeg ≤ nI j := by rw [cq, h8]; exact nI_le (Nat.le_refl _) (by omega)
      refine bX3_push_8 vq (fun _ => ?_) (fun h => absurd le h) (fun h => absurd le h) (fun h => absurd le h) (fun h => absurd le h)
      have := second m hm hmR j 0 f (by omega) (fun _ _ => rfl) h7
      rw [hp.1] at this
      exact this
    | succ l ih =>
      intro j m hj hm hm2 hmR
      have nle : ¬ f 8 (nI q).toNatClampNeg ≤ nI j := by rw [cq, h8]; exact nI_ge (by omega) (by omega)
      have xj := hp.2.2.1 j (by omega)
      have xj1 := hp.2.2.1 (j + 1) (by omega)
      have vx : vp_in (nI (x j)) 8 := vp_in_nI xj (by omega)
      have b9 : f 9 (nI (x j)).toNatClampNeg = nI (x (j + 1)) := by rw [nI_clamp (by omega)]; exact h9 j (by omega)
      refine bX3_push_8 vq (fun h => absurd h nle) (fun _ => vx) (fun _ => by rw [b9, e8]; exact vp_in_nI (by omega) (by omega)) (fun _ => vx) (fun _ => ?_)
      rw [b9, e8, nI_clamp (by omega), h7 _ (by omega), nI_1]
      have r18 := hR (8 * x (j + 1) + x j) (by omega)
      by_cases c : R (8 * x (j + 1) + x j) < m
      · rw [if_pos (nI_lt c (by omega))]
        refine ih (j + 1) _ (by omega) (h0 j (by omega)) (by omega) (fun i hi => ?_)
        by_cases y : i = j
        · subst y; exact Nat.le_refl _
        · have := hmR i (by omega)
          omega
      · rw [if_neg (nI_nlt (by omega) (by omega))]
        refine ih (j + 1) _ (by omega) hm hm2 (fun i hi => ?_)
        by_cases y : i = j
        · subst y; omega
        · exact hmR i (by omega)
  have := first D 0 72 (by omega) (by omega) (Nat.le_refl _) (fun i hi => absurd hi (by omega))
  rw [hp.1] at this
  exact bX3_push_0 this
def capF (mo : Nat) (f : FF) (i : Nat) : Nat := min mo (f 86 i).toNatClampNeg
theorem bnd_min {c mo : Nat} (hc : c ≤ 9) (hm : mo ≤ 9) : bnd (nI c - 0) (nI mo) = nI (min mo c) := by
  rw [show nI c - 0 = nI c by simp]
  unfold bnd
  by_cases h : mo < c
  · rw [if_pos (nI_lt h (by omega)), Nat.min_eq_left (by omega)]
    by_cases z : mo = 0
    · subst z; rfl
    · rw [if_pos (show 0 < nI mo from nI_lt (a := 0) (by omega) (by omega))]
  · rw [if_neg (nI_nlt (by omega) (by omega)), Nat.min_eq_right (by omega)]
    by_cases z : c = 0
    · subst z; rfl
    · rw [if_pos (show 0 < nI c from nI_lt (a := 0) (by omega) (by omega))]
theorem FI_start {C : Nat → Nat} (hC : ∀ i, i < 64 → C i ≤ 9) (e q : Nat) : FI C e q C 0 := by
  refine ⟨fun u v hu hv => ?_, fun S _ _ => rfl⟩
  have h1 := hC (8 * u + v) (by omega)
  have h2 := hC (8 * v + u) (by omega)
  omega
theorem capF_le {f : FF} (hN : RN f) {mo : Nat} (hm : mo ≤ 9) : ∀ i, i < 64 → capF mo f i ≤ 9 := fun i hi => by unfold capF; omega
theorem sp_flow {G : GC} {d : Nat} {sw : Bool} {f : FF} {Q : QQ} {e q mo : Nat} (he : e < 8) (hq : q < 8) (hne : e ≠ q) (hN : RN f) (hmo : mo ≤ 9) (hQ : ∀ (n : Nat) (g : FF), (∀ c, (c < 5 ∨ 10 < c ∨ c = 6) → g c = f c) → isFl (capF mo f) e q n → n ≤ 63 → Q (some (.int (nI n))) sw g) : XP G mX3_flow (d + 2) 0 [.ref 3, .int (nI e), .int (nI q), .int (nI mo), .null, .null] [] sw f Q := by
  have hC := capF_le hN hmo
  have vq : vp_in (nI q) 8 := vp_in_nI hq (by omega)
  have cq : (nI q).toNatClampNeg = q := nI_clamp (by omega)
  refine bX3_flow_0 (sp_leaveRoom sh6 (by omega) (fun g0 go0 g07 => bX3_flow_9 ?_))
  have start : ∀ i, i < 64 → g0 7 i = nI (capF mo f i) := by
    intro i hi
    obtain ⟨k1, k2, k3⟩ := hN.1 i hi
    obtain ⟨c, hc, ec⟩ := isN_nI k2 (by omega)
    rw [g07 i hi, k3, ec, bnd_min hc hmo]
    unfold capF
    rw [k1, ec, nI_clamp (by omega)]
  have loop : ∀ (l r n : Nat) (R : Nat → Nat) (g : FF), r + l = 72 → r ≤ n → FI (capF mo f) e q R n → (∀ c, (c < 5 ∨ 10 < c ∨ c = 6) → g c = f c) → (∀ i, i < 64 → g 7 i = nI (R i)) → XP G mX3_flow (d + 2) 15 [.ref 3, .int (nI e), .int (nI q), .int (nI mo), .int (nI n), .int (nI r)] [] sw g Q := by
    intro l
    induction l with
    | zero =>
      intro r n R g hr hrn hF go g7
      have := hF.n63 hC he hq hne
      omega
    | succ l ih =>
      intro r n R g hr hrn hF go g7
      have h63 := hF.n63 hC he hq hne
      have eb : bfs (adjC g) e = bfs (adjR R) e := bfs_cg he (fun u v hu hv => by
        rw [Bool.eq_iff_iff]
        unfold adjC adjR
        rw [decide_eq_true_iff, decide_eq_true_iff, g7 _ (by omega)]
        have := hF.le (i := 8 * u + v) (by omega)
        constructor
        · intro h z; exact h (by rw [z]; decide)
        · intro h; exact nI_nle (by omega) (by omega))
      refine bX3_flow_15 (fun h => absurd h (nI_ge (a := r) (b := 72) (by omega) (by omega))) (fun _ => sp_spread he (fun g2 hc => ?_))
      rw [eb] at hc
      obtain ⟨hB, hcl⟩ := bfs_ok (adjR R) he
      have bl := bfs_le (adj := adjR R) he q
      generalize bfs (adjR R) e = t at hc hB hcl bl
      obtain ⟨c1, c2, c3, c4⟩ := hc
      have go2 : ∀ c, (c < 5 ∨ 10 < c ∨ c = 6) → g2 c = f c := fun c hc => by rw [c1 c (by omega) (by omega) (by omega)]; exact go c hc
      have g27 : ∀ i, i < 64 → g2 7 i = nI (R i) := fun i hi => by rw [c1 7 (by omega) (by omega) (by omega)]; exact g7 i hi
      have f8 : g2 8 (nI q).toNatClampNeg = eF (t.1 q) := by rw [cq]; exact c2 q hq
      refine bX3_flow_27 vq (fun h => ?_) (fun h => ?_)
      · rw [f8, eF_m1 (by omega)] at h
        obtain ⟨D, hD⟩ : ∃ D, t.1 q = D + 1 := ⟨t.1 q - 1, by omega⟩
        obtain ⟨hp, lv⟩ := bi_PO hB hD
        refine sp_push hp (by omega) (by rw [c2 q hq, hD, eF_s]) (fun j hj => c3 _ (hp.2.2.1 j (by omega)) (by have := lv j (by omega); omega)) g27 (fun i hi => hF.le hi) (fun j hj => ?_) (fun m g3 hm hmR go3 g37 => bX3_flow_48 ?_)
        · have := of_decide_eq_true (hp.2.2.2.2 j hj)
          omega
        · rw [nI_1, nI_add]
          exact ih (r + 1) (n + m) _ g3 (by omega) (by omega) (hF.push hp hmR) (fun c hc => by rw [go3 c (by omega)]; exact go2 c hc) g37
      · rw [f8, eF_m1 (by omega)] at h
        exact hQ n g2 go2 (hF.done hB hcl h) h63
  exact loop 72 0 0 (capF mo f) g0 (by omega) (Nat.le_refl _) (FI_start hC e q) (fun c hc => go0 c (by omega)) start
