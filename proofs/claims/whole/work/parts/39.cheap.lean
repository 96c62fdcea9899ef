/-! ===== cheapest ===== -/
theorem n_60 : (60 : Int32) = nI 60 := rfl
theorem n_1000000 : (1000000 : Int32) = nI 1000000 := rfl
def okT (F P : Nat → Nat) (i : Nat) : Prop := (1 ≤ F i ∧ F i ≤ 60) ∧ P i ≠ 0
theorem in160 {a : Nat} (ha : a < 256) : (1 ≤ nI a ∧ nI a ≤ 60) ↔ (1 ≤ a ∧ a ≤ 60) := by
  rw [n_1, n_60, nI_leI (by omega) (by omega), nI_leI (by omega) (by omega)]
theorem sp_readTariffs {G : GC} {d : Nat} {sw : Bool} {f : FF} {Q : QQ} {n N : Nat} (hn : n ≤ 16) (hT : TK f N) (hN : 2 * n ≤ N)
    (hy : (∀ j, j < n → okT (fun k => byt f (2 * k)) (fun k => byt f (2 * k + 1)) j) → ∀ g, OS f g → (∀ j, j < n → g 15 j = nI (byt f (2 * j)) ∧ g 16 j = nI (byt f (2 * j + 1))) → Q (some (.int 1)) sw g)
    (hz : ∀ j, j < n → ¬ okT (fun k => byt f (2 * k)) (fun k => byt f (2 * k + 1)) j → (∀ m, m < j → okT (fun k => byt f (2 * k)) (fun k => byt f (2 * k + 1)) m) → ∀ g, OS f g → Q (some (.int 0)) sw g) : XP G mX6_readTariffs (d + 2) 0 [.ref 14, .int (nI n), .null] [] sw f Q := by
  refine bX6_readTariffs_0 (sp_readPairs hn hT hN (fun g os hr => bX6_readTariffs_5 ?_))
  have loop : ∀ (k i : Nat), i + k = n → (∀ m, m < i → okT (fun k => byt f (2 * k)) (fun k => byt f (2 * k + 1)) m) → XP G mX6_readTariffs (d + 2) 7 [.ref 14, .int (nI n), .int (nI i)] [] sw g Q := by
    intro k
    induction k with
    | zero =>
      intro i hi hm
      have z : i = n := by omega
      subst z
      have hle : nI i ≤ nI i := nI_le (Nat.le_refl _) (by omega)
      exact bX6_readTariffs_7 (fun _ => hy hm g os hr) (fun h => absurd hle h) (fun h => absurd hle h) (fun h => absurd hle h) (fun h => absurd hle h) (fun h => absurd hle h)
    | succ k ih =>
      intro i hi hm
      have nle : ¬ nI n ≤ nI i := nI_ge (by omega) (by omega)
      have b1 := byt_lt f (2 * i)
      have b2 := byt_lt f (2 * i + 1)
      have ci : (nI i).toNatClampNeg = i := nI_clamp (by omega)
      have e1 : (1 ≤ g 15 i ∧ g 15 i ≤ 60) ↔ (1 ≤ byt f (2 * i) ∧ byt f (2 * i) ≤ 60) := by rw [(hr i (by omega)).1]; exact in160 b1
      have e0 : g 16 i = 0 ↔ byt f (2 * i + 1) = 0 := by rw [(hr i (by omega)).2]; exact nI_eq (b := 0) (by omega) (by omega)
      have vi : vp_in (nI i) 16 := vp_in_nI (by omega) (by omega)
      refine bX6_readTariffs_7 (fun h => absurd h nle) (fun _ => vi) (fun _ h => ?_) (fun _ _ => vi) (fun _ h h2 => ?_) (fun _ h h2 => ?_)
      · rw [ci, e1] at h
        exact hz i (by omega) (fun z => h z.1) hm g os
      · rw [ci, e1] at h
        rw [ci, e0] at h2
        rw [nI_1]
        refine ih (i + 1) (by omega) (fun m hm2 => ?_)
        by_cases y : m = i
        · subst y; exact ⟨h, h2⟩
        · exact hm m (by omega)
      · rw [ci, e0] at h2
        exact hz i (by omega) (fun z => z.2 h2) hm g os
  exact loop n 0 (by omega) (fun m h => absurd h (by omega))
theorem sp_leastPence {G : GC} {d : Nat} {sw : Bool} {f : FF} {Q : QQ} {F P : Nat → Nat} {n k mi : Nat} (hn : n ≤ 5) (hk : k ≤ n) (hmi : mi ≤ 240) (hF : ∀ i, i < n → 1 ≤ F i) (hF2 : ∀ i, F i < 256) (hP : ∀ i, P i < 256) (hf : ∀ j, j < n → f 15 j = nI (F j) ∧ f 16 j = nI (P j))
    (hq : ∀ g, (∀ c, c ≠ 18 → g c = f c) → (∀ m, m ≤ mi → g 18 m = nI (L F P n k m)) → Q (some (.int (nI (L F P n k mi)))) sw g) : XP G mX6_leastPence d 0 [.ref 14, .int (nI k), .int (nI n), .int (nI mi), .null, .null] [] sw f Q := by
  have outer : ∀ (l m : Nat) (g : FF) (v5 : Value), 1 ≤ m → m + l = mi + 1 → (∀ c, c ≠ 18 → g c = f c) → (∀ j, j < m → g 18 j = nI (L F P n k j)) → XP G mX6_leastPence d 10 [.ref 14, .int (nI k), .int (nI n), .int (nI mi), .int (nI m), v5] [] sw g Q := by
    intro l
    induction l with
    | zero =>
      intro m g v5 hm1 hm go gr
      have hlt : nI mi < nI m := nI_lt (by omega) (by omega)
      refine bX6_leastPence_10 (fun _ => vp_in_nI (by omega) (by omega)) (fun _ => ?_) (fun h => absurd hlt h) (fun h => absurd hlt h)
      rw [nI_clamp (by omega), gr mi (by omega)]
      exact hq g go (fun j hj => gr j (by omega))
    | succ l ih =>
      intro m g v5 hm1 hm go gr
      have nlt : ¬ nI mi < nI m := nI_nlt (by omega) (by omega)
      have vm : vp_in (nI m) 241 := vp_in_nI (by omega) (by omega)
      have cm : (nI m).toNatClampNeg = m := nI_clamp (by omega)
      refine bX6_leastPence_10 (fun h => absurd h nlt) (fun h => absurd h nlt) (fun _ => vm) (fun _ => ?_)
      rw [cm]
      have low : lpI F P (L F P n k) k m k = 1000000 := by
        rcases lpI_or (F := F) (P := P) (A := L F P n k) (fr := k) (m := m) k with z | ⟨j, j1, j2, _⟩
        · exact z
        · omega
      have inner : ∀ (q i : Nat) (u : FF), k ≤ i → i + q = n → (∀ c, c ≠ 18 → u c = f c) → (∀ j, j < m → u 18 j = nI (L F P n k j)) → u 18 m = nI (lpI F P (L F P n k) k m i) → XP G mX6_leastPence d 28 [.ref 14, .int (nI k), .int (nI n), .int (nI mi), .int (nI m), .int (nI i)] [] sw u Q := by
        intro q
        induction q with
        | zero =>
          intro i u hi1 hi uo ur um
          have z : i = n := by omega
          subst z
          have hle : nI i ≤ nI i := nI_le (Nat.le_refl _) (by omega)
          refine bX6_leastPence_28 (fun _ => ?_) (fun h => absurd hle h) (fun h => absurd hle h) (fun h => absurd hle h) (fun h => absurd hle h) (fun h => absurd hle h) (fun h => absurd hle h)
          rw [nI_1]
          refine ih (m + 1) u _ (by omega) (by omega) uo (fun j hj => ?_)
          by_cases y : j = m
          · rw [y, um]
            obtain ⟨m', rfl⟩ : ∃ m', m = m' + 1 := ⟨m - 1, by omega⟩
            rw [L_succ hF]
          · exact ur j (by omega)
        | succ q iq =>
          intro i u hi1 hi uo ur um
          have nle : ¬ nI n ≤ nI i := nI_ge (by omega) (by omega)
          have vi : vp_in (nI i) 16 := vp_in_nI (by omega) (by omega)
          have ci : (nI i).toNatClampNeg = i := nI_clamp (by omega)
          have f15 : u 15 i = nI (F i) := by rw [uo 15 (by omega)]; exact (hf i (by omega)).1
          have f16 : u 16 i = nI (P i) := by rw [uo 16 (by omega)]; exact (hf i (by omega)).2
          have b1 := hF i (by omega)
          have b2 := hF2 i
          have b3 := hP i
          have b4 := L_far (P := P) (k := k) hF (m - F i)
          have b5 := lpI_far F P (L F P n k) k m i
          have ix : (if 0 < nI m - u 15 i then nI m - u 15 i else 0) = nI (m - F i) := by rw [f15]; exact mx0 (by omega) (by omega)
          have cx : (nI (m - F i)).toNatClampNeg = m - F i := nI_clamp (by omega)
          refine bX6_leastPence_28 (fun h => absurd h nle) (fun _ => vm) (fun _ => vi) (fun _ => by rw [ci, ix]; exact vp_in_nI (by omega) (by omega)) (fun _ => vi) (fun _ => vm) (fun _ => ?_)
          rw [ci, cm, ix, cx, f16, um, ur (m - F i) (by omega), nI_add, mn_if (by omega) (by omega), nI_1]
          refine iq (i + 1) _ (by omega) (by omega) (fun c hc => by rw [upd2_ne _ _ _ hc]; exact uo c hc) (fun j hj => by rw [upd2_self, pk_un (by omega)]; exact ur j hj) ?_
          rw [upd2_self, pk_us]
          show _ = nI (if k ≤ i then mnN (L F P n k (m - F i) + P i) (lpI F P (L F P n k) k m i) else lpI F P (L F P n k) k m i)
          rw [if_pos hi1]
      exact inner (n - k) k _ (Nat.le_refl _) (by omega) (fun c hc => by rw [upd2_ne _ _ _ hc]; exact go c hc) (fun j hj => by rw [upd2_self, pk_un (by omega)]; exact gr j hj) (by rw [upd2_self, pk_us, low]; rfl)
  refine bX6_leastPence_0 (outer mi 1 _ _ (by omega) (by omega) (fun c hc => by rw [upd2_ne _ _ _ hc]) (fun j hj => ?_))
  rw [show j = 0 by omega, upd2_self, pk_us]
  rfl
theorem sp_mostOf {G : GC} {d : Nat} {sw : Bool} {f : FF} {Q : QQ} {F P : Nat → Nat} {n k x : Nat} (hn : n ≤ 5) (hk : k < n) (hx : x ≤ 240) (hF : ∀ i, i < n → 1 ≤ F i) (hF2 : ∀ i, F i < 256) (hP0 : 1 ≤ P k) (hP : ∀ i, P i < 256) (hf : f 15 k = nI (F k) ∧ f 16 k = nI (P k)) (hp : ∀ m, m ≤ x → f 18 m = nI (L F P n (k + 1) m))
    (hq : Q (some (.int (nI (grT F P n k x x)))) sw f) : XP G mX6_mostOf d 0 [.ref 14, .int (nI k), .int (nI x), .int (nI (L F P n k x)), .null, .null] [] sw f Q := by
  have tl := (grT_inv (P := P) (n := n) (hF k hk) x x (Nat.le_refl _)).1
  have loop : ∀ (l o : Nat) (v5 : Value), o = grT F P n k x x + l → o ≤ x → XP G mX6_mostOf d 3 [.ref 14, .int (nI k), .int (nI x), .int (nI (L F P n k x)), .int (nI o), v5] [] sw f Q := by
    intro l
    induction l with
    | zero =>
      intro o v5 ho hox
      by_cases y : o = 0
      · have h00 : nI o ≤ 0 := by rw [y]; decide
        refine bX6_mostOf_3 (fun _ => ?_) (fun h => absurd h00 h) (fun h => absurd h00 h) (fun h => absurd h00 h) (fun h => absurd h00 h) (fun h => absurd h00 h)
        rw [show grT F P n k x x = 0 by omega] at hq
        exact hq
      · have n0 : ¬ nI o ≤ 0 := nI_ge (b := o) (a := 0) (by omega) (by omega)
        have vk : vp_in (nI k) 16 := vp_in_nI (by omega) (by omega)
        have ck : (nI k).toNatClampNeg = k := nI_clamp (by omega)
        have b2 := hF2 k
        have b3 := hP k
        have m1 : o * F k ≤ 240 * 256 := Nat.mul_le_mul (by omega) (by omega)
        have m2 : o * P k ≤ 240 * 256 := Nat.mul_le_mul (by omega) (by omega)
        have ix : (if 0 < nI x - nI o * f 15 k then nI x - nI o * f 15 k else 0) = nI (x - o * F k) := by rw [hf.1, pk_mul]; exact mx0 (by omega) (by omega)
        have cx : (nI (x - o * F k)).toNatClampNeg = x - o * F k := nI_clamp (by omega)
        have b4 := L_far (P := P) (k := k + 1) hF (x - o * F k)
        have b5 := L_far (P := P) (k := k) hF x
        refine bX6_mostOf_3 (fun h => absurd h n0) (fun _ => vk) (fun _ => vk) (fun _ => by rw [ck, ix]; exact vp_in_nI (by omega) (by omega)) (fun _ h => ?_) (fun _ _ => ?_)
        · rw [ck, ix, cx, hf.2, hp _ (by omega), pk_mul, nI_add, nI_eq (by omega) (by omega)] at h
          have e : o = grT F P n k x x := by omega
          rw [e] at h
          exact absurd (grT_hit hF hk) h
        · rw [show o = grT F P n k x x by omega]; exact hq
    | succ l ih =>
      intro o v5 ho hox
      have n0 : ¬ nI o ≤ 0 := nI_ge (b := o) (a := 0) (by omega) (by omega)
      have vk : vp_in (nI k) 16 := vp_in_nI (by omega) (by omega)
      have ck : (nI k).toNatClampNeg = k := nI_clamp (by omega)
      have b2 := hF2 k
      have b3 := hP k
      have m1 : o * F k ≤ 240 * 256 := Nat.mul_le_mul (by omega) (by omega)
      have m2 : o * P k ≤ 240 * 256 := Nat.mul_le_mul (by omega) (by omega)
      have ix : (if 0 < nI x - nI o * f 15 k then nI x - nI o * f 15 k else 0) = nI (x - o * F k) := by rw [hf.1, pk_mul]; exact mx0 (by omega) (by omega)
      have cx : (nI (x - o * F k)).toNatClampNeg = x - o * F k := nI_clamp (by omega)
      have b4 := L_far (P := P) (k := k + 1) hF (x - o * F k)
      have b5 := L_far (P := P) (k := k) hF x
      refine bX6_mostOf_3 (fun h => absurd h n0) (fun _ => vk) (fun _ => vk) (fun _ => by rw [ck, ix]; exact vp_in_nI (by omega) (by omega)) (fun _ _ => ?_) (fun _ h => ?_)
      · rw [show o = (o - 1) + 1 by omega, pk_m1]
        exact ih (o - 1) _ (by omega) (by omega)
      · rw [ck, ix, cx, hf.2, hp _ (by omega), pk_mul, nI_add, nI_eq (by omega) (by omega)] at h
        exact absurd h (grT_most hF hP0 hk (by omega))
  exact bX6_mostOf_0 (loop (x - grT F P n k x x) x .null (by omega) (Nat.le_refl _))
theorem sp_howOften {G : GC} {d : Nat} {sw : Bool} {f : FF} {Q : QQ} {F P : Nat → Nat} {n mi wh : Nat} (hn : n ≤ 5) (hw : wh < n) (hmi : mi ≤ 240) (hF : ∀ i, i < n → 1 ≤ F i) (hF2 : ∀ i, F i < 256) (hP0 : ∀ i, i < n → 1 ≤ P i) (hP : ∀ i, P i < 256) (hf : ∀ j, j < n → f 15 j = nI (F j) ∧ f 16 j = nI (P j))
    (hq : ∀ g, (∀ c, c ≠ 18 → g c = f c) → Q (some (.int (nI (grT F P n wh (lft F P n mi wh) (lft F P n mi wh))))) sw g) : XP G mX6_howOften (d + 1) 0 [.ref 14, .int (nI n), .int (nI mi), .int (nI wh), .null, .null, .null, .null] [] sw f Q := by
  have loop : ∀ (l i : Nat) (g : FF) (x5 : Int32) (v7 : Value), i + l = wh + 1 → (∀ c, c ≠ 18 → g c = f c) → (i = wh + 1 → x5 = nI (grT F P n wh (lft F P n mi wh) (lft F P n mi wh))) → XP G mX6_howOften (d + 1) 9 [.ref 14, .int (nI n), .int (nI mi), .int (nI wh), .int (nI (lft F P n mi i)), .int x5, .int (nI i), v7] [] sw g Q := by
    intro l
    induction l with
    | zero =>
      intro i g x5 v7 hi go hx
      have hlt : nI wh < nI i := nI_lt (by omega) (by omega)
      refine bX6_howOften_9 (fun _ => ?_) (fun h => absurd hlt h)
      rw [hx (by omega)]
      exact hq g go
    | succ l ih =>
      intro i g x5 v7 hi go hx
      have ll := lft_le F P n mi i
      refine bX6_howOften_9 (fun h => absurd h (nI_nlt (by omega) (by omega))) (fun _ => ?_)
      have hf1 : ∀ u : FF, (∀ c, c ≠ 18 → u c = f c) → ∀ j, j < n → u 15 j = nI (F j) ∧ u 16 j = nI (P j) := fun u hu j hj => by rw [hu 15 (by omega), hu 16 (by omega)]; exact hf j hj
      refine sp_leastPence hn (by omega) (by omega) hF hF2 hP (hf1 g go) (fun u uo ur => bX6_howOften_24 ?_)
      have u1 : ∀ c, c ≠ 18 → u c = f c := fun c hc => by rw [uo c hc, go c hc]
      rw [nI_1]
      refine sp_leastPence hn (by omega) (by omega) hF hF2 hP (hf1 u u1) (fun w wo wr => bX6_howOften_37 ?_)
      have w1 : ∀ c, c ≠ 18 → w c = f c := fun c hc => by rw [wo c hc, u1 c hc]
      refine sp_mostOf hn (by omega) (by omega) hF hF2 (hP0 i (by omega)) hP (hf1 w w1 i (by omega)) wr (bX6_howOften_48 (vp_in_nI (by omega) (by omega)) ?_)
      have tl := (grT_inv (P := P) (n := n) (hF i (by omega)) (lft F P n mi i) (lft F P n mi i) (Nat.le_refl _)).1
      have b2 := hF2 i
      have m1 : grT F P n i (lft F P n mi i) (lft F P n mi i) * F i ≤ 240 * 256 := Nat.mul_le_mul (by omega) (by omega)
      rw [nI_clamp (by omega), (hf1 w w1 i (by omega)).1, pk_mul, mx0 (by omega) (by omega), nI_1]
      refine ih (i + 1) w _ _ (by omega) w1 (fun h => ?_)
      rw [show i = wh by omega]
  exact bX6_howOften_0 (loop (wh + 1) 0 f 0 .null (by omega) (fun _ _ => rfl) (fun h => by omega))
/-! the reference's row -/
theorem sp_laysPence {G : GC} {d : Nat} {sw : Bool} {f : FF} {Q : QQ} {F P : Nat → Nat} {n mi : Nat} (hn : n ≤ 5) (hmi : mi ≤ 240) (hF : ∀ i, i < n → 1 ≤ F i) (hF2 : ∀ i, F i < 256) (hP : ∀ i, P i < 256) (hf : ∀ j, byt f (2 * j) = F j ∧ byt f (2 * j + 1) = P j)
    (hq : ∀ g, (∀ c, c ≠ 109 → g c = f c) → (∀ k m, k ≤ n → m ≤ mi → g 109 (241 * k + m) = nI (L F P n k m)) → Q none sw g) : XP G mX11_laysPence (d + 1) 0 [.ref 82, .int (nI n), .int (nI mi), .null, .null, .null] [] sw f Q := by
  have oc : ∀ (u : FF), (∀ c, c ≠ 109 → u c = f c) → ∀ j, j < 10 → oct u (nI (2 * j)) = nI (F j) ∧ oct u (nI (2 * j + 1)) = nI (P j) := fun u hu j hj => by
    rw [oct_byt (by omega), oct_byt (by omega), byt_cg (hu 90 (by omega)), byt_cg (hu 90 (by omega)), (hf j).1, (hf j).2]
    exact ⟨rfl, rfl⟩
  have outer : ∀ (k : Nat) (g : FF) (v4 v5 : Value), k ≤ n → (∀ c, c ≠ 109 → g c = f c) → (∀ j m, k ≤ j → j ≤ n → m ≤ mi → g 109 (241 * j + m) = nI (L F P n j m)) → XP G mX11_laysPence (d + 1) 40 [.ref 82, .int (nI n), .int (nI mi), .int (nI k - 1), v4, v5] [] sw g Q := by
    intro k
    induction k with
    | zero =>
      intro g v4 v5 hk go gr
      exact bX11_laysPence_40 (fun _ => hq g go (fun k m h1 h2 => gr k m (Nat.zero_le _) h1 h2)) (fun h => absurd (by decide) h)
    | succ k ih =>
      intro g v4 v5 hk go gr
      rw [nI_pred]
      refine bX11_laysPence_40 (fun h => absurd h (nI_pos (by omega))) (fun _ => ?_)
      have e2 : 2 * nI k = nI (2 * k) := by rw [n_2, pk_mul]
      have e21 : nI (2 * k) + 1 = nI (2 * k + 1) := nI_1 _
      have b2 := hF2 k
      have b3 := hP k
      have inner : ∀ (l m : Nat) (u : FF) (v5 : Value), m + l = mi + 1 → (∀ c, c ≠ 109 → u c = f c) → (∀ j m, k + 1 ≤ j → j ≤ n → m ≤ mi → u 109 (241 * j + m) = nI (L F P n j m)) → (∀ q, q < m → u 109 (241 * k + q) = nI (L F P n k q)) → XP G mX11_laysPence (d + 1) 47 [.ref 82, .int (nI n), .int (nI mi), .int (nI k), .int (nI m), v5] [] sw u Q := by
        intro l
        induction l with
        | zero =>
          intro m u v5 hm uo ur uk
          have hlt : nI mi < nI m := nI_lt (by omega) (by omega)
          refine bX11_laysPence_47 (fun _ => ?_) (fun h => absurd hlt h) (fun h => absurd hlt h) (fun h => absurd hlt h) (fun h => absurd hlt h) (fun h => absurd hlt h) (fun h => absurd hlt h) (fun h => absurd hlt h) (fun h => absurd hlt h)
          rw [show nI k + (-1) = nI k - 1 from (Int32.sub_eq_add_neg _ _).symm]
          refine ih u _ _ (by omega) uo (fun j q j1 j2 j3 => ?_)
          by_cases y : j = k
          · subst y; exact uk q (by omega)
          · exact ur j q (by omega) j2 j3
        | succ l il =>
          intro m u v5 hm uo ur uk
          have nlt : ¬ nI mi < nI m := nI_nlt (by omega) (by omega)
          have x1 : 241 * (nI k + 1) + nI m = nI (241 * (k + 1) + m) := by rw [nI_1, n_241, pk_mul, nI_add]
          have x2 : 241 * nI k + nI m = nI (241 * k + m) := by rw [n_241, pk_mul, nI_add]
          have c1 : (nI (241 * (k + 1) + m)).toNatClampNeg = 241 * (k + 1) + m := nI_clamp (by omega)
          have c2 : (nI (241 * k + m)).toNatClampNeg = 241 * k + m := nI_clamp (by omega)
          have v1 : vp_in (nI (241 * (k + 1) + m)) 1446 := vp_in_nI (by omega) (by omega)
          have v2 : vp_in (nI (241 * k + m)) 1446 := vp_in_nI (by omega) (by omega)
          have o := oc u uo k (by omega)
          have next : ∀ z : Int32, z = nI (L F P n k m) → ∀ v5, XP G mX11_laysPence (d + 1) 47 [.ref 82, .int (nI n), .int (nI mi), .int (nI k), .int (nI m + 1), v5] [] sw (upd2 u 109 (241 * k + m) z) Q := by
            intro z hz v5
            rw [nI_1]
            refine il (m + 1) _ v5 (by omega) (fun c hc => by rw [upd2_ne _ _ _ hc]; exact uo c hc) (fun j q j1 j2 j3 => by rw [upd2_self, pk_un (by omega)]; exact ur j q j1 j2 j3) (fun q hq2 => ?_)
            rw [upd2_self]
            by_cases y : q = m
            · subst y; rw [pk_us, hz]
            · rw [pk_un (by omega)]; exact uk q (by omega)
          refine bX11_laysPence_47 (fun h => absurd h nlt) (fun _ => by rw [x1]; exact v1) (fun _ _ => by rw [x2]; exact v2) (fun _ h => ?_) (fun _ _ => by rw [e2, e21]; exact vp_in_nI (by omega) (by omega)) (fun _ _ => by rw [e2]; exact vp_in_nI (by omega) (by omega)) (fun _ h => ?_) (fun _ _ => by rw [x2]; exact v2) (fun _ h => ?_)
          · have m0 : m = 0 := by
              rcases Nat.eq_zero_or_pos m with z | z
              · exact z
              · exact absurd h (nI_nle z (by omega))
            rw [x1, x2, c1, c2]
            refine next _ ?_ _
            rw [ur (k + 1) m (Nat.le_refl _) hk (by omega), m0, L_0, L_0]
          · rw [e2, o.1, mx0' (by omega) (by omega), n_241, pk_mul, nI_add]
            exact vp_in_nI (by omega) (by omega)
          · have m1 : 1 ≤ m := by
              rcases Nat.eq_zero_or_pos m with z | z
              · subst z; exact absurd (by decide) h
              · exact z
            have x3 : 241 * nI k + nI (m - F k) = nI (241 * k + (m - F k)) := by rw [n_241, pk_mul, nI_add]
            have f1 := hF k (by omega)
            have b4 := L_far (P := P) (k := k + 1) hF m
            have b5 := L_far (P := P) (k := k) hF (m - F k)
            rw [e2, o.1, mx0' (by omega) (by omega), x1, x2, x3, c1, c2, nI_clamp (n := 241 * k + (m - F k)) (by omega), e21, o.2, ur (k + 1) m (Nat.le_refl _) hk (by omega), uk (m - F k) (by omega), nI_add, mn_mn (by omega) (by omega)]
            refine next _ ?_ _
            obtain ⟨m', rfl⟩ : ∃ m', m = m' + 1 := ⟨m - 1, by omega⟩
            rw [L_rec (k := k) hF (by omega) m']
      exact inner (mi + 1) 0 g v5 (by omega) go (fun j m j1 j2 j3 => gr j m j1 j2 j3) (fun q hq2 => absurd hq2 (by omega))
  have first : ∀ (l m : Nat) (g : FF), m + l = mi + 1 → (∀ c, c ≠ 109 → g c = f c) → (∀ q, q < m → g 109 (241 * n + q) = nI (L F P n n q)) → XP G mX11_laysPence (d + 1) 2 [.ref 82, .int (nI n), .int (nI mi), .int (nI m), .null, .null] [] sw g Q := by
    intro l
    induction l with
    | zero =>
      intro m g hm go gr
      have hlt : nI mi < nI m := nI_lt (by omega) (by omega)
      refine bX11_laysPence_2 (fun _ => ?_) (fun h => absurd hlt h) (fun h => absurd hlt h) (fun h => absurd hlt h) (fun h => absurd hlt h)
      exact outer n g _ _ (Nat.le_refl _) go (fun j q j1 j2 j3 => by rw [show j = n by omega]; exact gr q (by omega))
    | succ l il =>
      intro m g hm go gr
      have nlt : ¬ nI mi < nI m := nI_nlt (by omega) (by omega)
      have x2 : 241 * nI n + nI m = nI (241 * n + m) := by rw [n_241, pk_mul, nI_add]
      have c2 : (nI (241 * n + m)).toNatClampNeg = 241 * n + m := nI_clamp (by omega)
      have v2 : vp_in (nI (241 * n + m)) 1446 := vp_in_nI (by omega) (by omega)
      have next : ∀ z : Int32, z = nI (L F P n n m) → XP G mX11_laysPence (d + 1) 2 [.ref 82, .int (nI n), .int (nI mi), .int (nI m + 1), .null, .null] [] sw (upd2 g 109 (241 * n + m) z) Q := by
        intro z hz
        rw [nI_1]
        refine il (m + 1) _ (by omega) (fun c hc => by rw [upd2_ne _ _ _ hc]; exact go c hc) (fun q hq2 => ?_)
        rw [upd2_self]
        by_cases y : q = m
        · subst y; rw [pk_us, hz]
        · rw [pk_un (by omega)]; exact gr q (by omega)
      refine bX11_laysPence_2 (fun h => absurd h nlt) (fun _ _ => by rw [x2]; exact v2) (fun _ h => ?_) (fun _ _ => by rw [x2]; exact v2) (fun _ h => ?_)
      · rw [x2, c2]
        refine next _ ?_
        obtain ⟨m', rfl⟩ : ∃ m', m = m' + 1 := ⟨m - 1, by
          rcases Nat.eq_zero_or_pos m with z | z
          · subst z; exact absurd rfl h
          · omega⟩
        rw [L_none hF]
        rfl
      · rw [x2, c2]
        refine next _ ?_
        rw [(nI_eq (b := 0) (by omega) (by omega)).mp h, L_0]
        rfl
  exact bX11_laysPence_0 (first (mi + 1) 0 f (by omega) (fun _ _ => rfl) (fun q hq2 => absurd hq2 (by omega)))
theorem sp_timesOf {G : GC} {d : Nat} {sw : Bool} {f : FF} {Q : QQ} {F P : Nat → Nat} {n mi wh : Nat} (hn : n ≤ 5) (hw : wh < n) (hmi : mi ≤ 240) (hF : ∀ i, i < n → 1 ≤ F i) (hF2 : ∀ i, F i < 256) (hP : ∀ i, P i < 256) (hf : ∀ j, byt f (2 * j) = F j ∧ byt f (2 * j + 1) = P j)
    (hq : ∀ g, (∀ c, c ≠ 109 → g c = f c) → Q (some (.int (nI (grT F P n wh (lft F P n mi wh) (lft F P n mi wh))))) sw g) : XP G mX11_timesOf (d + 2) 0 [.ref 82, .int (nI n), .int (nI mi), .int (nI wh), .null, .null, .null, .null, .null, .null] [] sw f Q := by
  refine bX11_timesOf_0 (sp_laysPence hn hmi hF hF2 hP hf (fun g go gr => bX11_timesOf_6 (vp_in_nI (by omega) (by omega)) ?_))
  have g0 : g 109 (nI mi).toNatClampNeg = nI (L F P n 0 mi) := by
    rw [nI_clamp (by omega)]
    have := gr 0 mi (by omega) (Nat.le_refl _)
    rwa [show 241 * 0 + mi = mi by omega] at this
  rw [g0]
  have oc : ∀ j, j < 10 → oct g (nI (2 * j)) = nI (F j) ∧ oct g (nI (2 * j + 1)) = nI (P j) := fun j hj => by
    rw [oct_byt (by omega), oct_byt (by omega), byt_cg (go 90 (by omega)), byt_cg (go 90 (by omega)), (hf j).1, (hf j).2]
    exact ⟨rfl, rfl⟩
  have outer : ∀ (l k : Nat) (x6 : Int32) (v8 v9 : Value), k + l = wh + 1 → (k = wh + 1 → x6 = nI (grT F P n wh (lft F P n mi wh) (lft F P n mi wh))) → XP G mX11_timesOf (d + 2) 23 [.ref 82, .int (nI n), .int (nI mi), .int (nI wh), .int (nI (lft F P n mi k)), .int (nI (L F P n k (lft F P n mi k))), .int x6, .int (nI k), v8, v9] [] sw g Q := by
    intro l
    induction l with
    | zero =>
      intro k x6 v8 v9 hk hx
      refine bX11_timesOf_23 (fun _ => ?_) (fun h => absurd (nI_lt (by omega) (by omega)) h)
      rw [hx (by omega)]
      exact hq g go
    | succ l il =>
      intro k x6 v8 v9 hk hx
      refine bX11_timesOf_23 (fun h => absurd h (nI_nlt (by omega) (by omega))) (fun _ => ?_)
      have e2 : 2 * nI k = nI (2 * k) := by rw [n_2, pk_mul]
      have e21 : nI (2 * k) + 1 = nI (2 * k + 1) := nI_1 _
      have o := oc k (by omega)
      have b2 := hF2 k
      have b3 := hP k
      have f1 := hF k (by omega)
      have ll := lft_le F P n mi k
      -- the steps of the k-th
      have inner : ∀ (fu x c : Nat) (v9 : Value), x ≤ fu → x ≤ mi → c + grT F P n k fu x = grT F P n k (lft F P n mi k) (lft F P n mi k) → x - grT F P n k fu x * F k = lft F P n mi (k + 1) → XP G mX11_timesOf (d + 2) 35 [.ref 82, .int (nI n), .int (nI mi), .int (nI wh), .int (nI x), .int (nI (L F P n k x)), .int (nI c), .int (nI k), .int 1, v9] [] sw g Q := by
        intro fu
        have v1 : vp_in (nI (2 * k)) 260 := vp_in_nI (by omega) (by omega)
        have v2 : vp_in (nI (2 * k + 1)) 260 := vp_in_nI (by omega) (by omega)
        have stop : ∀ (x c : Nat) (v9 : Value), x ≤ mi → c = grT F P n k (lft F P n mi k) (lft F P n mi k) → x = lft F P n mi (k + 1) → XP G mX11_timesOf (d + 2) 35 [.ref 82, .int (nI n), .int (nI mi), .int (nI wh), .int (nI x), .int (nI (L F P n k x)), .int (nI c), .int (nI k), .int 0, v9] [] sw g Q := by
          intro x c v9 hx4 hc hxe
          refine bX11_timesOf_35 (fun _ => ?_) (fun h => absurd rfl h) (fun h => absurd rfl h) (fun h => absurd rfl h) (fun h => absurd rfl h) (fun h => absurd rfl h) (fun h => absurd rfl h) (fun h => absurd rfl h)
          rw [nI_1]
          have eL : L F P n k x = L F P n (k + 1) x := by rw [hxe]; exact grT_eq hF (by omega)
          rw [eL, hxe]
          exact il (k + 1) _ _ _ (by omega) (fun h => by rw [hc, show k = wh by omega])
        induction fu with
        | zero =>
          intro x c v9 hx hx2 hc hl
          have x0 : x = 0 := by omega
          subst x0
          have h00 : nI 0 ≤ 0 := by decide
          refine bX11_timesOf_35 (fun h => absurd h (by decide)) (fun _ => by rw [e2]; exact v1) (fun _ _ => ?_) (fun _ h => absurd h00 h) (fun _ h => absurd h00 h) (fun _ h => absurd h00 h) (fun _ h => absurd h00 h) (fun _ h => absurd h00 h)
          exact stop 0 c _ (by omega) (by have : grT F P n k 0 0 = 0 := rfl; omega) (by omega)
        | succ fu ih =>
          intro x c v9 hx hx2 hc hl
          have b4 := L_far (P := P) (k := k) hF (x - F k)
          have b5 := L_far (P := P) (k := k) hF x
          have ix : mxI 0 (nI x - oct g (2 * nI k)) = nI (x - F k) := by rw [e2, o.1]; exact mx0' (by omega) (by omega)
          have x3 : 241 * nI k + nI (x - F k) = nI (241 * k + (x - F k)) := by rw [n_241, pk_mul, nI_add]
          have c3 : (nI (241 * k + (x - F k))).toNatClampNeg = 241 * k + (x - F k) := nI_clamp (by omega)
          by_cases y : 0 < x ∧ P k + L F P n k (x - F k) = L F P n k x
          · have e : grT F P n k (fu + 1) x = grT F P n k fu (x - F k) + 1 := if_pos y
            rw [e] at hc hl
            have n0 : ¬ nI x ≤ 0 := nI_nle y.1 (by omega)
            refine bX11_timesOf_35 (fun h => absurd h (by decide)) (fun _ => by rw [e2]; exact v1) (fun _ h => absurd h n0) (fun _ _ => by rw [e2, e21]; exact v2) (fun _ _ => by rw [ix, x3]; exact vp_in_nI (by omega) (by omega)) (fun _ _ h => ?_) (fun _ _ _ => by rw [e2, e21]; exact v2) (fun _ _ _ => ?_)
            · rw [ix, x3, c3, e2, e21, o.2, gr k _ (by omega) (by omega), nI_add, nI_eq (by omega) (by omega)] at h
              exact absurd y.2 h
            · rw [ix, e2, e21, o.2, pk_sub (by omega), nI_1, show L F P n k x - P k = L F P n k (x - F k) by omega]
              refine ih (x - F k) (c + 1) _ (by omega) (by omega) (by omega) ?_
              rw [← hl, Nat.succ_mul]
              omega
          · have e : grT F P n k (fu + 1) x = 0 := if_neg y
            rw [e] at hc hl
            refine bX11_timesOf_35 (fun h => absurd h (by decide)) (fun _ => by rw [e2]; exact v1) (fun _ h => ?_) (fun _ _ => by rw [e2, e21]; exact v2) (fun _ _ => by rw [ix, x3]; exact vp_in_nI (by omega) (by omega)) (fun _ _ h => ?_) (fun _ _ _ => by rw [e2, e21]; exact v2) (fun _ h9 h => ?_)
            · exact stop x c _ hx2 (by omega) (by omega)
            · exact stop x c _ hx2 (by omega) (by omega)
            · exfalso
              rw [ix, x3, c3, e2, e21, o.2, gr k _ (by omega) (by omega), nI_add, nI_eq (by omega) (by omega)] at h
              have x0 : 0 < x := by
                rcases Nat.eq_zero_or_pos x with z | z
                · subst z; exact absurd (by decide) h9
                · exact z
              exact y ⟨x0, h⟩
      exact inner (lft F P n mi k) (lft F P n mi k) 0 v9 (Nat.le_refl _) (by omega) (by omega) rfl
  exact outer (wh + 1) 0 0 _ _ (by omega) (fun h => by omega)
