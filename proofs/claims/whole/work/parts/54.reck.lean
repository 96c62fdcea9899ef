/-! ===== the class reckons ===== -/
theorem sp_reckon {G : GC} {d : Nat} {sw : Bool} {f : FF} {Q : QQ} {q v b : Nat} {cd : Bool} (hq : isLw q) (hvb : v ≤ b) (hb : b ≤ 240) (hw : wfSeg (f (q + 5)) (f (q + 6)) v b cd) (he : ∀ k, v ≤ k → k < b → ∃ c, enc (f (q + 5) k) (f (q + 6) k) c) (hQ : ∀ g : FF, (∀ x, x ≠ 33 → x ≠ 35 → g x = f x) → Q (some (.int (evL (f (q + 5)) (f (q + 6)) (f 34) b 241 v 0 (fun _ => 0)))) sw g) : XP G mX5_reckon (d + 1) 0 [.ref 33, .ref q, .int (nI v), .int (nI b), .null, .null, .null, .null, .null] [] sw f Q := by
  obtain ⟨dep, bo, d0, d1, d2, hst⟩ := hw
  have hq5 : q + 5 ≠ 33 ∧ q + 5 ≠ 35 ∧ q + 6 ≠ 33 ∧ q + 6 ≠ 35 := by rcases hq with rfl | rfl <;> omega
  have loop : ∀ (F k step : Nat) (st : Nat → Int32) (g : FF) (v7 v8 : Value), b + 1 ≤ F + k → v ≤ k → k ≤ b → step + v ≤ k → (∀ x, x ≠ 33 → x ≠ 35 → g x = f x) → g 33 2 = 0 → (∀ j, j < dep k → g 35 j = st j) → (bo k = true → 1 ≤ dep k → is01 (st (dep k - 1))) → (∀ g' : FF, (∀ x, x ≠ 33 → x ≠ 35 → g' x = f x) → Q (some (.int (evL (f (q + 5)) (f (q + 6)) (f 34) b F k (dep k) st))) sw g') → XP G mX5_reckon (d + 1) 14 [.ref 33, .ref q, .int (nI v), .int (nI b), .int (nI (dep k)), .int (nI k), .int (nI step), v7, v8] [] sw g Q := by
    intro F
    induction F with
    | zero => intro k step st g v7 v8 h1 h2 h3; omega
    | succ F ih =>
      intro k step st g v7 v8 hF hvk hkb hstep go r0 hs hbo hQ
      by_cases hk : k = b
      · have n2 : nI b ≤ nI k := by rw [hk]; exact nI_le (Nat.le_refl _) (by omega)
        have dk : dep k = 1 := by rw [hk]; exact d1
        have one : (1 : Int32) ≤ nI (dep k) := by rw [dk]; decide
        have e0 : Q (some (.int (g 35 0))) sw g := by
          have := hQ g go
          rw [evL_end (by omega)] at this
          rw [hs 0 (by omega)]
          exact this
        exact bX5_reckon_14 hq (fun _ h => absurd (r0) h) (fun h1 _ _ => e0) (fun _ _ h => absurd (one) h) (fun _ _ h => absurd (r0) h) (fun h1 _ _ _ => e0) (fun _ _ _ h => absurd (one) h) (fun _ h => absurd (n2) h) (fun _ h => absurd (n2) h) (fun _ h => absurd (n2) h) (fun _ h => absurd (n2) h) (fun _ h => absurd (n2) h) (fun _ h => absurd (n2) h) (fun _ h => absurd (n2) h) (fun _ h => absurd (n2) h) (fun _ h => absurd (n2) h) (fun _ h => absurd (n2) h) (fun _ h => absurd (n2) h) (fun _ h => absurd (n2) h) (fun _ h => absurd (n2) h) (fun _ h => absurd (n2) h) (fun _ h => absurd (n2) h) (fun _ h => absurd (n2) h) (fun _ h => absurd (n2) h) (fun _ h => absurd (n2) h) (fun _ h => absurd (n2) h) (fun _ h => absurd (n2) h) (fun _ h => absurd (n2) h) (fun _ h => absurd (n2) h) (fun _ h => absurd (n2) h) (fun _ h => absurd (n2) h) (fun _ h => absurd (n2) h) (fun _ h => absurd (n2) h) (fun _ h => absurd (n2) h) (fun _ h => absurd (n2) h) (fun _ h => absurd (n2) h) (fun _ h => absurd (n2) h) (fun _ h => absurd (n2) h) (fun _ h => absurd (n2) h) (fun _ h => absurd (n2) h) (fun _ h => absurd (n2) h) (fun _ h => absurd (n2) h) (fun _ h => absurd (n2) h) (fun _ h => absurd (n2) h) (fun _ h => absurd (n2) h) (fun _ h => absurd (n2) h) (fun _ h => absurd (n2) h) (fun _ h => absurd (n2) h) (fun _ h => absurd (n2) h)
      · have hlt : k < b := by omega
        have n1 : ¬ (240 : Int32) ≤ nI step := nI_ge (a := step) (b := 240) (by omega) (by omega)
        have n2 : ¬ nI b ≤ nI k := nI_ge hlt (by omega)
        have n3 : ¬ (240 : Int32) ≤ nI k := nI_ge (a := k) (b := 240) (by omega) (by omega)
        obtain ⟨dk, hwf⟩ := hst k hvk hlt
        obtain ⟨w1, w2, w3, w4, w5⟩ := id hwf
        have n4 : ¬ (64 : Int32) ≤ nI (dep k) := nI_ge (a := dep k) (b := 64) (by omega) (by omega)
        have ck : (nI k).toNatClampNeg = k := nI_clamp (by omega)
        have g5 : g (q + 5) (nI k).toNatClampNeg = f (q + 5) k := by rw [ck, go _ hq5.1 hq5.2.1]
        have g6 : g (q + 6) (nI k).toNatClampNeg = f (q + 6) k := by rw [ck, go _ hq5.2.2.1 hq5.2.2.2]
        have g34 : g 34 = f 34 := go 34 (by omega) (by omega)
        have vk : vp_in (nI k) 240 := vp_in_nI (by omega) (by omega)
        have vd : vp_in (nI (dep k)) 64 := vp_in_nI (by omega) (by omega)
        have psh : ∀ (x : Int32) (v7 v8 : Value), dep (k + 1) = dep k + 1 → bo (k + 1) = false → (evL (f (q + 5)) (f (q + 6)) (f 34) b (F + 1) k (dep k) st = evL (f (q + 5)) (f (q + 6)) (f 34) b F (k + 1) (dep k + 1) (upd st (dep k) x)) → XP G mX5_reckon (d + 1) 14 [.ref 33, .ref q, .int (nI v), .int (nI b), .int (nI (dep k) + 1), .int (nI k + 1), .int (nI step + 1), v7, v8] [] sw (upd2 g 35 (nI (dep k)).toNatClampNeg x) Q := by
          intro x v7 v8 e1 e2 e3
          rw [nI_1, nI_1, nI_1, nI_clamp (by omega), ← e1]
          refine ih (k + 1) (step + 1) (upd st (dep k) x) _ v7 v8 (by omega) (by omega) (by omega) (by omega) (fun y y1 y2 => by rw [upd2_ne _ _ _ y2]; exact go y y1 y2) (by rw [upd2_ne _ _ _ (by omega)]; exact r0) (fun j hj => ?_) (fun z _ => absurd z (by rw [e2]; decide)) (fun g' hg' => ?_)
          · rw [upd2_self]
            by_cases y : j = dep k
            · subst y; rw [pk_us, pk_us]
            · rw [pk_un y, pk_un y]; exact hs j (by omega)
          · have := hQ g' hg'
            rw [e3, ← e1] at this
            exact this
        obtain ⟨c, hc⟩ := he k hvk hlt
        rcases enc_sg hc with ⟨h, hwi⟩ | ⟨h, hwi⟩ | h | h | ⟨h, hwi⟩ | ⟨h, hwi⟩
        · have hd := w1 (Or.inl h)
          have e : g (q + 5) (nI k).toNatClampNeg = 48 := g5.trans h
          have m97 : ¬ g (q + 5) (nI k).toNatClampNeg = 97 := by rw [e]; decide
          have m33 : ¬ g (q + 5) (nI k).toNatClampNeg = 33 := by rw [e]; decide
          have m38 : ¬ g (q + 5) (nI k).toNatClampNeg = 38 := by rw [e]; decide
          have m124 : ¬ g (q + 5) (nI k).toNatClampNeg = 124 := by rw [e]; decide
          refine bX5_reckon_14 hq (fun h => absurd h (n1)) (fun h => absurd h (n1)) (fun h => absurd h (n1)) (fun _ h => absurd h (n2)) (fun _ h => absurd h (n2)) (fun _ h => absurd h (n2)) (fun _ _ h => absurd h (n3)) (fun _ _ h => absurd h (n3)) (fun _ _ h => absurd h (n3)) (fun _ _ _ h => absurd (r0) h) (fun _ _ _ h => absurd (r0) h) (fun _ _ _ h => absurd (r0) h) (fun _ _ _ _ => vk) (fun _ _ _ _ => vk) (fun _ _ _ _ _ h => absurd h (n4)) (fun _ _ _ _ _ _ h => absurd (e) h) (fun _ _ _ _ _ _ h => absurd (e) h) (fun _ _ _ _ _ _ h => absurd (e) h) (fun _ _ _ _ _ _ _ => vd) (fun _ _ _ _ _ _ _ => ?_) (fun _ _ _ _ h => absurd (e) h) (fun _ _ _ _ h => absurd (e) h) (fun _ _ _ _ h => absurd (e) h) (fun _ _ _ _ h => absurd (e) h) (fun _ _ _ _ h => absurd (e) h) (fun _ _ _ _ h => absurd (e) h) (fun _ _ _ _ h => absurd (e) h) (fun _ _ _ _ h => absurd (e) h) (fun _ _ _ _ h => absurd (e) h) (fun _ _ _ _ h => absurd (e) h) (fun _ _ _ _ h => absurd (e) h) (fun _ _ _ _ h => absurd (e) h) (fun _ _ _ _ h => absurd (e) h) (fun _ _ _ _ h => absurd (e) h) (fun _ _ _ _ h => absurd (e) h) (fun _ _ _ _ h => absurd (e) h) (fun _ _ _ _ h => absurd (e) h) (fun _ _ _ _ h => absurd (e) h) (fun _ _ _ _ h => absurd (e) h) (fun _ _ _ _ h => absurd (e) h) (fun _ _ _ _ h => absurd (e) h) (fun _ _ _ _ h => absurd (e) h) (fun _ _ _ _ h => absurd (e) h) (fun _ _ _ _ h => absurd (e) h) (fun _ _ _ _ h => absurd (e) h) (fun _ _ _ _ h => absurd (e) h) (fun _ _ _ _ h => absurd (e) h) (fun _ _ _ _ h => absurd (e) h)
          rw [g6]
          exact psh _ _ _ hd.1 hd.2 (evL_48 hlt h)
        · have hd := w1 (Or.inr h)
          have e : g (q + 5) (nI k).toNatClampNeg = 97 := g5.trans h
          have m48 : ¬ g (q + 5) (nI k).toNatClampNeg = 48 := by rw [e]; decide
          have m33 : ¬ g (q + 5) (nI k).toNatClampNeg = 33 := by rw [e]; decide
          have m38 : ¬ g (q + 5) (nI k).toNatClampNeg = 38 := by rw [e]; decide
          have m124 : ¬ g (q + 5) (nI k).toNatClampNeg = 124 := by rw [e]; decide
          obtain ⟨wn, hwn, ewn⟩ := isN_nI hwi (by omega)
          refine bX5_reckon_14 hq (fun h => absurd h (n1)) (fun h => absurd h (n1)) (fun h => absurd h (n1)) (fun _ h => absurd h (n2)) (fun _ h => absurd h (n2)) (fun _ h => absurd h (n2)) (fun _ _ h => absurd h (n3)) (fun _ _ h => absurd h (n3)) (fun _ _ h => absurd h (n3)) (fun _ _ _ h => absurd (r0) h) (fun _ _ _ h => absurd (r0) h) (fun _ _ _ h => absurd (r0) h) (fun _ _ _ _ => vk) (fun _ _ _ _ => vk) (fun _ _ _ _ h => absurd h (m48)) (fun _ _ _ _ h => absurd h (m48)) (fun _ _ _ _ h => absurd h (m48)) (fun _ _ _ _ h => absurd h (m48)) (fun _ _ _ _ h => absurd h (m48)) (fun _ _ _ _ h => absurd h (m48)) (fun _ _ _ _ _ h => absurd (e) h) (fun _ _ _ _ _ h => absurd (e) h) (fun _ _ _ _ _ h => absurd (e) h) (fun _ _ _ _ _ h => absurd (e) h) (fun _ _ _ _ _ h => absurd (e) h) (fun _ _ _ _ _ h => absurd (e) h) (fun _ _ _ _ _ h => absurd (e) h) (fun _ _ _ _ _ h => absurd (e) h) (fun _ _ _ _ _ h => absurd (e) h) (fun _ _ _ _ _ h => absurd (e) h) (fun _ _ _ _ _ h => absurd (e) h) (fun _ _ _ _ _ h => absurd (e) h) (fun _ _ _ _ _ h => absurd (e) h) (fun _ _ _ _ _ h => absurd (e) h) (fun _ _ _ _ _ h => absurd (e) h) (fun _ _ _ _ _ h => absurd (e) h) (fun _ _ _ _ _ h => absurd (e) h) (fun _ _ _ _ _ h => absurd (e) h) (fun _ _ _ _ _ h => absurd (e) h) (fun _ _ _ _ _ h => absurd (e) h) (fun _ _ _ _ _ h => absurd (e) h) (fun _ _ _ _ _ h => absurd (e) h) (fun _ _ _ _ _ _ h => absurd h (n4)) (fun _ _ _ _ _ _ _ _ => ?_) (fun _ _ _ _ _ _ _ _ => vd) (fun _ _ _ _ _ _ _ _ => ?_) (fun _ _ _ _ _ _ _ h => absurd h (m48)) (fun _ _ _ _ _ _ _ h => absurd h (m48))
          · rw [g6, ewn]; exact vp_in_nI (by omega) (by omega)
          · rw [g6, g34]; exact psh _ _ _ hd.1 hd.2 (evL_97 hlt h)
        · obtain ⟨m48, m97, m33, m38, m124⟩ := isA_n h
          rw [← g5] at m48 m97 m33 m38 m124
          have hd := isA_wf hwf h
          obtain ⟨m, hm⟩ : ∃ m, dep k = m + 2 := ⟨dep k - 2, by omega⟩
          have hm1 : dep (k + 1) = m + 1 := by omega
          have n5 : ¬ nI (dep k) < 2 := by rw [hm]; exact nI_nlt (a := m + 2) (b := 2) (by omega) (by omega)
          have x1 : nI (dep k) + (-1) = nI (m + 1) := by rw [hm, pk_m1]
          have x2 : nI (dep k) + (-1) - 1 = nI m := by rw [x1, nI_pred]
          have vm : vp_in (nI m) 64 := vp_in_nI (by omega) (by omega)
          refine bX5_reckon_14 hq (fun h => absurd h (n1)) (fun h => absurd h (n1)) (fun h => absurd h (n1)) (fun _ h => absurd h (n2)) (fun _ h => absurd h (n2)) (fun _ h => absurd h (n2)) (fun _ _ h => absurd h (n3)) (fun _ _ h => absurd h (n3)) (fun _ _ h => absurd h (n3)) (fun _ _ _ h => absurd (r0) h) (fun _ _ _ h => absurd (r0) h) (fun _ _ _ h => absurd (r0) h) (fun _ _ _ _ => vk) (fun _ _ _ _ => vk) (fun _ _ _ _ h => absurd h (m48)) (fun _ _ _ _ h => absurd h (m48)) (fun _ _ _ _ h => absurd h (m48)) (fun _ _ _ _ h => absurd h (m48)) (fun _ _ _ _ h => absurd h (m48)) (fun _ _ _ _ h => absurd h (m48)) (fun _ _ _ _ _ _ _ h => absurd h (m38)) (fun _ _ _ _ _ _ _ h => absurd h (m38)) (fun _ _ _ _ _ _ _ h => absurd h (m38)) (fun _ _ _ _ _ _ _ h => absurd h (m38)) (fun _ _ _ _ _ _ _ h => absurd h (m38)) (fun _ _ _ _ _ _ _ h => absurd h (m38)) (fun _ _ _ _ _ _ _ _ _ h => absurd h (n5)) (fun _ _ _ _ _ _ _ _ _ _ => ?_) (fun _ _ _ _ _ _ _ _ _ _ => ?_) (fun _ _ _ _ _ _ _ _ _ _ => ?_) (fun _ _ _ _ _ _ _ _ h => absurd h (m124)) (fun _ _ _ _ _ _ _ _ h => absurd h (m124)) (fun _ _ _ _ _ _ _ _ h => absurd h (m124)) (fun _ _ _ _ _ _ _ _ h => absurd h (m124)) (fun _ _ _ _ _ _ _ _ h => absurd h (m124)) (fun _ _ _ _ _ _ _ _ h => absurd h (m124)) (fun _ _ _ _ _ _ h => absurd h (m33)) (fun _ _ _ _ _ _ h => absurd h (m33)) (fun _ _ _ _ _ _ h => absurd h (m33)) (fun _ _ _ _ _ _ h => absurd h (m33)) (fun _ _ _ _ _ _ h => absurd h (m33)) (fun _ _ _ _ _ _ h => absurd h (m33)) (fun _ _ _ _ _ h => absurd h (m97)) (fun _ _ _ _ _ h => absurd h (m97)) (fun _ _ _ _ _ h => absurd h (m97)) (fun _ _ _ _ _ h => absurd h (m97)) (fun _ _ _ _ _ h => absurd h (m97)) (fun _ _ _ _ _ h => absurd h (m97))
          · rw [x2]; exact vm
          · rw [x1]; exact vp_in_nI (by omega) (by omega)
          · rw [x2, x1, g5, nI_clamp (n := m) (by omega), nI_clamp (n := m + 1) (by omega), hs m (by omega), hs (m + 1) (by omega)]
            refine sp_join h (fun hz => ?_) (fun hz => ?_)
            · refine bX5_reckon_270 hq vm ?_
              have r1 : ¬ (upd2 (upd2 g 33 2 1) 35 (nI m).toNatClampNeg 0) 33 2 = 0 := by
                rw [upd2_ne _ _ _ (by omega), upd2_self, pk_us]
                decide
              have e0 : Q (some (.int 0)) sw (upd2 (upd2 g 33 2 1) 35 (nI m).toNatClampNeg 0) := by
                have := hQ (upd2 (upd2 g 33 2 1) 35 (nI m).toNatClampNeg 0) (fun y y1 y2 => by rw [upd2_ne _ _ _ y2, upd2_ne _ _ _ y1]; exact go y y1 y2)
                rw [evL_Az hlt h (by rw [hm]; exact hz)] at this
                exact this
              exact bX5_reckon_14 hq (fun h1 _ => e0) (fun _ h => absurd h (r1)) (fun _ h => absurd h (r1)) (fun h1 h2 _ => e0) (fun _ _ h => absurd h (r1)) (fun _ _ h => absurd h (r1)) (fun h1 h2 h3 _ => e0) (fun _ _ _ h => absurd h (r1)) (fun _ _ _ h => absurd h (r1)) (fun h1 h2 h3 _ _ => e0) (fun _ _ _ _ h => absurd h (r1)) (fun _ _ _ _ h => absurd h (r1)) (fun _ _ _ h => absurd h (r1)) (fun _ _ _ h => absurd h (r1)) (fun _ _ _ h => absurd h (r1)) (fun _ _ _ h => absurd h (r1)) (fun _ _ _ h => absurd h (r1)) (fun _ _ _ h => absurd h (r1)) (fun _ _ _ h => absurd h (r1)) (fun _ _ _ h => absurd h (r1)) (fun _ _ _ h => absurd h (r1)) (fun _ _ _ h => absurd h (r1)) (fun _ _ _ h => absurd h (r1)) (fun _ _ _ h => absurd h (r1)) (fun _ _ _ h => absurd h (r1)) (fun _ _ _ h => absurd h (r1)) (fun _ _ _ h => absurd h (r1)) (fun _ _ _ h => absurd h (r1)) (fun _ _ _ h => absurd h (r1)) (fun _ _ _ h => absurd h (r1)) (fun _ _ _ h => absurd h (r1)) (fun _ _ _ h => absurd h (r1)) (fun _ _ _ h => absurd h (r1)) (fun _ _ _ h => absurd h (r1)) (fun _ _ _ h => absurd h (r1)) (fun _ _ _ h => absurd h (r1)) (fun _ _ _ h => absurd h (r1)) (fun _ _ _ h => absurd h (r1)) (fun _ _ _ h => absurd h (r1)) (fun _ _ _ h => absurd h (r1)) (fun _ _ _ h => absurd h (r1)) (fun _ _ _ h => absurd h (r1)) (fun _ _ _ h => absurd h (r1)) (fun _ _ _ h => absurd h (r1)) (fun _ _ _ h => absurd h (r1)) (fun _ _ _ h => absurd h (r1)) (fun _ _ _ h => absurd h (r1)) (fun _ _ _ h => absurd h (r1))
            · refine bX5_reckon_270 hq vm ?_
              rw [nI_1, nI_1, nI_clamp (n := m) (by omega), show nI (m + 1) = nI (dep (k + 1)) by rw [hm1]]
              refine ih (k + 1) (step + 1) (upd st m (joinP (f (q + 5) k) (st m) (st (m + 1)))) _ _ _ (by omega) (by omega) (by omega) (by omega) (fun y y1 y2 => by rw [upd2_ne _ _ _ y2]; exact go y y1 y2) (by rw [upd2_ne _ _ _ (by omega)]; exact r0) (fun j hj => ?_) (fun z _ => ?_) (fun g' hg' => ?_)
              · rw [upd2_self]
                by_cases y : j = m
                · subst y; rw [pk_us, pk_us]
                · rw [pk_un y, pk_un y]; exact hs j (by omega)
              · rw [show dep (k + 1) - 1 = m by omega, pk_us]
                exact joinP_01 (hd.2.2 z) _ _
              · have := hQ g' hg'
                rw [evL_An hlt h (by rw [hm]; exact hz), hm] at this
                rw [hm1]
                exact this
        · have hd := w4 h
          have e : g (q + 5) (nI k).toNatClampNeg = 33 := g5.trans h
          have m48 : ¬ g (q + 5) (nI k).toNatClampNeg = 48 := by rw [e]; decide
          have m97 : ¬ g (q + 5) (nI k).toNatClampNeg = 97 := by rw [e]; decide
          have m38 : ¬ g (q + 5) (nI k).toNatClampNeg = 38 := by rw [e]; decide
          have m124 : ¬ g (q + 5) (nI k).toNatClampNeg = 124 := by rw [e]; decide
          obtain ⟨m, hm⟩ : ∃ m, dep k = m + 1 := ⟨dep k - 1, by omega⟩
          have n5 : ¬ nI (dep k) < 1 := by rw [hm]; exact nI_nlt (a := m + 1) (b := 1) (by omega) (by omega)
          have x1 : nI (dep k) - 1 = nI m := by rw [hm, nI_pred]
          have vm : vp_in (nI (dep k) - 1) 64 := by rw [x1]; exact vp_in_nI (by omega) (by omega)
          have tp : g 35 (nI (dep k) - 1).toNatClampNeg = st m := by rw [x1, nI_clamp (by omega)]; exact hs m (by omega)
          have b01 := hbo hd.2.1 hd.1
          rw [show dep k - 1 = m by omega] at b01
          have nx : ∀ (x : Int32) (v7 v8 : Value), x = 1 - st m → XP G mX5_reckon (d + 1) 14 [.ref 33, .ref q, .int (nI v), .int (nI b), .int (nI (dep k)), .int (nI k + 1), .int (nI step + 1), v7, v8] [] sw (upd2 g 35 (nI (dep k) - 1).toNatClampNeg x) Q := by
            intro x v7 v8 hx
            rw [nI_1, nI_1, x1, nI_clamp (by omega), ← hd.2.2.1]
            refine ih (k + 1) (step + 1) (upd st m x) _ v7 v8 (by omega) (by omega) (by omega) (by omega) (fun y y1 y2 => by rw [upd2_ne _ _ _ y2]; exact go y y1 y2) (by rw [upd2_ne _ _ _ (by omega)]; exact r0) (fun j hj => ?_) (fun _ _ => ?_) (fun g' hg' => ?_)
            · rw [upd2_self]
              by_cases y : j = m
              · subst y; rw [pk_us, pk_us]
              · rw [pk_un y, pk_un y]; exact hs j (by have := hd.2.2.1; omega)
            · rw [show dep (k + 1) - 1 = m by have := hd.2.2.1; omega, pk_us, hx]
              rcases b01 with z | z
              · rw [z]; exact Or.inr rfl
              · rw [z]; exact Or.inl rfl
            · have := hQ g' hg'
              rw [evL_33 hlt h, show dep k - 1 = m by omega, ← hx, ← hd.2.2.1] at this
              exact this
          refine bX5_reckon_14 hq (fun h => absurd h (n1)) (fun h => absurd h (n1)) (fun h => absurd h (n1)) (fun _ h => absurd h (n2)) (fun _ h => absurd h (n2)) (fun _ h => absurd h (n2)) (fun _ _ h => absurd h (n3)) (fun _ _ h => absurd h (n3)) (fun _ _ h => absurd h (n3)) (fun _ _ _ h => absurd (r0) h) (fun _ _ _ h => absurd (r0) h) (fun _ _ _ h => absurd (r0) h) (fun _ _ _ _ => vk) (fun _ _ _ _ => vk) (fun _ _ _ _ h => absurd h (m48)) (fun _ _ _ _ h => absurd h (m48)) (fun _ _ _ _ h => absurd h (m48)) (fun _ _ _ _ h => absurd h (m48)) (fun _ _ _ _ h => absurd h (m48)) (fun _ _ _ _ h => absurd h (m48)) (fun _ _ _ _ _ _ h => absurd (e) h) (fun _ _ _ _ _ _ h => absurd (e) h) (fun _ _ _ _ _ _ h => absurd (e) h) (fun _ _ _ _ _ _ h => absurd (e) h) (fun _ _ _ _ _ _ h => absurd (e) h) (fun _ _ _ _ _ _ h => absurd (e) h) (fun _ _ _ _ _ _ h => absurd (e) h) (fun _ _ _ _ _ _ h => absurd (e) h) (fun _ _ _ _ _ _ h => absurd (e) h) (fun _ _ _ _ _ _ h => absurd (e) h) (fun _ _ _ _ _ _ h => absurd (e) h) (fun _ _ _ _ _ _ h => absurd (e) h) (fun _ _ _ _ _ _ h => absurd (e) h) (fun _ _ _ _ _ _ h => absurd (e) h) (fun _ _ _ _ _ _ h => absurd (e) h) (fun _ _ _ _ _ _ h => absurd (e) h) (fun _ _ _ _ _ _ _ h => absurd h (n5)) (fun _ _ _ _ _ _ _ _ => vm) (fun _ _ _ _ _ _ _ _ h9 => vm) (fun _ _ _ _ _ _ _ _ h9 => ?_) (fun _ _ _ _ _ _ _ _ h9 => vm) (fun _ _ _ _ _ _ _ _ h9 => ?_) (fun _ _ _ _ _ h => absurd h (m97)) (fun _ _ _ _ _ h => absurd h (m97)) (fun _ _ _ _ _ h => absurd h (m97)) (fun _ _ _ _ _ h => absurd h (m97)) (fun _ _ _ _ _ h => absurd h (m97)) (fun _ _ _ _ _ h => absurd h (m97))
          · rw [tp] at h9
            exact nx 0 _ _ (by rw [b01.resolve_left h9]; rfl)
          · rw [tp] at h9
            exact nx 1 _ _ (by rw [h9]; rfl)
        · obtain ⟨x1, x2, x3, t, x4, x5, x6, x7, x8⟩ := w5 (Or.inl h)
          have e : g (q + 5) (nI k).toNatClampNeg = 38 := g5.trans h
          have m48 : ¬ g (q + 5) (nI k).toNatClampNeg = 48 := by rw [e]; decide
          have m97 : ¬ g (q + 5) (nI k).toNatClampNeg = 97 := by rw [e]; decide
          have m33 : ¬ g (q + 5) (nI k).toNatClampNeg = 33 := by rw [e]; decide
          have m124 : ¬ g (q + 5) (nI k).toNatClampNeg = 124 := by rw [e]; decide
          have n5 : ¬ nI (dep k) < 1 := by rw [x1]; decide
          have b01 := hbo x2 (by omega)
          rw [show dep k - 1 = 0 by omega] at b01
          have tp : g 35 (nI (dep k) - 1).toNatClampNeg = st 0 := by rw [x1]; exact hs 0 (by omega)
          have vm : vp_in (nI (dep k) - 1) 64 := by rw [x1]; exact vp_in_nI (n := 0) (by omega) (by omega)
          have jmp : ∀ v7 v8 : Value, st 0 = 0 → XP G mX5_reckon (d + 1) 14 [.ref 33, .ref q, .int (nI v), .int (nI b), .int (nI (dep k)), .int (g (q + 6) (nI k).toNatClampNeg), .int (nI step + 1), v7, v8] [] sw g Q := by
            intro v7 v8 hz
            rw [nI_1, g6, x4, show dep k = dep t by omega]
            refine ih t (step + 1) st g v7 v8 (by omega) (by omega) x6 (by omega) go r0 (fun j hj => hs j (by omega)) (fun _ _ => ?_) (fun g' hg' => ?_)
            · rw [x7]; exact b01
            · have := hQ g' hg'
              rw [evL_38j hlt h (by rw [show dep k - 1 = 0 by omega]; exact hz), x4, nI_clamp (by omega), show dep k = dep t by omega] at this
              exact this
          have pop : ∀ v7 v8 : Value, ¬ st 0 = 0 → XP G mX5_reckon (d + 1) 14 [.ref 33, .ref q, .int (nI v), .int (nI b), .int (if 0 < (nI (dep k) - 1) then (nI (dep k) - 1) else 0), .int (nI k + 1), .int (nI step + 1), v7, v8] [] sw g Q := by
            intro v7 v8 hz
            rw [nI_1, nI_1, show (if 0 < (nI (dep k) - 1) then (nI (dep k) - 1) else 0) = nI (dep (k + 1)) by rw [x1, x3]; decide]
            refine ih (k + 1) (step + 1) st g v7 v8 (by omega) (by omega) (by omega) (by omega) go r0 (fun j hj => absurd hj (by omega)) (fun _ z => absurd z (by omega)) (fun g' hg' => ?_)
            have := hQ g' hg'
            rw [evL_38p hlt h (by rw [show dep k - 1 = 0 by omega]; exact hz), show dep k - 1 = dep (k + 1) by omega] at this
            exact this
          exact bX5_reckon_14 hq (fun h => absurd h (n1)) (fun h => absurd h (n1)) (fun h => absurd h (n1)) (fun _ h => absurd h (n2)) (fun _ h => absurd h (n2)) (fun _ h => absurd h (n2)) (fun _ _ h => absurd h (n3)) (fun _ _ h => absurd h (n3)) (fun _ _ h => absurd h (n3)) (fun _ _ _ h => absurd (r0) h) (fun _ _ _ h => absurd (r0) h) (fun _ _ _ h => absurd (r0) h) (fun _ _ _ _ => vk) (fun _ _ _ _ => vk) (fun _ _ _ _ h => absurd h (m48)) (fun _ _ _ _ h => absurd h (m48)) (fun _ _ _ _ h => absurd h (m48)) (fun _ _ _ _ h => absurd h (m48)) (fun _ _ _ _ h => absurd h (m48)) (fun _ _ _ _ h => absurd h (m48)) (fun _ _ _ _ _ _ _ _ h => absurd h (n5)) (fun _ _ _ _ _ _ _ _ _ => vm) (fun _ _ _ _ _ _ _ _ _ h10 _ => (jmp _ _ (tp.symm.trans h10))) (fun _ _ _ _ _ _ _ _ _ _ h => absurd h (m124)) (fun _ _ _ _ _ _ _ _ _ h10 _ => (pop _ _ (fun z => h10 (tp.trans z)))) (fun _ _ _ _ _ _ _ _ _ _ h => absurd h (m124)) (fun _ _ _ _ _ _ _ h => absurd (e) h) (fun _ _ _ _ _ _ _ h => absurd (e) h) (fun _ _ _ _ _ _ _ h => absurd (e) h) (fun _ _ _ _ _ _ _ h => absurd (e) h) (fun _ _ _ _ _ _ _ h => absurd (e) h) (fun _ _ _ _ _ _ _ h => absurd (e) h) (fun _ _ _ _ _ _ _ h => absurd (e) h) (fun _ _ _ _ _ _ _ h => absurd (e) h) (fun _ _ _ _ _ _ _ h => absurd (e) h) (fun _ _ _ _ _ _ _ h => absurd (e) h) (fun _ _ _ _ _ _ h => absurd h (m33)) (fun _ _ _ _ _ _ h => absurd h (m33)) (fun _ _ _ _ _ _ h => absurd h (m33)) (fun _ _ _ _ _ _ h => absurd h (m33)) (fun _ _ _ _ _ _ h => absurd h (m33)) (fun _ _ _ _ _ _ h => absurd h (m33)) (fun _ _ _ _ _ h => absurd h (m97)) (fun _ _ _ _ _ h => absurd h (m97)) (fun _ _ _ _ _ h => absurd h (m97)) (fun _ _ _ _ _ h => absurd h (m97)) (fun _ _ _ _ _ h => absurd h (m97)) (fun _ _ _ _ _ h => absurd h (m97))
        · obtain ⟨x1, x2, x3, t, x4, x5, x6, x7, x8⟩ := w5 (Or.inr h)
          have e : g (q + 5) (nI k).toNatClampNeg = 124 := g5.trans h
          have m48 : ¬ g (q + 5) (nI k).toNatClampNeg = 48 := by rw [e]; decide
          have m97 : ¬ g (q + 5) (nI k).toNatClampNeg = 97 := by rw [e]; decide
          have m33 : ¬ g (q + 5) (nI k).toNatClampNeg = 33 := by rw [e]; decide
          have m38 : ¬ g (q + 5) (nI k).toNatClampNeg = 38 := by rw [e]; decide
          have n5 : ¬ nI (dep k) < 1 := by rw [x1]; decide
          have b01 := hbo x2 (by omega)
          rw [show dep k - 1 = 0 by omega] at b01
          have tp : g 35 (nI (dep k) - 1).toNatClampNeg = st 0 := by rw [x1]; exact hs 0 (by omega)
          have vm : vp_in (nI (dep k) - 1) 64 := by rw [x1]; exact vp_in_nI (n := 0) (by omega) (by omega)
          have jmp : ∀ v7 v8 : Value, st 0 = 1 → XP G mX5_reckon (d + 1) 14 [.ref 33, .ref q, .int (nI v), .int (nI b), .int (nI (dep k)), .int (g (q + 6) (nI k).toNatClampNeg), .int (nI step + 1), v7, v8] [] sw g Q := by
            intro v7 v8 hz
            rw [nI_1, g6, x4, show dep k = dep t by omega]
            refine ih t (step + 1) st g v7 v8 (by omega) (by omega) x6 (by omega) go r0 (fun j hj => hs j (by omega)) (fun _ _ => ?_) (fun g' hg' => ?_)
            · rw [x7]; exact b01
            · have := hQ g' hg'
              rw [evL_124j hlt h (by rw [show dep k - 1 = 0 by omega]; exact hz), x4, nI_clamp (by omega), show dep k = dep t by omega] at this
              exact this
          have pop : ∀ v7 v8 : Value, ¬ st 0 = 1 → XP G mX5_reckon (d + 1) 14 [.ref 33, .ref q, .int (nI v), .int (nI b), .int (if 0 < (nI (dep k) - 1) then (nI (dep k) - 1) else 0), .int (nI k + 1), .int (nI step + 1), v7, v8] [] sw g Q := by
            intro v7 v8 hz
            rw [nI_1, nI_1, show (if 0 < (nI (dep k) - 1) then (nI (dep k) - 1) else 0) = nI (dep (k + 1)) by rw [x1, x3]; decide]
            refine ih (k + 1) (step + 1) st g v7 v8 (by omega) (by omega) (by omega) (by omega) go r0 (fun j hj => absurd hj (by omega)) (fun _ z => absurd z (by omega)) (fun g' hg' => ?_)
            have := hQ g' hg'
            rw [evL_124p hlt h (by rw [show dep k - 1 = 0 by omega]; exact hz), show dep k - 1 = dep (k + 1) by omega] at this
            exact this
          exact bX5_reckon_14 hq (fun h => absurd h (n1)) (fun h => absurd h (n1)) (fun h => absurd h (n1)) (fun _ h => absurd h (n2)) (fun _ h => absurd h (n2)) (fun _ h => absurd h (n2)) (fun _ _ h => absurd h (n3)) (fun _ _ h => absurd h (n3)) (fun _ _ h => absurd h (n3)) (fun _ _ _ h => absurd (r0) h) (fun _ _ _ h => absurd (r0) h) (fun _ _ _ h => absurd (r0) h) (fun _ _ _ _ => vk) (fun _ _ _ _ => vk) (fun _ _ _ _ h => absurd h (m48)) (fun _ _ _ _ h => absurd h (m48)) (fun _ _ _ _ h => absurd h (m48)) (fun _ _ _ _ h => absurd h (m48)) (fun _ _ _ _ h => absurd h (m48)) (fun _ _ _ _ h => absurd h (m48)) (fun _ _ _ _ _ _ _ h => absurd h (m38)) (fun _ _ _ _ _ _ _ h => absurd h (m38)) (fun _ _ _ _ _ _ _ h => absurd h (m38)) (fun _ _ _ _ _ _ _ h => absurd h (m38)) (fun _ _ _ _ _ _ _ h => absurd h (m38)) (fun _ _ _ _ _ _ _ h => absurd h (m38)) (fun _ _ _ _ _ _ _ _ h => absurd (e) h) (fun _ _ _ _ _ _ _ _ h => absurd (e) h) (fun _ _ _ _ _ _ _ _ h => absurd (e) h) (fun _ _ _ _ _ _ _ _ h => absurd (e) h) (fun _ _ _ _ _ _ _ _ _ h => absurd h (n5)) (fun _ _ _ _ _ _ _ _ _ _ => vm) (fun _ _ _ _ _ _ _ _ _ _ _ h => absurd (e) h) (fun _ _ _ _ _ _ _ _ _ _ h11 _ => (pop _ _ (by rw [tp] at h11; rw [h11]; decide))) (fun _ _ _ _ _ _ _ _ _ _ _ h => absurd (e) h) (fun _ _ _ _ _ _ _ _ _ _ h11 _ => (jmp _ _ (b01.resolve_left (fun z => h11 (tp.trans z))))) (fun _ _ _ _ _ _ h => absurd h (m33)) (fun _ _ _ _ _ _ h => absurd h (m33)) (fun _ _ _ _ _ _ h => absurd h (m33)) (fun _ _ _ _ _ _ h => absurd h (m33)) (fun _ _ _ _ _ _ h => absurd h (m33)) (fun _ _ _ _ _ _ h => absurd h (m33)) (fun _ _ _ _ _ h => absurd h (m97)) (fun _ _ _ _ _ h => absurd h (m97)) (fun _ _ _ _ _ h => absurd h (m97)) (fun _ _ _ _ _ h => absurd h (m97)) (fun _ _ _ _ _ h => absurd h (m97)) (fun _ _ _ _ _ h => absurd h (m97))
  refine bX5_reckon_0 hq ?_
  have := loop 241 v 0 (fun _ => 0) (upd2 f 33 2 0) .null .null (by omega) (Nat.le_refl _) hvb (by omega) (fun x x1 _ => upd2_ne _ _ _ x1) (by rw [upd2_self, pk_us]) (fun j hj => absurd hj (by omega)) (fun _ z => absurd z (by omega)) (fun g' hg' => by rw [d0]; exact hQ g' hg')
  rw [d0] at this
  exact this
