theorem op_cheapest (G : GC) : OP21 G RR := by
  intro a1 a2 a3 sw f hR
  obtain ⟨h1, h2, h3, h4, h5, h6, h7⟩ := id hR
  by_cases c1 : 1 ≤ a1 ∧ a1 ≤ 5
  rotate_left
  · have ref : XP G mX11_cheapest 999 0 [.ref 82, .int a1, .int a2, .int a3, .null, .null] [] sw f (fun v2 sw2 f2 => v2 = some (.int (-1)) ∧ RR sw2 f2) := bX11_cheapest_0 (d := 996) (fun _ => ⟨rfl, hR⟩) (fun h => absurd h c1) (fun h => absurd h c1) (fun h => absurd h c1) (fun h => absurd h c1) (fun h => absurd h c1) (fun h => absurd h c1)
    exact bX10_cheapest_0 (d := 996) (fun _ _ => ⟨_, rfl, ref⟩) (fun _ h => absurd h c1) (fun _ h => absurd h c1) (fun _ _ _ => ⟨_, rfl, ref⟩) (fun _ _ h => absurd h c1) (fun _ _ h => absurd h c1) (fun _ _ _ => ⟨_, rfl, ref⟩) (fun _ _ h => absurd h c1) (fun _ _ h => absurd h c1)
  by_cases c2 : 1 ≤ a2 ∧ a2 ≤ 240
  rotate_left
  · have ref : XP G mX11_cheapest 999 0 [.ref 82, .int a1, .int a2, .int a3, .null, .null] [] sw f (fun v2 sw2 f2 => v2 = some (.int (-1)) ∧ RR sw2 f2) := bX11_cheapest_0 (d := 996) (fun h => absurd c1 h) (fun _ _ => ⟨rfl, hR⟩) (fun _ h => absurd h c2) (fun _ h => absurd h c2) (fun _ h => absurd h c2) (fun _ h => absurd h c2) (fun _ h => absurd h c2)
    exact bX10_cheapest_0 (d := 996) (fun _ h => absurd c1 h) (fun _ _ _ => ⟨_, rfl, ref⟩) (fun _ _ h => absurd h c2) (fun _ _ h => absurd c1 h) (fun _ _ _ _ => ⟨_, rfl, ref⟩) (fun _ _ _ h => absurd h c2) (fun _ _ h => absurd c1 h) (fun _ _ _ _ => ⟨_, rfl, ref⟩) (fun _ _ _ h => absurd h c2)
  obtain ⟨n, hn1, hn, rfl⟩ := le1_rng (K := 5) (by decide) c1 (by omega)
  obtain ⟨mi, hmi1, hmi, rfl⟩ := le1_rng (K := 240) (by decide) c2 (by omega)
  have en1 : nI n - 1 = nI (n - 1) := by rw [n_1]; exact pk_sub hn1
  by_cases c3 : ¬ (a3 = 100) ∧ ¬ (0 ≤ a3 ∧ a3 ≤ nI n - 1)
  · exact bX10_cheapest_0 (d := 996) (fun h => absurd h c3.1) (fun h => absurd h c3.1) (fun h => absurd h c3.1) (fun _ _ h => absurd c1 h) (fun _ _ _ h => absurd c2 h) (fun _ _ _ _ => ⟨_, rfl, bX11_cheapest_0 (d := 996) (fun h => absurd c1 h) (fun _ h => absurd c2 h) (fun _ _ h => absurd h c3.2) (fun _ _ h => absurd h c3.2) (fun _ _ _ _ => ⟨rfl, hR⟩) (fun _ _ _ h => absurd h c3.1) (fun _ _ _ h => absurd h c3.1)⟩) (fun _ h => absurd h c3.2) (fun _ h => absurd h c3.2) (fun _ h => absurd h c3.2)
  have e2n : 2 * nI n = nI (2 * n) := by rw [n_2, pk_mul]
  have enter : ∀ (u : FF) (r : Int32), 2 * nI n ≤ u 82 10 → XP G mX11_cheapest 999 57 [.ref 82, .int (nI n), .int (nI mi), .int a3, .int 0, .null] [] sw (upd2 u 82 10 0) (fun v2 sw2 f2 => v2 = some (.int r) ∧ RR sw2 f2) → XP G mX11_cheapest 999 0 [.ref 82, .int (nI n), .int (nI mi), .int a3, .null, .null] [] sw u (fun v2 sw2 f2 => v2 = some (.int r) ∧ RR sw2 f2) := by
    intro u r hu H
    exact bX11_cheapest_0 (d := 996) (fun h => absurd c1 h) (fun _ h => absurd c2 h) (fun _ _ _ _ => H) (fun _ _ _ h => absurd hu h) (fun _ _ q1 q2 => absurd ⟨q2, q1⟩ c3) (fun _ _ _ _ _ => H) (fun _ _ _ _ h => absurd hu h)
  have T : XP G mX8_take 998 0 [.ref 1, .int (2 * nI n)] [] sw f (fun v' sw' f' => XP G mX10_cheapest 999 59 [.ref 0, .int (nI n), .int (nI mi), .int a3, .int 1] (retst v' []) sw' f' (fun v sw1 f1 => ∃ r : Int32, v = some (.int r) ∧ XP G mX11_cheapest 999 0 [.ref 82, .int (nI n), .int (nI mi), .int a3, .null, .null] [] sw1 f1 (fun v2 sw2 f2 => v2 = some (.int r) ∧ RR sw2 f2))) := by
    rw [e2n]
    refine sp_take (by omega) h1 (fun hle g hs ht ho hpl => ?_) (fun hle => ?_)
    rotate_left
    · refine bX10_cheapest_59 (d := 996) (fun h => absurd rfl h) (fun _ => ⟨_, rfl, ?_⟩)
      have hle2 : ¬ 2 * nI n ≤ f 82 10 := by rw [e2n, h1.2.1]; exact hle
      exact bX11_cheapest_0 (d := 996) (fun h => absurd c1 h) (fun _ h => absurd c2 h) (fun _ _ _ h => absurd h hle2) (fun _ _ _ _ => ⟨rfl, hR⟩) (fun _ _ q1 q2 => absurd ⟨q2, q1⟩ c3) (fun _ _ _ _ h => absurd h hle2) (fun _ _ _ _ _ => ⟨rfl, hR⟩)
    refine bX10_cheapest_59 (d := 996) (fun _ => ?_) (fun h => absurd h (by decide))
    have g90 : g 90 = f 90 := ho 90 (by omega)
    have hleU : ∀ u : FF, OS g u → 2 * nI n ≤ u 82 10 := fun u os => by rw [os 82 (by omega), ho 82 (by omega), h1.2.1, e2n]; exact hle
    have gB0 : (fun k => byt g (2 * k)) = (fun k => byt f (2 * k)) := by funext k; exact byt_cg g90 _
    have gB1 : (fun k => byt g (2 * k + 1)) = (fun k => byt f (2 * k + 1)) := by funext k; exact byt_cg g90 _
    have F256 : ∀ i, (fun k => byt f (2 * k)) i < 256 := fun i => byt_lt f _
    have P256 : ∀ i, (fun k => byt f (2 * k + 1)) i < 256 := fun i => byt_lt f _
    have FB : ∀ j, byt f (2 * j) = (fun k => byt f (2 * k)) j := fun j => rfl
    have PB : ∀ j, byt f (2 * j + 1) = (fun k => byt f (2 * k + 1)) j := fun j => rfl
    generalize hFe : (fun k => byt f (2 * k)) = F at *
    generalize hPe : (fun k => byt f (2 * k + 1)) = P at *
    -- the reference's look at a tariff
    have one : ∀ (u : FF) (i : Nat) (r : Int32), OS g u → i < n → (okT F P i → XP G mX11_cheapest 999 57 [.ref 82, .int (nI n), .int (nI mi), .int a3, .int (nI (i + 1)), .null] [] sw (upd2 u 82 10 0) (fun v2 sw2 f2 => v2 = some (.int r) ∧ RR sw2 f2)) → (¬ okT F P i → r = -2) → XP G mX11_cheapest 999 57 [.ref 82, .int (nI n), .int (nI mi), .int a3, .int (nI i), .null] [] sw (upd2 u 82 10 0) (fun v2 sw2 f2 => v2 = some (.int r) ∧ RR sw2 f2) := by
      intro u i r os hi H hb
      have e90 : upd2 u 82 10 0 90 = f 90 := by rw [upd2_ne _ _ _ (by omega), os 90 (by omega), g90]
      have fin : RR sw (upd2 u 82 10 0) := RR_sumsM hR ho ht.2.2.1 os OM.rf
      have nle : ¬ nI n ≤ nI i := nI_ge (by omega) (by omega)
      have e2 : 2 * nI i = nI (2 * i) := by rw [n_2, pk_mul]
      have e21 : nI (2 * i) + 1 = nI (2 * i + 1) := nI_1 _
      have o1 : oct (upd2 u 82 10 0) (nI (2 * i)) = nI (F i) := by rw [oct_byt (by omega), byt_cg e90, FB]
      have o2 : oct (upd2 u 82 10 0) (nI (2 * i + 1)) = nI (P i) := by rw [oct_byt (by omega), byt_cg e90, PB]
      have b1 := F256 i
      have b2 := P256 i
      have e0 : nI (P i) = 0 ↔ P i = 0 := nI_eq (b := 0) (by omega) (by omega)
      refine bX11_cheapest_57 (d := 996) (fun h => absurd h nle) (fun _ => by rw [e2]; exact vp_in_nI (by omega) (by omega)) (fun _ h => ⟨?_, fin⟩) (fun _ _ => by rw [e2, e21]; exact vp_in_nI (by omega) (by omega)) (fun _ h h9 => ?_) (fun _ h h9 => ⟨?_, fin⟩)
      · rw [e2, o1, in160 b1] at h
        rw [hb (fun z => h z.1)]
      · rw [e2, o1, in160 b1] at h
        rw [e2, e21, o2, e0] at h9
        rw [nI_1]
        exact H ⟨h, h9⟩
      · rw [e2, e21, o2, e0] at h9
        rw [hb (fun z => z.2 h9)]
    refine sp_readTariffs (d := 996) (n := n) (by omega) ht (by omega) (fun good u os hu => ?_) (fun j hj h0 hm u os => ?_)
    rotate_left
    · rw [gB0, gB1] at h0
      have hm' : ∀ m, m < j → okT F P m := fun m hm2 => by have := hm m hm2; rw [gB0, gB1] at this; exact this
      refine bX10_cheapest_72 (d := 996) (fun h => absurd rfl h) (fun h => absurd rfl h) (fun _ => ⟨_, rfl, enter u _ (hleU u os) ?_⟩)
      have loop : ∀ (l q : Nat), q + l = j → XP G mX11_cheapest 999 57 [.ref 82, .int (nI n), .int (nI mi), .int a3, .int (nI q), .null] [] sw (upd2 u 82 10 0) (fun v2 sw2 f2 => v2 = some (.int (-2)) ∧ RR sw2 f2) := by
        intro l
        induction l with
        | zero => intro q hq; exact one u q _ os (by omega) (fun hk => absurd hk (by rw [show q = j by omega]; exact h0)) (fun _ => rfl)
        | succ l il => intro q hq; exact one u q _ os (by omega) (fun _ => il (q + 1) (by omega)) (fun _ => rfl)
      exact loop j 0 (by omega)
    rw [gB0, gB1] at good
    have hu' : ∀ j, j < n → u 15 j = nI (F j) ∧ u 16 j = nI (P j) := fun j hj => by
      have := hu j hj
      rw [byt_cg g90, byt_cg g90, FB, PB] at this
      exact this
    have hF : ∀ i, i < n → 1 ≤ F i := fun i hi => (good i hi).1.1
    have hP0 : ∀ i, i < n → 1 ≤ P i := fun i hi => by have := (good i hi).2; omega
    -- the reference up to its first row
    have refL : ∀ (w : FF) (r : Int32), OS g w → (∀ x : FF, OM (upd2 w 82 10 0) x → (∀ m, m ≤ mi → x 108 m = nI (L F P n 0 m)) → ∀ v5, XP G mX11_cheapest 999 112 [.ref 82, .int (nI n), .int (nI mi), .int a3, .int (nI (mi + 1)), v5] [] sw x (fun v2 sw2 f2 => v2 = some (.int r) ∧ RR sw2 f2)) → XP G mX11_cheapest 999 0 [.ref 82, .int (nI n), .int (nI mi), .int a3, .null, .null] [] sw w (fun v2 sw2 f2 => v2 = some (.int r) ∧ RR sw2 f2) := by
      intro w r ow H
      refine enter w r (hleU w ow) ?_
      have e90 : upd2 w 82 10 0 90 = f 90 := by rw [upd2_ne _ _ _ (by omega), ow 90 (by omega), g90]
      have scan : ∀ (l q : Nat), q + l = n → XP G mX11_cheapest 999 57 [.ref 82, .int (nI n), .int (nI mi), .int a3, .int (nI q), .null] [] sw (upd2 w 82 10 0) (fun v2 sw2 f2 => v2 = some (.int r) ∧ RR sw2 f2) := by
        intro l
        induction l with
        | succ l il => intro q hq; exact one w q _ ow (by omega) (fun _ => il (q + 1) (by omega)) (fun h => absurd (good q (by omega)) h)
        | zero =>
          intro q hq
          have hle9 : nI n ≤ nI q := nI_le (by omega) (by omega)
          refine bX11_cheapest_57 (d := 996) (fun _ => ?_) (fun h => absurd hle9 h) (fun h => absurd hle9 h) (fun h => absurd hle9 h) (fun h => absurd hle9 h) (fun h => absurd hle9 h)
          have outer : ∀ (l m : Nat) (x : FF) (v5 : Value), 1 ≤ m → m + l = mi + 1 → OM (upd2 w 82 10 0) x → (∀ j, j < m → x 108 j = nI (L F P n 0 j)) → XP G mX11_cheapest 999 112 [.ref 82, .int (nI n), .int (nI mi), .int a3, .int (nI m), v5] [] sw x (fun v2 sw2 f2 => v2 = some (.int r) ∧ RR sw2 f2) := by
            intro l
            induction l with
            | zero =>
              intro m x v5 hm1 hm xo xr
              have := H x xo (fun j hj => xr j (by omega)) v5
              rw [show mi + 1 = m by omega] at this
              exact this
            | succ l il =>
              intro m x v5 hm1 hm xo xr
              have nlt : ¬ nI mi < nI m := nI_nlt (by omega) (by omega)
              have vm : vp_in (nI m) 241 := vp_in_nI (by omega) (by omega)
              have cm : (nI m).toNatClampNeg = m := nI_clamp (by omega)
              refine bX11_cheapest_112 (d := 996) (fun h => absurd h nlt) (fun h => absurd h nlt) (fun h => absurd h nlt) (fun _ => vm) (fun _ => ?_)
              rw [cm]
              have inner : ∀ (q i : Nat) (z : FF), i + q = n → OM (upd2 w 82 10 0) z → (∀ j, j < m → z 108 j = nI (L F P n 0 j)) → z 108 m = nI (lpI F P (L F P n 0) 0 m i) → XP G mX11_cheapest 999 131 [.ref 82, .int (nI n), .int (nI mi), .int a3, .int (nI m), .int (nI i)] [] sw z (fun v2 sw2 f2 => v2 = some (.int r) ∧ RR sw2 f2) := by
                intro q
                induction q with
                | zero =>
                  intro i z hi zo zr zm
                  have e : i = n := by omega
                  subst e
                  have hle : nI i ≤ nI i := nI_le (Nat.le_refl _) (by omega)
                  refine bX11_cheapest_131 (d := 996) (fun _ => ?_) (fun h => absurd hle h) (fun h => absurd hle h) (fun h => absurd hle h) (fun h => absurd hle h) (fun h => absurd hle h) (fun h => absurd hle h)
                  rw [nI_1]
                  refine il (m + 1) z _ (by omega) (by omega) zo (fun j hj => ?_)
                  by_cases y : j = m
                  · rw [y, zm]
                    obtain ⟨m', rfl⟩ : ∃ m', m = m' + 1 := ⟨m - 1, by omega⟩
                    rw [L_succ hF]
                  · exact zr j (by omega)
                | succ q iq =>
                  intro i z hi zo zr zm
                  have nle : ¬ nI n ≤ nI i := nI_ge (by omega) (by omega)
                  have z90 : z 90 = f 90 := by rw [zo 90 (by omega), e90]
                  have e2 : 2 * nI i = nI (2 * i) := by rw [n_2, pk_mul]
                  have e21 : nI (2 * i) + 1 = nI (2 * i + 1) := nI_1 _
                  have o1 : oct z (nI (2 * i)) = nI (F i) := by rw [oct_byt (by omega), byt_cg z90, FB]
                  have o2 : oct z (nI (2 * i + 1)) = nI (P i) := by rw [oct_byt (by omega), byt_cg z90, PB]
                  have b1 := hF i (by omega)
                  have b2 := F256 i
                  have b3 := P256 i
                  have b4 := L_far (P := P) (k := 0) hF (m - F i)
                  have b5 := lpI_far F P (L F P n 0) 0 m i
                  have ix : mxI 0 (nI m - oct z (2 * nI i)) = nI (m - F i) := by rw [e2, o1]; exact mx0' (by omega) (by omega)
                  have cx : (nI (m - F i)).toNatClampNeg = m - F i := nI_clamp (by omega)
                  refine bX11_cheapest_131 (d := 996) (fun h => absurd h nle) (fun _ => vm) (fun _ => by rw [e2, e21]; exact vp_in_nI (by omega) (by omega)) (fun _ => by rw [e2]; exact vp_in_nI (by omega) (by omega)) (fun _ => by rw [ix]; exact vp_in_nI (by omega) (by omega)) (fun _ => vm) (fun _ => ?_)
                  rw [ix, cm, cx, e2, e21, o2, zm, zr (m - F i) (by omega), nI_add, mn_mn (by omega) (by omega), nI_1]
                  refine iq (i + 1) _ (by omega) (zo.up (by omega)) (fun j hj => by rw [upd2_self, pk_un (by omega)]; exact zr j hj) ?_
                  rw [upd2_self, pk_us, mnN_comm, Nat.add_comm (P i)]
                  rfl
              exact inner n 0 _ (by omega) (xo.up (by omega)) (fun j hj => by rw [upd2_self, pk_un (by omega)]; exact xr j hj) (by rw [upd2_self, pk_us]; rfl)
          refine outer mi 1 _ _ (by omega) (by omega) (OM.rf.up (by omega)) (fun j hj => ?_)
          rw [show j = 0 by omega, upd2_self, pk_us]
          rfl
      exact scan n 0 (by omega)
    have hlt : nI mi < nI (mi + 1) := nI_lt (by omega) (by omega)
    refine bX10_cheapest_72 (d := 996) (fun _ hz => ?_) (fun _ hz => ?_) (fun h => absurd h (by decide))
    · have c4 : 0 ≤ a3 ∧ a3 ≤ nI (n - 1) := by
        by_cases y : 0 ≤ a3 ∧ a3 ≤ nI n - 1
        · rw [en1] at y; exact y
        · exact absurd ⟨hz, y⟩ c3
      obtain ⟨wh, hwh, rfl⟩ := rng (K := n - 1) (nI_toInt (by omega)) c4
      refine sp_howOften (d := 997) hn (by omega) hmi hF F256 hP0 P256 hu' (fun w wo => bX10_cheapest_107 ⟨_, rfl, refL w _ (os.tr (fun c hc => wo c (by omega))) (fun x xo xr v5 => ?_)⟩)
      refine bX11_cheapest_112 (d := 996) (fun _ _ => ?_) (fun _ h => absurd h hz) (fun _ h => absurd h hz) (fun h => absurd hlt h) (fun h => absurd hlt h)
      have x90 : x 90 = f 90 := by rw [xo 90 (by omega), upd2_ne _ _ _ (by omega), wo 90 (by omega), os 90 (by omega), g90]
      refine sp_timesOf (d := 996) hn (by omega) hmi hF F256 P256 (fun j => by rw [byt_cg x90, byt_cg x90, FB, PB]; exact ⟨rfl, rfl⟩) (fun y yo => bX11_cheapest_217 (d := 996) ⟨rfl, ?_⟩)
      exact RR_sumsM hR ho ht.2.2.1 (os.tr (fun c hc => wo c (by omega)) : OS g w) (xo.tr (fun c hc => yo c (by omega)))
    · refine sp_leastPence (k := 0) hn (by omega) hmi hF F256 P256 hu' (fun w wo wr => bX10_cheapest_94 ⟨_, rfl, refL w _ (os.tr (fun c hc => wo c (by omega))) (fun x xo xr v5 => ?_)⟩)
      refine bX11_cheapest_112 (d := 996) (fun _ h => absurd hz h) (fun _ _ => vp_in_nI (by omega) (by omega)) (fun _ _ => ⟨?_, ?_⟩) (fun h => absurd hlt h) (fun h => absurd hlt h)
      · rw [nI_clamp (by omega), xr mi (Nat.le_refl _)]
      · exact RR_sumsM hR ho ht.2.2.1 (os.tr (fun c hc => wo c (by omega)) : OS g w) xo
  refine bX10_cheapest_0 (d := 996) (fun _ h => absurd c1 h) (fun _ _ h => absurd c2 h) (fun _ _ _ => T) (fun _ _ h => absurd c1 h) (fun _ _ _ h => absurd c2 h) (fun q1 q2 _ _ => absurd ⟨q1, q2⟩ c3) (fun _ _ h => absurd c1 h) (fun _ _ _ h => absurd c2 h) (fun _ _ _ _ => T)
