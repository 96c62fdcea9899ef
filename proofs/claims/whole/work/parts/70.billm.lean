/-! ===== the reference reads a bill ===== -/
def MB (f g : FF) : Prop := (∀ c, c ≠ 82 → c ≠ 83 → g c = f c) ∧ ∀ j, j ≠ 11 → j ≠ 13 → j ≠ 14 → j ≠ 33 → g 82 j = f 82 j
theorem MB.rf (f : FF) : MB f f := ⟨fun _ _ _ => rfl, fun _ _ _ _ _ => rfl⟩
theorem MB.tr {f g h : FF} (a : MB f g) (b : MB g h) : MB f h := ⟨fun c c1 c2 => (b.1 c c1 c2).trans (a.1 c c1 c2), fun j h1 h2 h3 h4 => (b.2 j h1 h2 h3 h4).trans (a.2 j h1 h2 h3 h4)⟩
theorem MB.ot {f g : FF} (o : MOT f g) : MB f g := ⟨fun c c1 _ => o.1 c c1, fun j h1 h2 h3 _ => o.2 j h1 h2 h3⟩
theorem MB.up {f g : FF} {c j : Nat} {x : Int32} (a : MB f g) (hc : c = 83 ∨ (c = 82 ∧ (j = 11 ∨ j = 13 ∨ j = 14 ∨ j = 33))) : MB f (upd2 g c j x) := by
  refine ⟨fun k k1 k2 => by rw [upd2_ne _ _ _ (by omega)]; exact a.1 k k1 k2, fun k h1 h2 h3 h4 => ?_⟩
  rcases hc with rfl | ⟨rfl, z⟩
  · rw [upd2_ne _ _ _ (by omega)]; exact a.2 k h1 h2 h3 h4
  · rw [upd2_self, pk_un (by omega)]; exact a.2 k h1 h2 h3 h4
theorem sp_readsMore {G : GC} {d : Nat} {sw : Bool} {f : FF} {Q : QQ} {n p k : Nat} (ht : MX f n p) (hk : k < 391) (hE : ∀ (e : Int32) (g : FF), (tx (f 90) n p = 43 ∨ tx (f 90) n p = 45 → numR (f 90) n (p + 1) = .error e) → (¬ (tx (f 90) n p = 43 ∨ tx (f 90) n p = 45) → e = er 1 p) → MB f g → g 82 33 = f 82 33 → g 82 13 = e → Q (some (.int 0)) sw g) (hO : ∀ (p' : Nat) (v : Int32) (g : FF), (tx (f 90) n p = 43 ∨ tx (f 90) n p = 45) → numR (f 90) n (p + 1) = .ok (p', v) → MB f g → g 82 33 = f 82 33 → MX g n p' → g 83 = upd (f 83) k (mxI 0 (mnI 999999 (f 83 k + (if tx (f 90) n p = 43 then v else -v)))) → Q (some (.int 1)) sw g) : XP G mX11_readsMore (d + 3) 0 [.ref 82, .int (nI k), .null] [] sw f Q := by
  have a0 := ht.here
  have ck : (nI k).toNatClampNeg = k := nI_clamp (by omega)
  have vk : vp_in (nI k) 391 := vp_in_nI hk (by omega)
  have pen : (tx (f 90) n p = 43 ∨ tx (f 90) n p = 45) → XP G mX11_readsPence (d + 2) 0 [.ref 82, .null] [] sw (upd2 f 82 11 ((f 82 11) + 1)) (fun v sw' f' => XP G mX11_readsMore (d + 3) 41 [.ref 82, .int (nI k), .int (hereF f)] (retst v []) sw' f' Q) := by
    intro h43
    have hlt : p < n := by
      refine tx_in (c := tx (f 90) n p) rfl ?_
      rcases h43 with z | z <;> rw [z] <;> decide
    have hM : MX (upd2 f 82 11 ((f 82 11) + 1)) n (p + 1) := ⟨by rw [upd2_self, pk_un (by omega)]; exact ht.1, ht.2.1, by rw [upd2_self, pk_us, ht.2.2.1, nI_1], hlt⟩
    have e90 : upd2 f 82 11 ((f 82 11) + 1) 90 = f 90 := upd2_ne _ _ _ (by omega)
    have o1 : MOT f (upd2 f 82 11 ((f 82 11) + 1)) := (MOT.rf f).up (by omega)
    refine sp_readsPence hM (fun e g hr o e5 => ?_) (fun p' v g hr hp1 o hM2 g4 => ?_)
    · rw [e90] at hr
      exact bX11_readsMore_41 (fun h => absurd rfl h) (fun h => absurd rfl h) (fun h => absurd rfl h) (fun h => absurd rfl h) (fun h => absurd rfl h) (fun _ => hE e g (fun _ => hr) (fun h => absurd h43 h) (MB.ot (o1.tr o)) ((o1.tr o).2 33 (by omega) (by omega) (by omega)) e5)
    · rw [e90] at hr
      have oo := o1.tr o
      have g83 : g 83 = f 83 := oo.1 83 (by omega)
      have fin : ∀ y : Int32, y = (if tx (f 90) n p = 43 then v else -v) → Q (some (.int 1)) sw (upd2 g 83 k (mxI 0 (mnI 999999 (g 83 k + y)))) := by
        intro y hy
        refine hO p' v _ h43 hr ((MB.ot oo).up (by omega)) (by rw [upd2_ne _ _ _ (by omega)]; exact oo.2 33 (by omega) (by omega) (by omega)) ⟨by rw [upd2_ne _ _ _ (by omega)]; exact hM2.1, hM2.2.1, by rw [upd2_ne _ _ _ (by omega)]; exact hM2.2.2.1, hM2.2.2.2⟩ ?_
        rw [upd2_self, g83, hy]
      refine bX11_readsMore_41 (fun _ => vk) (fun _ _ => vk) (fun _ z => ?_) (fun _ _ => vk) (fun _ z => ?_) (fun h => absurd h (by decide))
      · rw [ck, g4]; rw [a0] at z; exact fin _ (by rw [if_neg z])
      · rw [ck, g4]; rw [a0] at z; exact fin _ (by rw [if_pos z])
  by_cases c43 : tx (f 90) n p = 43
  · exact bX11_readsMore_0 ht.vp (fun _ => pen (Or.inl c43)) (fun h => absurd (a0.trans c43) h) (fun h => absurd (a0.trans c43) h)
  · by_cases c45 : tx (f 90) n p = 45
    · exact bX11_readsMore_0 ht.vp (fun _ => pen (Or.inr c45)) (fun _ _ => pen (Or.inr c45)) (fun _ h => absurd (a0.trans c45) h)
    · have n43 : ¬ (tx (f 90) n p = 43 ∨ tx (f 90) n p = 45) := fun z => z.elim c43 c45
      exact bX11_readsMore_0 ht.vp (fun h => absurd (a0.symm.trans h) c43) (fun _ h => absurd (a0.symm.trans h) c45) (fun _ _ => sp_wrongAt (w := 1) ht.2.2.1 (bX11_readsMore_26 (Or.inl rfl) (hE _ _ (fun h => absurd h n43) (fun _ => rfl) ((MB.rf f).up (by omega)) (by rw [upd2_self, pk_un (by omega)]) (by rw [upd2_self, pk_us]))))
theorem sp_readsLine {G : GC} {d : Nat} {sw : Bool} {f : FF} {Q : QQ} {n p i : Nat} {a : Nat → Int32} (ht : MX f n p) (hi : i ≤ 20) (h33 : f 82 33 = nI i) (hr : rOk (f 83)) (hb : ∀ x, x < 16 → f 83 x = a x) (hE : ∀ (e : Int32) (g : FF), lineP (f 90) n a i p = .error e → MB f g → g 82 13 = e → Q (some (.int 0)) sw g) (hO : ∀ (r : Nat × BL) (g : FF), lineP (f 90) n a i p = .ok r → MB f g → MX g n r.1 → g 82 33 = nI (i + 1) → g 83 = apR (f 83) r.2 → Q (some (.int 1)) sw g) : XP G mX11_readsLine (d + 4) 0 [.ref 82, .null, .null] [] sw f Q := by
  have a0 := ht.here
  have h260 := ht.2.1
  have i20 : f 82 33 = 20 ↔ i = 20 := by rw [h33]; exact nI_eq (b := 20) (by omega) (by omega)
  by_cases c1 : tx (f 90) n p = 70
  · have k1 : hereF f = 70 := a0.trans c1
    by_cases c2 : i = 20
    · have k2 : f 82 33 = 20 := i20.mpr c2
      have hw : lineP (f 90) n a i p = .error (er 4 p) := by unfold lineP whoP; rw [if_pos c1, if_neg (by omega)]
      exact bX11_readsLine_0  (fun h1 => (ht.vp h1)) (fun _ h => absurd (k2) h) (fun _ h => absurd (k2) h) (fun _ h => absurd (k2) h) (fun _ h => absurd (k2) h) (fun _ h => absurd (k2) h) (fun _ h => absurd (k2) h) (fun _ h => absurd (k2) h) (fun _ h => absurd (k2) h) (fun _ h => absurd (k2) h) (fun _ h => absurd (k2) h) (fun _ h => absurd (k2) h) (fun _ h => absurd (k2) h) (fun _ h => absurd (k2) h) (fun _ h => absurd (k2) h) (fun _ h => absurd (k2) h) (fun _ h => absurd (k2) h) (fun _ h => absurd (k2) h) (fun _ h => absurd (k2) h) (fun _ h => absurd (k2) h) (fun _ h => absurd (k2) h) (fun _ h => absurd (k2) h) (fun _ h => absurd (k2) h) (fun _ h => absurd (k2) h) (fun _ h => absurd (k2) h) (fun _ h => absurd (k2) h) (fun _ h => absurd (k2) h) (fun _ h => absurd (k2) h) (fun _ _ => (sp_wrongAt (w := 4) ht.2.2.1 (bX11_readsLine_54 (Or.inl rfl) (hE _ _ hw ((MB.rf f).up (by omega)) (by rw [upd2_self, pk_us]))))) (fun h => absurd (k1) h) (fun h => absurd (k1) h) (fun h => absurd (k1) h) (fun h => absurd (k1) h) (fun h => absurd (k1) h) (fun h => absurd (k1) h) (fun h => absurd (k1) h) (fun h => absurd (k1) h) (fun h => absurd (k1) h) (fun h => absurd (k1) h) (fun h => absurd (k1) h) (fun h => absurd (k1) h) (fun h => absurd (k1) h) (fun h => absurd (k1) h) (fun h => absurd (k1) h) (fun h => absurd (k1) h) (fun h => absurd (k1) h) (fun h => absurd (k1) h) (fun h => absurd (k1) h) (fun h => absurd (k1) h) (fun h => absurd (k1) h) (fun h => absurd (k1) h) (fun h => absurd (k1) h) (fun h => absurd (k1) h) (fun h => absurd (k1) h) (fun h => absurd (k1) h) (fun h => absurd (k1) h) (fun h => absurd (k1) h) (fun h => absurd (k1) h)
    · have k2 : ¬ f 82 33 = 20 := fun z => c2 (i20.mp z)
      have hw : lineP (f 90) n a i p = whatP (f 90) n (p + 1) 16 := by unfold lineP whoP; rw [if_pos c1, if_pos (by omega)]
      have hlt : p < n := tx_in c1 (by decide)
      have hM : MX (upd2 (upd2 f 82 33 ((f 82 33) + 1)) 82 11 (((upd2 f 82 33 ((f 82 33) + 1)) 82 11) + 1)) n (p + 1) := ⟨by rw [upd2_self, pk_un (by omega), upd2_self, pk_un (by omega)]; exact ht.1, h260, by rw [upd2_self, pk_us, upd2_self, pk_un (by omega), ht.2.2.1, nI_1], hlt⟩
      have oZ : MB f (upd2 (upd2 f 82 33 ((f 82 33) + 1)) 82 11 (((upd2 f 82 33 ((f 82 33) + 1)) 82 11) + 1)) := ((MB.rf f).up (by omega)).up (by omega)
      have z33 : (upd2 (upd2 f 82 33 ((f 82 33) + 1)) 82 11 (((upd2 f 82 33 ((f 82 33) + 1)) 82 11) + 1)) 82 33 = nI (i + 1) := by rw [upd2_self, pk_un (by omega), upd2_self, pk_us, h33, nI_1]
      have z90 : (upd2 (upd2 f 82 33 ((f 82 33) + 1)) 82 11 (((upd2 f 82 33 ((f 82 33) + 1)) 82 11) + 1)) 90 = f 90 := oZ.1 90 (by omega) (by omega)
      have z83 : (upd2 (upd2 f 82 33 ((f 82 33) + 1)) 82 11 (((upd2 f 82 33 ((f 82 33) + 1)) 82 11) + 1)) 83 = f 83 := by rw [upd2_ne _ _ _ (by omega), upd2_ne _ _ _ (by omega)]
      refine bX11_readsLine_0  (fun h1 => (ht.vp h1)) (fun _ _ _ h => absurd (k1) h) (fun _ _ _ h => absurd (k1) h) (fun _ _ _ h => absurd (k1) h) (fun _ _ _ h => absurd (k1) h) (fun _ _ _ h => absurd (k1) h) (fun _ _ _ h => absurd (k1) h) (fun _ _ _ h => absurd (k1) h) (fun _ _ _ h => absurd (k1) h) (fun _ _ _ h => absurd (k1) h) (fun _ _ _ h => absurd (k1) h) (fun _ _ _ h => absurd (k1) h) (fun _ _ _ h => absurd (k1) h) (fun _ _ _ _ => ?_) (fun _ _ h => absurd (k1) h) (fun _ _ h => absurd (k1) h) (fun _ _ h => absurd (k1) h) (fun _ _ h => absurd (k1) h) (fun _ _ h => absurd (k1) h) (fun _ _ h => absurd (k1) h) (fun _ _ h => absurd (k1) h) (fun _ _ h => absurd (k1) h) (fun _ _ h => absurd (k1) h) (fun _ _ h => absurd (k1) h) (fun _ _ h => absurd (k1) h) (fun _ _ h => absurd (k1) h) (fun _ _ h => absurd (k1) h) (fun _ _ h => absurd (k1) h) (fun _ h => absurd h (k2)) (fun h => absurd (k1) h) (fun h => absurd (k1) h) (fun h => absurd (k1) h) (fun h => absurd (k1) h) (fun h => absurd (k1) h) (fun h => absurd (k1) h) (fun h => absurd (k1) h) (fun h => absurd (k1) h) (fun h => absurd (k1) h) (fun h => absurd (k1) h) (fun h => absurd (k1) h) (fun h => absurd (k1) h) (fun h => absurd (k1) h) (fun h => absurd (k1) h) (fun h => absurd (k1) h) (fun h => absurd (k1) h) (fun h => absurd (k1) h) (fun h => absurd (k1) h) (fun h => absurd (k1) h) (fun h => absurd (k1) h) (fun h => absurd (k1) h) (fun h => absurd (k1) h) (fun h => absurd (k1) h) (fun h => absurd (k1) h) (fun h => absurd (k1) h) (fun h => absurd (k1) h) (fun h => absurd (k1) h) (fun h => absurd (k1) h) (fun h => absurd (k1) h)
      generalize (upd2 (upd2 f 82 33 ((f 82 33) + 1)) 82 11 (((upd2 f 82 33 ((f 82 33) + 1)) 82 11) + 1)) = g at *
      refine sp_readsMore (k := 388) hM (by omega) (fun e g2 q1 q2 o2 p33 e5 => bX11_readsLine_113 (Or.inl rfl) (hE e g2 ?_ (oZ.tr o2) e5)) (fun p' v g2 h43 q1 o2 p33 hM2 r83 => bX11_readsLine_113 (Or.inr rfl) (hO (p', (16, tx (f 90) n (p + 1), if tx (f 90) n (p + 1) = 43 then v else -v)) g2 ?_ (oZ.tr o2) hM2 (by rw [p33]; exact z33) ?_))
      · rw [hw]
        rw [z90] at q1 q2
        unfold whatP
        by_cases c43 : tx (f 90) n (p + 1) = 43 ∨ tx (f 90) n (p + 1) = 45
        · rw [if_pos c43, q1 c43]
        · rw [if_neg c43, if_neg (fun z => z.2 rfl), q2 c43]
      · rw [hw]
        rw [z90] at q1 h43
        unfold whatP
        rw [if_pos h43, q1]
      · rw [r83, z83, z90]
        unfold apR
        rw [if_pos rfl]
  · have k1 : ¬ hereF f = 70 := fun z => c1 (a0.symm.trans z)
    by_cases c3 : 97 ≤ tx (f 90) n p ∧ tx (f 90) n p ≤ 112
    · obtain ⟨s, hs, es, es2⟩ := letter c3
      have as : hereF f - 97 = nI s := by rw [a0]; exact es
      have k3 : 0 ≤ hereF f - 97 ∧ hereF f - 97 ≤ 15 := by rw [as]; exact ⟨nI_pos' (by omega), nI_le (b := 15) (by omega) (by omega)⟩
      by_cases c2 : i = 20
      · have k2 : f 82 33 = 20 := i20.mpr c2
        have hw : lineP (f 90) n a i p = .error (er 4 p) := by unfold lineP whoP; rw [if_neg c1, if_pos c3, if_neg (by omega)]
        exact bX11_readsLine_0  (fun h1 => (ht.vp h1)) (fun h => absurd h (k1)) (fun h => absurd h (k1)) (fun h => absurd h (k1)) (fun h => absurd h (k1)) (fun h => absurd h (k1)) (fun h => absurd h (k1)) (fun h => absurd h (k1)) (fun h => absurd h (k1)) (fun h => absurd h (k1)) (fun h => absurd h (k1)) (fun h => absurd h (k1)) (fun h => absurd h (k1)) (fun h => absurd h (k1)) (fun h => absurd h (k1)) (fun h => absurd h (k1)) (fun h => absurd h (k1)) (fun h => absurd h (k1)) (fun h => absurd h (k1)) (fun h => absurd h (k1)) (fun h => absurd h (k1)) (fun h => absurd h (k1)) (fun h => absurd h (k1)) (fun h => absurd h (k1)) (fun h => absurd h (k1)) (fun h => absurd h (k1)) (fun h => absurd h (k1)) (fun h => absurd h (k1)) (fun h => absurd h (k1)) (fun _ _ h => absurd (k2) h) (fun _ _ h => absurd (k2) h) (fun _ _ h => absurd (k2) h) (fun _ _ h => absurd (k2) h) (fun _ _ h => absurd (k2) h) (fun _ _ h => absurd (k2) h) (fun _ _ h => absurd (k2) h) (fun _ _ h => absurd (k2) h) (fun _ _ h => absurd (k2) h) (fun _ _ h => absurd (k2) h) (fun _ _ h => absurd (k2) h) (fun _ _ h => absurd (k2) h) (fun _ _ h => absurd (k2) h) (fun _ _ h => absurd (k2) h) (fun _ _ h => absurd (k2) h) (fun _ _ h => absurd (k2) h) (fun _ _ h => absurd (k2) h) (fun _ _ h => absurd (k2) h) (fun _ _ h => absurd (k2) h) (fun _ _ h => absurd (k2) h) (fun _ _ h => absurd (k2) h) (fun _ _ h => absurd (k2) h) (fun _ _ h => absurd (k2) h) (fun _ _ h => absurd (k2) h) (fun _ _ h => absurd (k2) h) (fun _ _ h => absurd (k2) h) (fun _ _ h => absurd (k2) h) (fun _ _ _ => (sp_wrongAt (w := 4) ht.2.2.1 (bX11_readsLine_54 (Or.inl rfl) (hE _ _ hw ((MB.rf f).up (by omega)) (by rw [upd2_self, pk_us]))))) (fun _ h => absurd (k3) h)
      · have k2 : ¬ f 82 33 = 20 := fun z => c2 (i20.mp z)
        have tm : toldM (upd2 f 82 33 ((f 82 33) + 1)) (hereF f - 97) ↔ a s = 1 := by
          rw [as, toldM_iff (by omega), upd2_ne _ _ _ (by omega), hb s (by omega)]
        by_cases c4 : a s = 1
        · have k4 := tm.mpr c4
          have hw : lineP (f 90) n a i p = whatP (f 90) n (p + 1) s := by unfold lineP whoP; rw [if_neg c1, if_pos c3, if_pos (by omega), es, nI_clamp (by omega), if_pos c4]
          have hlt : p < n := tx_in es2 (nI_ne_m1 (by omega))
          have hM : MX (upd2 (upd2 f 82 33 ((f 82 33) + 1)) 82 11 (((upd2 f 82 33 ((f 82 33) + 1)) 82 11) + 1)) n (p + 1) := ⟨by rw [upd2_self, pk_un (by omega), upd2_self, pk_un (by omega)]; exact ht.1, h260, by rw [upd2_self, pk_us, upd2_self, pk_un (by omega), ht.2.2.1, nI_1], hlt⟩
          have oZ : MB f (upd2 (upd2 f 82 33 ((f 82 33) + 1)) 82 11 (((upd2 f 82 33 ((f 82 33) + 1)) 82 11) + 1)) := ((MB.rf f).up (by omega)).up (by omega)
          have z33 : (upd2 (upd2 f 82 33 ((f 82 33) + 1)) 82 11 (((upd2 f 82 33 ((f 82 33) + 1)) 82 11) + 1)) 82 33 = nI (i + 1) := by rw [upd2_self, pk_un (by omega), upd2_self, pk_us, h33, nI_1]
          have z90 : (upd2 (upd2 f 82 33 ((f 82 33) + 1)) 82 11 (((upd2 f 82 33 ((f 82 33) + 1)) 82 11) + 1)) 90 = f 90 := oZ.1 90 (by omega) (by omega)
          have z83 : (upd2 (upd2 f 82 33 ((f 82 33) + 1)) 82 11 (((upd2 f 82 33 ((f 82 33) + 1)) 82 11) + 1)) 83 = f 83 := by rw [upd2_ne _ _ _ (by omega), upd2_ne _ _ _ (by omega)]
          have hereZ : hereF (upd2 (upd2 f 82 33 ((f 82 33) + 1)) 82 11 (((upd2 f 82 33 ((f 82 33) + 1)) 82 11) + 1)) = tx (f 90) n (p + 1) := by rw [hM.here, z90]
          have e32 : ((32 : Int32) + nI s) = nI (32 + s) := by rw [n_32, nI_add]
          have e48 : ((48 : Int32) + nI s) = nI (48 + s) := by rw [n_48, nI_add]
          have e64 : ((64 : Int32) + nI s) = nI (64 + s) := by rw [n_64, nI_add]
          have e80 : ((80 : Int32) + nI s) = nI (80 + s) := by rw [n_80, nI_add]
          have v32 : vp_in (32 + (hereF f - 97)) 391 := by rw [as, e32]; exact vp_in_nI (by omega) (by omega)
          have v48 : vp_in (48 + (hereF f - 97)) 391 := by rw [as, e48]; exact vp_in_nI (by omega) (by omega)
          have v64 : vp_in (64 + (hereF f - 97)) 391 := by rw [as, e64]; exact vp_in_nI (by omega) (by omega)
          -- what a sign does
          have flag : ∀ (x : Int32) (k : Nat) (v : Int32), x = nI k → k < 391 → isFl5 (tx (f 90) n (p + 1)) → apR (f 83) (s, tx (f 90) n (p + 1), 0) = upd (f 83) k v → Q (some (.int 1)) sw (upd2 (upd2 (upd2 (upd2 f 82 33 ((f 82 33) + 1)) 82 11 (((upd2 f 82 33 ((f 82 33) + 1)) 82 11) + 1)) 83 x.toNatClampNeg v) 82 11 (((upd2 (upd2 (upd2 f 82 33 ((f 82 33) + 1)) 82 11 (((upd2 f 82 33 ((f 82 33) + 1)) 82 11) + 1)) 83 x.toNatClampNeg v) 82 11) + 1)) := by
            intro x k v hx hk h5 hap
            rw [hx, nI_clamp (by omega)]
            have n43 : ¬ (tx (f 90) n (p + 1) = 43 ∨ tx (f 90) n (p + 1) = 45) := by
              rcases h5 with z | z | z | z | z <;> rw [z] <;> decide
            have hlt2 : p + 1 < n := by
              refine tx_in (c := tx (f 90) n (p + 1)) rfl ?_
              rcases h5 with z | z | z | z | z <;> rw [z] <;> decide
            generalize (upd2 (upd2 f 82 33 ((f 82 33) + 1)) 82 11 (((upd2 f 82 33 ((f 82 33) + 1)) 82 11) + 1)) = g at *
            refine hO (p + 1 + 1, (s, tx (f 90) n (p + 1), 0)) _ (by rw [hw]; unfold whatP; rw [if_neg n43, if_pos ⟨h5, by omega⟩]) ((oZ.up (by omega)).up (by omega)) ⟨?_, h260, ?_, hlt2⟩ ?_ ?_
            · rw [upd2_self, pk_un (by omega), upd2_ne _ _ _ (by omega)]; exact hM.1
            · rw [upd2_self, pk_us, upd2_ne _ _ _ (by omega), hM.2.2.1, nI_1]
            · rw [upd2_self, pk_un (by omega), upd2_ne _ _ _ (by omega)]; exact z33
            · rw [upd2_ne _ _ _ (by omega), upd2_self, z83]; exact hap.symm
          have hs16 : ¬ s = 16 := by omega
          by_cases d33 : tx (f 90) n (p + 1) = 33
          · have q33 := hereZ.trans d33
            refine bX11_readsLine_0  (fun h1 => (ht.vp h1)) (fun h => absurd h (k1)) (fun h => absurd h (k1)) (fun h => absurd h (k1)) (fun h => absurd h (k1)) (fun h => absurd h (k1)) (fun h => absurd h (k1)) (fun h => absurd h (k1)) (fun h => absurd h (k1)) (fun h => absurd h (k1)) (fun h => absurd h (k1)) (fun h => absurd h (k1)) (fun h => absurd h (k1)) (fun h => absurd h (k1)) (fun h => absurd h (k1)) (fun h => absurd h (k1)) (fun h => absurd h (k1)) (fun h => absurd h (k1)) (fun h => absurd h (k1)) (fun h => absurd h (k1)) (fun h => absurd h (k1)) (fun h => absurd h (k1)) (fun h => absurd h (k1)) (fun h => absurd h (k1)) (fun h => absurd h (k1)) (fun h => absurd h (k1)) (fun h => absurd h (k1)) (fun h => absurd h (k1)) (fun h => absurd h (k1)) (fun _ _ _ h => absurd h (k1)) (fun _ _ _ h => absurd h (k1)) (fun _ _ _ h => absurd h (k1)) (fun _ _ _ h => absurd h (k1)) (fun _ _ _ h => absurd h (k1)) (fun _ _ _ h => absurd h (k1)) (fun _ _ _ h => absurd h (k1)) (fun _ _ _ h => absurd h (k1)) (fun _ _ _ h => absurd h (k1)) (fun _ _ _ h => absurd h (k1)) (fun _ _ _ h => absurd h (k1)) (fun _ _ _ h => absurd h (k1)) (fun _ _ _ h => absurd h (k1)) (fun _ _ _ _ _ _ h7 => (hM.vp h7)) (fun _ _ _ _ _ _ _ => v48) (fun _ _ _ _ _ _ _ => ?_) (fun _ _ _ _ _ _ h => absurd h ((by rw [q33]; decide))) (fun _ _ _ _ _ _ h => absurd h ((by rw [q33]; decide))) (fun _ _ _ _ _ _ h => absurd h ((by rw [q33]; decide))) (fun _ _ _ _ _ _ h => absurd h ((by rw [q33]; decide))) (fun _ _ _ _ _ _ h => absurd h ((by rw [q33]; decide))) (fun _ _ _ _ _ _ h => absurd h ((by rw [q33]; decide))) (fun _ _ _ _ _ _ h => absurd h ((by rw [q33]; decide))) (fun _ _ _ _ _ _ h => absurd h ((by rw [q33]; decide))) (fun _ _ _ _ _ _ h => absurd (q33) h) (fun _ _ _ _ _ h => absurd h (k1)) (fun _ _ _ _ h => absurd (k4) h) (fun _ _ h => absurd h (k2)) (fun _ h => absurd (k3) h)
            rw [as, e48, nI_clamp (by omega)]
            have n43 : ¬ (tx (f 90) n (p + 1) = 43 ∨ tx (f 90) n (p + 1) = 45) := by rw [d33]; decide
            have h5 : isFl5 (tx (f 90) n (p + 1)) := Or.inl d33
            have hlt2 : p + 1 < n := tx_in d33 (by decide)
            generalize (upd2 (upd2 f 82 33 ((f 82 33) + 1)) 82 11 (((upd2 f 82 33 ((f 82 33) + 1)) 82 11) + 1)) = g at *
            have r83 : upd2 g 83 (48 + s) 0 83 = upd (f 83) (48 + s) 0 := by rw [upd2_self, z83]
            refine sp_endsCallOf (d := d + 2) (by rw [r83]; intro j hj; rw [pk_un (by omega), pk_un (by omega), pk_un (by omega), pk_un (by omega)]; exact hr j hj) (fun g2 o2 r2 => bX11_readsLine_183 (hO (p + 1 + 1, (s, tx (f 90) n (p + 1), 0)) _ (by rw [hw]; unfold whatP; rw [if_neg n43, if_pos ⟨h5, by omega⟩]) ⟨fun c c1 c2 => ?_, fun j j1 j2 j3 j4 => ?_⟩ ⟨?_, h260, ?_, hlt2⟩ ?_ ?_))
            · rw [upd2_ne _ _ _ c1, o2 c c2, upd2_ne _ _ _ c2]; exact oZ.1 c c1 c2
            · rw [upd2_self, pk_un (by omega), o2 82 (by omega), upd2_ne _ _ _ (by omega)]; exact oZ.2 j j1 j2 j3 j4
            · rw [upd2_self, pk_un (by omega), o2 82 (by omega), upd2_ne _ _ _ (by omega)]; exact hM.1
            · rw [upd2_self, pk_us, o2 82 (by omega), upd2_ne _ _ _ (by omega), hM.2.2.1, nI_1]
            · rw [upd2_self, pk_un (by omega), o2 82 (by omega), upd2_ne _ _ _ (by omega)]; exact z33
            · rw [upd2_ne _ _ _ (by omega), r2, r83]
              unfold apR
              rw [if_neg hs16, if_pos d33]
          · have q33 : ¬ hereF (upd2 (upd2 f 82 33 ((f 82 33) + 1)) 82 11 (((upd2 f 82 33 ((f 82 33) + 1)) 82 11) + 1)) = 33 := fun z => d33 (hereZ.symm.trans z)
            by_cases d42 : tx (f 90) n (p + 1) = 42
            · have q42 := hereZ.trans d42
              refine bX11_readsLine_0  (fun h1 => (ht.vp h1)) (fun h => absurd h (k1)) (fun h => absurd h (k1)) (fun h => absurd h (k1)) (fun h => absurd h (k1)) (fun h => absurd h (k1)) (fun h => absurd h (k1)) (fun h => absurd h (k1)) (fun h => absurd h (k1)) (fun h => absurd h (k1)) (fun h => absurd h (k1)) (fun h => absurd h (k1)) (fun h => absurd h (k1)) (fun h => absurd h (k1)) (fun h => absurd h (k1)) (fun h => absurd h (k1)) (fun h => absurd h (k1)) (fun h => absurd h (k1)) (fun h => absurd h (k1)) (fun h => absurd h (k1)) (fun h => absurd h (k1)) (fun h => absurd h (k1)) (fun h => absurd h (k1)) (fun h => absurd h (k1)) (fun h => absurd h (k1)) (fun h => absurd h (k1)) (fun h => absurd h (k1)) (fun h => absurd h (k1)) (fun h => absurd h (k1)) (fun _ _ _ h => absurd h (k1)) (fun _ _ _ h => absurd h (k1)) (fun _ _ _ h => absurd h (k1)) (fun _ _ _ h => absurd h (k1)) (fun _ _ _ h => absurd h (k1)) (fun _ _ _ h => absurd h (k1)) (fun _ _ _ h => absurd h (k1)) (fun _ _ _ h => absurd h (k1)) (fun _ _ _ h => absurd h (k1)) (fun _ _ _ h => absurd h (k1)) (fun _ _ _ h => absurd h (k1)) (fun _ _ _ h => absurd h (k1)) (fun _ _ _ h => absurd h (k1)) (fun _ _ _ _ _ _ h7 => (hM.vp h7)) (fun _ _ _ _ _ _ h => absurd h (q33)) (fun _ _ _ _ _ _ h => absurd h (q33)) (fun _ _ _ _ _ _ _ => v32) (fun _ _ _ _ _ _ _ => ?_) (fun _ _ _ _ _ _ h => absurd h ((by rw [q42]; decide))) (fun _ _ _ _ _ _ h => absurd h ((by rw [q42]; decide))) (fun _ _ _ _ _ _ h => absurd h ((by rw [q42]; decide))) (fun _ _ _ _ _ _ h => absurd h ((by rw [q42]; decide))) (fun _ _ _ _ _ _ h => absurd h ((by rw [q42]; decide))) (fun _ _ _ _ _ _ h => absurd h ((by rw [q42]; decide))) (fun _ _ _ _ _ _ _ h => absurd (q42) h) (fun _ _ _ _ _ h => absurd h (k1)) (fun _ _ _ _ h => absurd (k4) h) (fun _ _ h => absurd h (k2)) (fun _ h => absurd (k3) h)
              rw [as, e32]
              exact flag _ (32 + s) 0 rfl (by omega) (Or.inr (Or.inr (Or.inl d42))) (by unfold apR; rw [if_neg hs16, if_neg d33, if_neg (show ¬ tx (f 90) n (p + 1) = 63 by rw [d42]; decide), if_pos d42])
            · have q42 : ¬ hereF (upd2 (upd2 f 82 33 ((f 82 33) + 1)) 82 11 (((upd2 f 82 33 ((f 82 33) + 1)) 82 11) + 1)) = 42 := fun z => d42 (hereZ.symm.trans z)
              by_cases d63 : tx (f 90) n (p + 1) = 63
              · have q63 := hereZ.trans d63
                refine bX11_readsLine_0  (fun h1 => (ht.vp h1)) (fun h => absurd h (k1)) (fun h => absurd h (k1)) (fun h => absurd h (k1)) (fun h => absurd h (k1)) (fun h => absurd h (k1)) (fun h => absurd h (k1)) (fun h => absurd h (k1)) (fun h => absurd h (k1)) (fun h => absurd h (k1)) (fun h => absurd h (k1)) (fun h => absurd h (k1)) (fun h => absurd h (k1)) (fun h => absurd h (k1)) (fun h => absurd h (k1)) (fun h => absurd h (k1)) (fun h => absurd h (k1)) (fun h => absurd h (k1)) (fun h => absurd h (k1)) (fun h => absurd h (k1)) (fun h => absurd h (k1)) (fun h => absurd h (k1)) (fun h => absurd h (k1)) (fun h => absurd h (k1)) (fun h => absurd h (k1)) (fun h => absurd h (k1)) (fun h => absurd h (k1)) (fun h => absurd h (k1)) (fun h => absurd h (k1)) (fun _ _ _ h => absurd h (k1)) (fun _ _ _ h => absurd h (k1)) (fun _ _ _ h => absurd h (k1)) (fun _ _ _ h => absurd h (k1)) (fun _ _ _ h => absurd h (k1)) (fun _ _ _ h => absurd h (k1)) (fun _ _ _ h => absurd h (k1)) (fun _ _ _ h => absurd h (k1)) (fun _ _ _ h => absurd h (k1)) (fun _ _ _ h => absurd h (k1)) (fun _ _ _ h => absurd h (k1)) (fun _ _ _ h => absurd h (k1)) (fun _ _ _ h => absurd h (k1)) (fun _ _ _ _ _ _ h7 => (hM.vp h7)) (fun _ _ _ _ _ _ h => absurd h (q33)) (fun _ _ _ _ _ _ h => absurd h (q33)) (fun _ _ _ _ _ _ h => absurd h (q42)) (fun _ _ _ _ _ _ h => absurd h (q42)) (fun _ _ _ _ _ _ _ => v48) (fun _ _ _ _ _ _ _ => ?_) (fun _ _ _ _ _ _ h => absurd h ((by rw [q63]; decide))) (fun _ _ _ _ _ _ h => absurd h ((by rw [q63]; decide))) (fun _ _ _ _ _ _ h => absurd h ((by rw [q63]; decide))) (fun _ _ _ _ _ _ h => absurd h ((by rw [q63]; decide))) (fun _ _ _ _ _ _ _ _ h => absurd (q63) h) (fun _ _ _ _ _ h => absurd h (k1)) (fun _ _ _ _ h => absurd (k4) h) (fun _ _ h => absurd h (k2)) (fun _ h => absurd (k3) h)
                rw [as, e48]
                exact flag _ (48 + s) 1 rfl (by omega) (Or.inr (Or.inl d63)) (by unfold apR; rw [if_neg hs16, if_neg d33, if_pos d63])
              · have q63 : ¬ hereF (upd2 (upd2 f 82 33 ((f 82 33) + 1)) 82 11 (((upd2 f 82 33 ((f 82 33) + 1)) 82 11) + 1)) = 63 := fun z => d63 (hereZ.symm.trans z)
                by_cases d94 : tx (f 90) n (p + 1) = 94
                · have q94 := hereZ.trans d94
                  refine bX11_readsLine_0  (fun h1 => (ht.vp h1)) (fun h => absurd h (k1)) (fun h => absurd h (k1)) (fun h => absurd h (k1)) (fun h => absurd h (k1)) (fun h => absurd h (k1)) (fun h => absurd h (k1)) (fun h => absurd h (k1)) (fun h => absurd h (k1)) (fun h => absurd h (k1)) (fun h => absurd h (k1)) (fun h => absurd h (k1)) (fun h => absurd h (k1)) (fun h => absurd h (k1)) (fun h => absurd h (k1)) (fun h => absurd h (k1)) (fun h => absurd h (k1)) (fun h => absurd h (k1)) (fun h => absurd h (k1)) (fun h => absurd h (k1)) (fun h => absurd h (k1)) (fun h => absurd h (k1)) (fun h => absurd h (k1)) (fun h => absurd h (k1)) (fun h => absurd h (k1)) (fun h => absurd h (k1)) (fun h => absurd h (k1)) (fun h => absurd h (k1)) (fun h => absurd h (k1)) (fun _ _ _ h => absurd h (k1)) (fun _ _ _ h => absurd h (k1)) (fun _ _ _ h => absurd h (k1)) (fun _ _ _ h => absurd h (k1)) (fun _ _ _ h => absurd h (k1)) (fun _ _ _ h => absurd h (k1)) (fun _ _ _ h => absurd h (k1)) (fun _ _ _ h => absurd h (k1)) (fun _ _ _ h => absurd h (k1)) (fun _ _ _ h => absurd h (k1)) (fun _ _ _ h => absurd h (k1)) (fun _ _ _ h => absurd h (k1)) (fun _ _ _ h => absurd h (k1)) (fun _ _ _ _ _ _ h7 => (hM.vp h7)) (fun _ _ _ _ _ _ h => absurd h (q33)) (fun _ _ _ _ _ _ h => absurd h (q33)) (fun _ _ _ _ _ _ h => absurd h (q42)) (fun _ _ _ _ _ _ h => absurd h (q42)) (fun _ _ _ _ _ _ h => absurd h (q63)) (fun _ _ _ _ _ _ h => absurd h (q63)) (fun _ _ _ _ _ _ _ => v64) (fun _ _ _ _ _ _ _ => ?_) (fun _ _ _ _ _ _ h => absurd h ((by rw [q94]; decide))) (fun _ _ _ _ _ _ h => absurd h ((by rw [q94]; decide))) (fun _ _ _ _ _ _ _ _ _ h => absurd (q94) h) (fun _ _ _ _ _ h => absurd h (k1)) (fun _ _ _ _ h => absurd (k4) h) (fun _ _ h => absurd h (k2)) (fun _ h => absurd (k3) h)
                  rw [as, e64]
                  exact flag _ (64 + s) 1 rfl (by omega) (Or.inr (Or.inr (Or.inr (Or.inl d94)))) (by unfold apR; rw [if_neg hs16, if_neg d33, if_neg d63, if_neg d42, if_pos d94])
                · have q94 : ¬ hereF (upd2 (upd2 f 82 33 ((f 82 33) + 1)) 82 11 (((upd2 f 82 33 ((f 82 33) + 1)) 82 11) + 1)) = 94 := fun z => d94 (hereZ.symm.trans z)
                  by_cases d95 : tx (f 90) n (p + 1) = 95
                  · have q95 := hereZ.trans d95
                    refine bX11_readsLine_0  (fun h1 => (ht.vp h1)) (fun h => absurd h (k1)) (fun h => absurd h (k1)) (fun h => absurd h (k1)) (fun h => absurd h (k1)) (fun h => absurd h (k1)) (fun h => absurd h (k1)) (fun h => absurd h (k1)) (fun h => absurd h (k1)) (fun h => absurd h (k1)) (fun h => absurd h (k1)) (fun h => absurd h (k1)) (fun h => absurd h (k1)) (fun h => absurd h (k1)) (fun h => absurd h (k1)) (fun h => absurd h (k1)) (fun h => absurd h (k1)) (fun h => absurd h (k1)) (fun h => absurd h (k1)) (fun h => absurd h (k1)) (fun h => absurd h (k1)) (fun h => absurd h (k1)) (fun h => absurd h (k1)) (fun h => absurd h (k1)) (fun h => absurd h (k1)) (fun h => absurd h (k1)) (fun h => absurd h (k1)) (fun h => absurd h (k1)) (fun h => absurd h (k1)) (fun _ _ _ h => absurd h (k1)) (fun _ _ _ h => absurd h (k1)) (fun _ _ _ h => absurd h (k1)) (fun _ _ _ h => absurd h (k1)) (fun _ _ _ h => absurd h (k1)) (fun _ _ _ h => absurd h (k1)) (fun _ _ _ h => absurd h (k1)) (fun _ _ _ h => absurd h (k1)) (fun _ _ _ h => absurd h (k1)) (fun _ _ _ h => absurd h (k1)) (fun _ _ _ h => absurd h (k1)) (fun _ _ _ h => absurd h (k1)) (fun _ _ _ h => absurd h (k1)) (fun _ _ _ _ _ _ h7 => (hM.vp h7)) (fun _ _ _ _ _ _ h => absurd h (q33)) (fun _ _ _ _ _ _ h => absurd h (q33)) (fun _ _ _ _ _ _ h => absurd h (q42)) (fun _ _ _ _ _ _ h => absurd h (q42)) (fun _ _ _ _ _ _ h => absurd h (q63)) (fun _ _ _ _ _ _ h => absurd h (q63)) (fun _ _ _ _ _ _ h => absurd h (q94)) (fun _ _ _ _ _ _ h => absurd h (q94)) (fun _ _ _ _ _ _ _ => v64) (fun _ _ _ _ _ _ _ => ?_) (fun _ _ _ _ _ _ _ _ _ _ h => absurd (q95) h) (fun _ _ _ _ _ h => absurd h (k1)) (fun _ _ _ _ h => absurd (k4) h) (fun _ _ h => absurd h (k2)) (fun _ h => absurd (k3) h)
                    rw [as, e64]
                    exact flag _ (64 + s) 0 rfl (by omega) (Or.inr (Or.inr (Or.inr (Or.inr d95)))) (by unfold apR; rw [if_neg hs16, if_neg d33, if_neg d63, if_neg d42, if_neg d94, if_pos d95])
                  · have q95 : ¬ hereF (upd2 (upd2 f 82 33 ((f 82 33) + 1)) 82 11 (((upd2 f 82 33 ((f 82 33) + 1)) 82 11) + 1)) = 95 := fun z => d95 (hereZ.symm.trans z)
                    refine bX11_readsLine_0  (fun h1 => (ht.vp h1)) (fun h => absurd h (k1)) (fun h => absurd h (k1)) (fun h => absurd h (k1)) (fun h => absurd h (k1)) (fun h => absurd h (k1)) (fun h => absurd h (k1)) (fun h => absurd h (k1)) (fun h => absurd h (k1)) (fun h => absurd h (k1)) (fun h => absurd h (k1)) (fun h => absurd h (k1)) (fun h => absurd h (k1)) (fun h => absurd h (k1)) (fun h => absurd h (k1)) (fun h => absurd h (k1)) (fun h => absurd h (k1)) (fun h => absurd h (k1)) (fun h => absurd h (k1)) (fun h => absurd h (k1)) (fun h => absurd h (k1)) (fun h => absurd h (k1)) (fun h => absurd h (k1)) (fun h => absurd h (k1)) (fun h => absurd h (k1)) (fun h => absurd h (k1)) (fun h => absurd h (k1)) (fun h => absurd h (k1)) (fun h => absurd h (k1)) (fun _ _ _ h => absurd h (k1)) (fun _ _ _ h => absurd h (k1)) (fun _ _ _ h => absurd h (k1)) (fun _ _ _ h => absurd h (k1)) (fun _ _ _ h => absurd h (k1)) (fun _ _ _ h => absurd h (k1)) (fun _ _ _ h => absurd h (k1)) (fun _ _ _ h => absurd h (k1)) (fun _ _ _ h => absurd h (k1)) (fun _ _ _ h => absurd h (k1)) (fun _ _ _ h => absurd h (k1)) (fun _ _ _ h => absurd h (k1)) (fun _ _ _ h => absurd h (k1)) (fun _ _ _ _ _ _ h7 => (hM.vp h7)) (fun _ _ _ _ _ _ h => absurd h (q33)) (fun _ _ _ _ _ _ h => absurd h (q33)) (fun _ _ _ _ _ _ h => absurd h (q42)) (fun _ _ _ _ _ _ h => absurd h (q42)) (fun _ _ _ _ _ _ h => absurd h (q63)) (fun _ _ _ _ _ _ h => absurd h (q63)) (fun _ _ _ _ _ _ h => absurd h (q94)) (fun _ _ _ _ _ _ h => absurd h (q94)) (fun _ _ _ _ _ _ h => absurd h (q95)) (fun _ _ _ _ _ _ h => absurd h (q95)) (fun _ _ _ _ _ _ _ _ _ _ _ => ?_) (fun _ _ _ _ _ h => absurd h (k1)) (fun _ _ _ _ h => absurd (k4) h) (fun _ _ h => absurd h (k2)) (fun _ h => absurd (k3) h)
                    rw [as, e80]
                    have n5 : ¬ isFl5 (tx (f 90) n (p + 1)) := by
                      rintro (z | z | z | z | z)
                      · exact d33 z
                      · exact d63 z
                      · exact d42 z
                      · exact d94 z
                      · exact d95 z
                    generalize (upd2 (upd2 f 82 33 ((f 82 33) + 1)) 82 11 (((upd2 f 82 33 ((f 82 33) + 1)) 82 11) + 1)) = g at *
                    refine sp_readsMore (k := 80 + s) hM (by omega) (fun e g2 q1 q2 o2 p33 e5 => bX11_readsLine_246 (Or.inl rfl) (hE e g2 ?_ (oZ.tr o2) e5)) (fun p' v g2 h43 q1 o2 p33 hM2 r83 => bX11_readsLine_246 (Or.inr rfl) (hO (p', (s, tx (f 90) n (p + 1), if tx (f 90) n (p + 1) = 43 then v else -v)) g2 ?_ (oZ.tr o2) hM2 (by rw [p33]; exact z33) ?_))
                    · rw [hw]
                      rw [z90] at q1 q2
                      unfold whatP
                      by_cases c43 : tx (f 90) n (p + 1) = 43 ∨ tx (f 90) n (p + 1) = 45
                      · rw [if_pos c43, q1 c43]
                      · rw [if_neg c43, if_neg (fun z => n5 z.1), q2 c43]
                    · rw [hw]
                      rw [z90] at q1 h43
                      unfold whatP
                      rw [if_pos h43, q1]
                    · rw [r83, z83, z90]
                      unfold apR
                      rw [if_neg hs16, if_neg d33, if_neg d63, if_neg d42, if_neg d94, if_neg d95]
        · have k4 : ¬ toldM (upd2 f 82 33 ((f 82 33) + 1)) (hereF f - 97) := fun z => c4 (tm.mp z)
          have hw : lineP (f 90) n a i p = .error (er 7 p) := by unfold lineP whoP; rw [if_neg c1, if_pos c3, if_pos (by omega), es, nI_clamp (by omega), if_neg c4]
          exact bX11_readsLine_0  (fun h1 => (ht.vp h1)) (fun h => absurd h (k1)) (fun h => absurd h (k1)) (fun h => absurd h (k1)) (fun h => absurd h (k1)) (fun h => absurd h (k1)) (fun h => absurd h (k1)) (fun h => absurd h (k1)) (fun h => absurd h (k1)) (fun h => absurd h (k1)) (fun h => absurd h (k1)) (fun h => absurd h (k1)) (fun h => absurd h (k1)) (fun h => absurd h (k1)) (fun h => absurd h (k1)) (fun h => absurd h (k1)) (fun h => absurd h (k1)) (fun h => absurd h (k1)) (fun h => absurd h (k1)) (fun h => absurd h (k1)) (fun h => absurd h (k1)) (fun h => absurd h (k1)) (fun h => absurd h (k1)) (fun h => absurd h (k1)) (fun h => absurd h (k1)) (fun h => absurd h (k1)) (fun h => absurd h (k1)) (fun h => absurd h (k1)) (fun h => absurd h (k1)) (fun _ _ _ h => absurd h (k1)) (fun _ _ _ h => absurd h (k1)) (fun _ _ _ h => absurd h (k1)) (fun _ _ _ h => absurd h (k1)) (fun _ _ _ h => absurd h (k1)) (fun _ _ _ h => absurd h (k1)) (fun _ _ _ h => absurd h (k1)) (fun _ _ _ h => absurd h (k1)) (fun _ _ _ h => absurd h (k1)) (fun _ _ _ h => absurd h (k1)) (fun _ _ _ h => absurd h (k1)) (fun _ _ _ h => absurd h (k1)) (fun _ _ _ h => absurd h (k1)) (fun _ _ _ _ h => absurd h (k4)) (fun _ _ _ _ h => absurd h (k4)) (fun _ _ _ _ h => absurd h (k4)) (fun _ _ _ _ h => absurd h (k4)) (fun _ _ _ _ h => absurd h (k4)) (fun _ _ _ _ h => absurd h (k4)) (fun _ _ _ _ h => absurd h (k4)) (fun _ _ _ _ h => absurd h (k4)) (fun _ _ _ _ h => absurd h (k4)) (fun _ _ _ _ h => absurd h (k4)) (fun _ _ _ _ h => absurd h (k4)) (fun _ _ _ _ h => absurd h (k4)) (fun _ _ _ _ h => absurd h (k4)) (fun _ _ _ _ _ => (sp_wrongAt (w := 7) (p := p) (by rw [upd2_self, pk_un (by omega)]; exact ht.2.2.1) (bX11_readsLine_89 (Or.inl rfl) (hE _ _ hw (((MB.rf f).up (by omega)).up (by omega)) (by rw [upd2_self, pk_us]))))) (fun _ _ h => absurd h (k2)) (fun _ h => absurd (k3) h)
    · have k3 : ¬ (0 ≤ hereF f - 97 ∧ hereF f - 97 ≤ 15) := by
        rw [a0]
        rintro ⟨z1, z2⟩
        refine c3 ?_
        obtain ⟨j, hj, ej⟩ := nI_of2 (M := 15) (n := 15) rfl (Int32.not_lt.mpr z1) z2
        have : tx (f 90) n p = nI (97 + j) := by
          have := congrArg (· + 97) ej
          have h2 : tx (f 90) n p - 97 + 97 = nI j + 97 := this
          rw [Int32.sub_add_cancel, show (97 : Int32) = nI 97 from rfl, nI_add, Nat.add_comm] at h2
          exact h2
        rw [this]
        exact ⟨nI_le (a := 97) (by omega) (by omega), nI_le (b := 112) (by omega) (by omega)⟩
      have hw : lineP (f 90) n a i p = .error (er 1 p) := by unfold lineP whoP; rw [if_neg c1, if_neg c3]
      exact bX11_readsLine_0  (fun h1 => (ht.vp h1)) (fun h => absurd h (k1)) (fun h => absurd h (k1)) (fun h => absurd h (k1)) (fun h => absurd h (k1)) (fun h => absurd h (k1)) (fun h => absurd h (k1)) (fun h => absurd h (k1)) (fun h => absurd h (k1)) (fun h => absurd h (k1)) (fun h => absurd h (k1)) (fun h => absurd h (k1)) (fun h => absurd h (k1)) (fun h => absurd h (k1)) (fun h => absurd h (k1)) (fun h => absurd h (k1)) (fun h => absurd h (k1)) (fun h => absurd h (k1)) (fun h => absurd h (k1)) (fun h => absurd h (k1)) (fun h => absurd h (k1)) (fun h => absurd h (k1)) (fun h => absurd h (k1)) (fun h => absurd h (k1)) (fun h => absurd h (k1)) (fun h => absurd h (k1)) (fun h => absurd h (k1)) (fun h => absurd h (k1)) (fun h => absurd h (k1)) (fun _ h => absurd h (k3)) (fun _ h => absurd h (k3)) (fun _ h => absurd h (k3)) (fun _ h => absurd h (k3)) (fun _ h => absurd h (k3)) (fun _ h => absurd h (k3)) (fun _ h => absurd h (k3)) (fun _ h => absurd h (k3)) (fun _ h => absurd h (k3)) (fun _ h => absurd h (k3)) (fun _ h => absurd h (k3)) (fun _ h => absurd h (k3)) (fun _ h => absurd h (k3)) (fun _ h => absurd h (k3)) (fun _ h => absurd h (k3)) (fun _ h => absurd h (k3)) (fun _ h => absurd h (k3)) (fun _ h => absurd h (k3)) (fun _ h => absurd h (k3)) (fun _ h => absurd h (k3)) (fun _ h => absurd h (k3)) (fun _ h => absurd h (k3)) (fun _ h => absurd h (k3)) (fun _ h => absurd h (k3)) (fun _ h => absurd h (k3)) (fun _ h => absurd h (k3)) (fun _ h => absurd h (k3)) (fun _ h => absurd h (k3)) (fun _ _ => (sp_wrongAt (w := 1) ht.2.2.1 (bX11_readsLine_35 (Or.inl rfl) (hE _ _ hw ((MB.rf f).up (by omega)) (by rw [upd2_self, pk_us])))))
