/-! ===== the reference reckons ===== -/
def opA (s o : Int32) : Prop := (s = 43 ∧ o = 2) ∨ (s = 45 ∧ o = 3) ∨ (s = 42 ∧ o = 4) ∨ (s = 47 ∧ o = 5) ∨ (s = 37 ∧ o = 6) ∨ (s = 60 ∧ o = 7) ∨ (s = 62 ∧ o = 8) ∨ (s = 61 ∧ o = 9)
theorem opA_isA {s o : Int32} (h : opA s o) : isA s := by
  unfold isA
  rcases h with h | h | h | h | h | h | h | h <;> simp [h.1]
theorem opA_n {s o : Int32} (h : opA s o) : ¬ o = 0 ∧ ¬ o = 1 ∧ ¬ o = 10 ∧ ¬ o = 11 ∧ ¬ o = 12 ∧ (o = 5 ↔ s = 47) ∧ (o = 6 ↔ s = 37) := by
  rcases h with ⟨rfl, rfl⟩ | ⟨rfl, rfl⟩ | ⟨rfl, rfl⟩ | ⟨rfl, rfl⟩ | ⟨rfl, rfl⟩ | ⟨rfl, rfl⟩ | ⟨rfl, rfl⟩ | ⟨rfl, rfl⟩ <;> decide
theorem op_nI {c : Int32} {o j : Nat} (ho : o ≤ 12) (hj : j < 1048576) (h : c = nI (1048576 * o + j)) : c / 1048576 = nI o ∧ c - c / 1048576 * 1048576 = nI j := by
  have e : (1048576 : Int32) = nI 1048576 := rfl
  rw [h, e, pk_rem (by omega) (by omega) (by omega), pk_div (by omega) (by omega) (by omega), show (1048576 * o + j) / 1048576 = o by omega, show (1048576 * o + j) % 1048576 = j by omega]
  exact ⟨rfl, rfl⟩
theorem enc_op {s w c : Int32} (h : enc s w c) : (s = 48 ∧ c / 1048576 = 0 ∧ c - c / 1048576 * 1048576 = w) ∨ (s = 97 ∧ isN w 9 ∧ c / 1048576 = 1 ∧ c - c / 1048576 * 1048576 = w) ∨ opA s (c / 1048576) ∨ (s = 33 ∧ c / 1048576 = 10) ∨ (s = 38 ∧ c / 1048576 = 11 ∧ c - c / 1048576 * 1048576 = w) ∨ (s = 124 ∧ c / 1048576 = 12 ∧ c - c / 1048576 * 1048576 = w) := by
  unfold opA
  rcases h with ⟨h, h1, h2⟩ | ⟨h, h1, h2⟩ | ⟨h, h2⟩ | ⟨h, h2⟩ | ⟨h, h2⟩ | ⟨h, h2⟩ | ⟨h, h2⟩ | ⟨h, h2⟩ | ⟨h, h2⟩ | ⟨h, h2⟩ | ⟨h, h2⟩ | ⟨h, h1, h2⟩ | ⟨h, h1, h2⟩
  · obtain ⟨j, hj, ej⟩ := isN_nI h1 (by omega)
    have := op_nI (c := c) (o := 0) (j := j) (by omega) (by omega) (by rw [h2, ej]; congr 1; omega)
    exact Or.inl ⟨h, this.1, by rw [this.2, ej]⟩
  · obtain ⟨j, hj, ej⟩ := isN_nI h1 (by omega)
    have := op_nI (c := c) (o := 1) (j := j) (by omega) (by omega) (by rw [h2, ej, show (1048576 : Int32) = nI 1048576 from rfl, nI_add])
    exact Or.inr (Or.inl ⟨h, h1, this.1, by rw [this.2, ej]⟩)
  all_goals first | (have h3 : c / 1048576 = 2 := by rw [h2]; decide); simp [h, h3]; done | skip
  all_goals first | (have h3 : c / 1048576 = 3 := by rw [h2]; decide); simp [h, h3]; done | skip
  all_goals first | (have h3 : c / 1048576 = 4 := by rw [h2]; decide); simp [h, h3]; done | skip
  all_goals first | (have h3 : c / 1048576 = 5 := by rw [h2]; decide); simp [h, h3]; done | skip
  all_goals first | (have h3 : c / 1048576 = 6 := by rw [h2]; decide); simp [h, h3]; done | skip
  all_goals first | (have h3 : c / 1048576 = 7 := by rw [h2]; decide); simp [h, h3]; done | skip
  all_goals first | (have h3 : c / 1048576 = 8 := by rw [h2]; decide); simp [h, h3]; done | skip
  all_goals first | (have h3 : c / 1048576 = 9 := by rw [h2]; decide); simp [h, h3]; done | skip
  all_goals first | (have h3 : c / 1048576 = 10 := by rw [h2]; decide); simp [h, h3]; done | skip
  · obtain ⟨j, hj, ej⟩ := isN_nI h1 (by omega)
    have := op_nI (c := c) (o := 11) (j := j) (by omega) (by omega) (by rw [h2, ej, show (11534336 : Int32) = nI 11534336 from rfl, nI_add])
    exact Or.inr (Or.inr (Or.inr (Or.inr (Or.inl ⟨h, this.1, by rw [this.2, ej]⟩))))
  · obtain ⟨j, hj, ej⟩ := isN_nI h1 (by omega)
    have := op_nI (c := c) (o := 12) (j := j) (by omega) (by omega) (by rw [h2, ej, show (12582912 : Int32) = nI 12582912 from rfl, nI_add])
    exact Or.inr (Or.inr (Or.inr (Or.inr (Or.inr ⟨h, this.1, by rw [this.2, ej]⟩))))
theorem sp_reckonM {G : GC} {d : Nat} {sw : Bool} {f : FF} {Q : QQ} {s o a b : Int32} (h : opA s o) (hz : ¬ ((s = 47 ∨ s = 37) ∧ b = 0)) (hQ : Q (some (.int (joinP s a b))) sw f) : XP G mX11_reckon d 0 [.int o, .int a, .int b] [] sw f Q := by
  rcases h with ⟨rfl, rfl⟩ | ⟨rfl, rfl⟩ | ⟨rfl, rfl⟩ | ⟨rfl, rfl⟩ | ⟨rfl, rfl⟩ | ⟨rfl, rfl⟩ | ⟨rfl, rfl⟩ | ⟨rfl, rfl⟩
  · rw [joinP_43] at hQ
    have n3 : ¬ (2 : Int32) = 3 := by decide
    have n4 : ¬ (2 : Int32) = 4 := by decide
    have n5 : ¬ (2 : Int32) = 5 := by decide
    have n6 : ¬ (2 : Int32) = 6 := by decide
    have n7 : ¬ (2 : Int32) = 7 := by decide
    have n8 : ¬ (2 : Int32) = 8 := by decide
    exact bX11_reckon_0  (fun _ => hQ) (fun h => absurd h (n3)) (fun h => absurd h (n4)) (fun h => absurd h (n5)) (fun h => absurd h (n5)) (fun h => absurd h (n6)) (fun h => absurd h (n6)) (fun h => absurd h (n7)) (fun h => absurd h (n7)) (fun h => absurd h (n8)) (fun h => absurd h (n8)) (fun h => absurd (rfl) h) (fun h => absurd (rfl) h)
  · rw [joinP_45] at hQ
    have n2 : ¬ (3 : Int32) = 2 := by decide
    have n4 : ¬ (3 : Int32) = 4 := by decide
    have n5 : ¬ (3 : Int32) = 5 := by decide
    have n6 : ¬ (3 : Int32) = 6 := by decide
    have n7 : ¬ (3 : Int32) = 7 := by decide
    have n8 : ¬ (3 : Int32) = 8 := by decide
    exact bX11_reckon_0  (fun h => absurd h (n2)) (fun _ => hQ) (fun h => absurd h (n4)) (fun h => absurd h (n5)) (fun h => absurd h (n5)) (fun h => absurd h (n6)) (fun h => absurd h (n6)) (fun h => absurd h (n7)) (fun h => absurd h (n7)) (fun h => absurd h (n8)) (fun h => absurd h (n8)) (fun _ h => absurd (rfl) h) (fun _ h => absurd (rfl) h)
  · rw [joinP_42] at hQ
    have n2 : ¬ (4 : Int32) = 2 := by decide
    have n3 : ¬ (4 : Int32) = 3 := by decide
    have n5 : ¬ (4 : Int32) = 5 := by decide
    have n6 : ¬ (4 : Int32) = 6 := by decide
    have n7 : ¬ (4 : Int32) = 7 := by decide
    have n8 : ¬ (4 : Int32) = 8 := by decide
    exact bX11_reckon_0  (fun h => absurd h (n2)) (fun h => absurd h (n3)) (fun _ => hQ) (fun h => absurd h (n5)) (fun h => absurd h (n5)) (fun h => absurd h (n6)) (fun h => absurd h (n6)) (fun h => absurd h (n7)) (fun h => absurd h (n7)) (fun h => absurd h (n8)) (fun h => absurd h (n8)) (fun _ _ h => absurd (rfl) h) (fun _ _ h => absurd (rfl) h)
  · rw [joinP_47] at hQ
    have n2 : ¬ (5 : Int32) = 2 := by decide
    have n3 : ¬ (5 : Int32) = 3 := by decide
    have n4 : ¬ (5 : Int32) = 4 := by decide
    have n6 : ¬ (5 : Int32) = 6 := by decide
    have n7 : ¬ (5 : Int32) = 7 := by decide
    have n8 : ¬ (5 : Int32) = 8 := by decide
    exact bX11_reckon_0  (fun h => absurd h (n2)) (fun h => absurd h (n3)) (fun h => absurd h (n4)) (fun _ => (fun z => hz ⟨by decide, z⟩)) (fun _ => hQ) (fun h => absurd h (n6)) (fun h => absurd h (n6)) (fun h => absurd h (n7)) (fun h => absurd h (n7)) (fun h => absurd h (n8)) (fun h => absurd h (n8)) (fun _ _ _ h => absurd (rfl) h) (fun _ _ _ h => absurd (rfl) h)
  · rw [joinP_37] at hQ
    have n2 : ¬ (6 : Int32) = 2 := by decide
    have n3 : ¬ (6 : Int32) = 3 := by decide
    have n4 : ¬ (6 : Int32) = 4 := by decide
    have n5 : ¬ (6 : Int32) = 5 := by decide
    have n7 : ¬ (6 : Int32) = 7 := by decide
    have n8 : ¬ (6 : Int32) = 8 := by decide
    exact bX11_reckon_0  (fun h => absurd h (n2)) (fun h => absurd h (n3)) (fun h => absurd h (n4)) (fun h => absurd h (n5)) (fun h => absurd h (n5)) (fun _ => (fun z => hz ⟨by decide, z⟩)) (fun _ => hQ) (fun h => absurd h (n7)) (fun h => absurd h (n7)) (fun h => absurd h (n8)) (fun h => absurd h (n8)) (fun _ _ _ _ h => absurd (rfl) h) (fun _ _ _ _ h => absurd (rfl) h)
  · rw [joinP_60] at hQ
    have n2 : ¬ (7 : Int32) = 2 := by decide
    have n3 : ¬ (7 : Int32) = 3 := by decide
    have n4 : ¬ (7 : Int32) = 4 := by decide
    have n5 : ¬ (7 : Int32) = 5 := by decide
    have n6 : ¬ (7 : Int32) = 6 := by decide
    have n8 : ¬ (7 : Int32) = 8 := by decide
    exact bX11_reckon_0  (fun h => absurd h (n2)) (fun h => absurd h (n3)) (fun h => absurd h (n4)) (fun h => absurd h (n5)) (fun h => absurd h (n5)) (fun h => absurd h (n6)) (fun h => absurd h (n6)) (fun _ h2 => (by rw [if_pos h2] at hQ; exact hQ)) (fun _ h2 => (by rw [if_neg h2] at hQ; exact hQ)) (fun h => absurd h (n8)) (fun h => absurd h (n8)) (fun _ _ _ _ _ h => absurd (rfl) h) (fun _ _ _ _ _ h => absurd (rfl) h)
  · rw [joinP_62] at hQ
    have n2 : ¬ (8 : Int32) = 2 := by decide
    have n3 : ¬ (8 : Int32) = 3 := by decide
    have n4 : ¬ (8 : Int32) = 4 := by decide
    have n5 : ¬ (8 : Int32) = 5 := by decide
    have n6 : ¬ (8 : Int32) = 6 := by decide
    have n7 : ¬ (8 : Int32) = 7 := by decide
    exact bX11_reckon_0  (fun h => absurd h (n2)) (fun h => absurd h (n3)) (fun h => absurd h (n4)) (fun h => absurd h (n5)) (fun h => absurd h (n5)) (fun h => absurd h (n6)) (fun h => absurd h (n6)) (fun h => absurd h (n7)) (fun h => absurd h (n7)) (fun _ h2 => (by rw [if_pos h2] at hQ; exact hQ)) (fun _ h2 => (by rw [if_neg h2] at hQ; exact hQ)) (fun _ _ _ _ _ _ h => absurd (rfl) h) (fun _ _ _ _ _ _ h => absurd (rfl) h)
  · rw [joinP_61] at hQ
    have n2 : ¬ (9 : Int32) = 2 := by decide
    have n3 : ¬ (9 : Int32) = 3 := by decide
    have n4 : ¬ (9 : Int32) = 4 := by decide
    have n5 : ¬ (9 : Int32) = 5 := by decide
    have n6 : ¬ (9 : Int32) = 6 := by decide
    have n7 : ¬ (9 : Int32) = 7 := by decide
    have n8 : ¬ (9 : Int32) = 8 := by decide
    exact bX11_reckon_0  (fun h => absurd h (n2)) (fun h => absurd h (n3)) (fun h => absurd h (n4)) (fun h => absurd h (n5)) (fun h => absurd h (n5)) (fun h => absurd h (n6)) (fun h => absurd h (n6)) (fun h => absurd h (n7)) (fun h => absurd h (n7)) (fun h => absurd h (n8)) (fun h => absurd h (n8)) (fun _ _ _ _ _ _ _ h8 => (by rw [if_neg h8] at hQ; exact hQ)) (fun _ _ _ _ _ _ _ h8 => (by rw [if_pos h8] at hQ; exact hQ))
theorem sp_comesTo {G : GC} {d : Nat} {sw : Bool} {f : FF} {Q : QQ} {sg wi : Nat → Int32} {v b : Nat} {cd : Bool} (hvb : v ≤ b) (hb : b ≤ 240) (hw : wfSeg sg wi v b cd) (he : ∀ k, v ≤ k → k < b → enc (sg k) (wi k) (f 97 k)) (hQ : ∀ g : FF, (∀ x, x ≠ 102 → g x = f x) → Q (some (.int (evL sg wi (f 103) b 241 v 0 (fun _ => 0)))) sw g) : XP G mX11_comesTo (d + 1) 0 [.ref 82, .int (nI v), .int (nI b), .null, .null, .null, .null, .null] [] sw f Q := by
  obtain ⟨dep, bo, d0, d1, d2, hst⟩ := hw
  have loop : ∀ (F k : Nat) (st : Nat → Int32) (g : FF) (v6 v7 : Value), b + 1 ≤ F + k → v ≤ k → k ≤ b → (∀ x, x ≠ 102 → g x = f x) → (∀ j, j < dep k → g 102 j = st j) → (∀ g' : FF, (∀ x, x ≠ 102 → g' x = f x) → Q (some (.int (evL sg wi (f 103) b F k (dep k) st))) sw g') → XP G mX11_comesTo (d + 1) 16 [.ref 82, .int (nI v), .int (nI b), .int (nI (dep k)), .int 0, .int (nI k), v6, v7] [] sw g Q := by
    intro F
    induction F with
    | zero => intro k st g v6 v7 h1 h2 h3; omega
    | succ F ih =>
      intro k st g v6 v7 hF hvk hkb go hs hQ
      by_cases hk : k = b
      · have n2 : nI b ≤ nI k := by rw [hk]; exact nI_le (Nat.le_refl _) (by omega)
        have dk : dep k = 1 := by rw [hk]; exact d1
        have e0 : Q (some (.int (g 102 0))) sw g := by
          have := hQ g go
          rw [evL_end (by omega)] at this
          rw [hs 0 (by omega)]
          exact this
        exact bX11_comesTo_16  (fun _ => e0) (fun h => absurd (n2) h) (fun h => absurd (n2) h) (fun h => absurd (n2) h) (fun h => absurd (n2) h) (fun h => absurd (n2) h) (fun h => absurd (n2) h) (fun h => absurd (n2) h) (fun h => absurd (n2) h) (fun h => absurd (n2) h) (fun h => absurd (n2) h) (fun h => absurd (n2) h) (fun h => absurd (n2) h) (fun h => absurd (n2) h) (fun h => absurd (n2) h) (fun h => absurd (n2) h) (fun h => absurd (n2) h) (fun h => absurd (n2) h) (fun h => absurd (n2) h) (fun h => absurd (n2) h) (fun h => absurd (n2) h) (fun h => absurd (n2) h) (fun h => absurd (n2) h) (fun h => absurd (n2) h) (fun h => absurd (n2) h) (fun h => absurd (n2) h) (fun h => absurd (n2) h) (fun h => absurd (n2) h) (fun h => absurd (n2) h) (fun h => absurd (n2) h) (fun h => absurd (n2) h) (fun h => absurd (n2) h) (fun h => absurd (n2) h) (fun h => absurd (n2) h) (fun h => absurd (n2) h) (fun h => absurd (n2) h) (fun h => absurd (n2) h) (fun h => absurd (n2) h) (fun h => absurd (n2) h)
      · have hlt : k < b := by omega
        have n2 : ¬ nI b ≤ nI k := nI_ge hlt (by omega)
        obtain ⟨dk, hwf⟩ := hst k hvk hlt
        obtain ⟨w1, w2, w3, w4, w5⟩ := id hwf
        have ck : (nI k).toNatClampNeg = k := nI_clamp (by omega)
        have g97 : g 97 (nI k).toNatClampNeg = f 97 k := by rw [ck, go 97 (by omega)]
        have g103 : g 103 = f 103 := go 103 (by omega)
        have vk : vp_in (nI k) 260 := vp_in_nI (by omega) (by omega)
        have vd : vp_in (nI (dep k)) 260 := vp_in_nI (by omega) (by omega)
        have psh : ∀ (x : Int32) (v6 v7 : Value), dep (k + 1) = dep k + 1 → (evL sg wi (f 103) b (F + 1) k (dep k) st = evL sg wi (f 103) b F (k + 1) (dep k + 1) (upd st (dep k) x)) → XP G mX11_comesTo (d + 1) 16 [.ref 82, .int (nI v), .int (nI b), .int (nI (dep k) + 1), .int 0, .int (nI k + 1), v6, v7] [] sw (upd2 g 102 (nI (dep k)).toNatClampNeg x) Q := by
          intro x v6 v7 e1 e3
          rw [nI_1, nI_1, nI_clamp (by omega), ← e1]
          refine ih (k + 1) (upd st (dep k) x) _ v6 v7 (by omega) (by omega) (by omega) (fun y y1 => by rw [upd2_ne _ _ _ y1]; exact go y y1) (fun j hj => ?_) (fun g' hg' => ?_)
          · rw [upd2_self]
            by_cases y : j = dep k
            · subst y; rw [pk_us, pk_us]
            · rw [pk_un y, pk_un y]; exact hs j (by omega)
          · have := hQ g' hg'
            rw [e3, ← e1] at this
            exact this
        rcases enc_op (he k hvk hlt) with ⟨h, e, hr⟩ | ⟨h, hwi, e, hr⟩ | h | ⟨h, e⟩ | ⟨h, e, hr⟩ | ⟨h, e, hr⟩
        · have hd := w1 (Or.inl h)
          rw [← g97] at e hr
          have m1 : ¬ g 97 (nI k).toNatClampNeg / 1048576 = 1 := by rw [e]; decide
          have m10 : ¬ g 97 (nI k).toNatClampNeg / 1048576 = 10 := by rw [e]; decide
          have m11 : ¬ g 97 (nI k).toNatClampNeg / 1048576 = 11 := by rw [e]; decide
          have m12 : ¬ g 97 (nI k).toNatClampNeg / 1048576 = 12 := by rw [e]; decide
          have m5 : ¬ g 97 (nI k).toNatClampNeg / 1048576 = 5 := by rw [e]; decide
          have m6 : ¬ g 97 (nI k).toNatClampNeg / 1048576 = 6 := by rw [e]; decide
          refine bX11_comesTo_16  (fun h => absurd h (n2)) (fun _ => vk) (fun _ => vk) (fun _ _ h => absurd (e) h) (fun _ _ h => absurd (e) h) (fun _ _ h => absurd (e) h) (fun _ _ _ => vd) (fun _ _ _ => ?_) (fun _ h => absurd (e) h) (fun _ h => absurd (e) h) (fun _ h => absurd (e) h) (fun _ h => absurd (e) h) (fun _ h => absurd (e) h) (fun _ h => absurd (e) h) (fun _ h => absurd (e) h) (fun _ h => absurd (e) h) (fun _ h => absurd (e) h) (fun _ h => absurd (e) h) (fun _ h => absurd (e) h) (fun _ h => absurd (e) h) (fun _ h => absurd (e) h) (fun _ h => absurd (e) h) (fun _ h => absurd (e) h) (fun _ h => absurd (e) h) (fun _ h => absurd (e) h) (fun _ h => absurd (e) h) (fun _ h => absurd (e) h) (fun _ h => absurd (e) h) (fun _ h => absurd (e) h) (fun _ h => absurd (e) h) (fun _ h => absurd (e) h) (fun _ h => absurd (e) h) (fun _ h => absurd (e) h) (fun _ h => absurd (e) h) (fun _ h => absurd (e) h) (fun _ h => absurd (e) h) (fun _ h => absurd (e) h) (fun _ h => absurd (e) h) (fun _ h => absurd (e) h)
          rw [hr]
          exact psh _ _ _ hd.1 (evL_48 hlt h)
        · have hd := w1 (Or.inr h)
          rw [← g97] at e hr
          have m0 : ¬ g 97 (nI k).toNatClampNeg / 1048576 = 0 := by rw [e]; decide
          have m10 : ¬ g 97 (nI k).toNatClampNeg / 1048576 = 10 := by rw [e]; decide
          have m11 : ¬ g 97 (nI k).toNatClampNeg / 1048576 = 11 := by rw [e]; decide
          have m12 : ¬ g 97 (nI k).toNatClampNeg / 1048576 = 12 := by rw [e]; decide
          have m5 : ¬ g 97 (nI k).toNatClampNeg / 1048576 = 5 := by rw [e]; decide
          have m6 : ¬ g 97 (nI k).toNatClampNeg / 1048576 = 6 := by rw [e]; decide
          obtain ⟨wn, hwn, ewn⟩ := isN_nI hwi (by omega)
          refine bX11_comesTo_16  (fun h => absurd h (n2)) (fun _ => vk) (fun _ => vk) (fun _ h => absurd h (m0)) (fun _ h => absurd h (m0)) (fun _ h => absurd h (m0)) (fun _ h => absurd h (m0)) (fun _ h => absurd h (m0)) (fun _ _ h => absurd (e) h) (fun _ _ h => absurd (e) h) (fun _ _ h => absurd (e) h) (fun _ _ h => absurd (e) h) (fun _ _ h => absurd (e) h) (fun _ _ h => absurd (e) h) (fun _ _ h => absurd (e) h) (fun _ _ h => absurd (e) h) (fun _ _ h => absurd (e) h) (fun _ _ h => absurd (e) h) (fun _ _ h => absurd (e) h) (fun _ _ h => absurd (e) h) (fun _ _ h => absurd (e) h) (fun _ _ h => absurd (e) h) (fun _ _ h => absurd (e) h) (fun _ _ h => absurd (e) h) (fun _ _ h => absurd (e) h) (fun _ _ h => absurd (e) h) (fun _ _ h => absurd (e) h) (fun _ _ h => absurd (e) h) (fun _ _ h => absurd (e) h) (fun _ _ h => absurd (e) h) (fun _ _ h => absurd (e) h) (fun _ _ h => absurd (e) h) (fun _ _ h => absurd (e) h) (fun _ _ h => absurd (e) h) (fun _ _ _ _ => ?_) (fun _ _ _ _ => vd) (fun _ _ _ _ => ?_) (fun _ _ _ h => absurd h (m0)) (fun _ _ _ h => absurd h (m0))
          · rw [hr, ewn]; exact vp_in_nI (by omega) (by omega)
          · rw [hr, g103]; exact psh _ _ _ hd.1 (evL_97 hlt h)
        · have hA := opA_isA h
          obtain ⟨m0, m1, m10, m11, m12, o5, o6⟩ := opA_n h
          rw [← g97] at m0 m1 m10 m11 m12 o5 o6
          have hd := isA_wf hwf hA
          obtain ⟨m, hm⟩ : ∃ m, dep k = m + 2 := ⟨dep k - 2, by omega⟩
          have hm1 : dep (k + 1) = m + 1 := by omega
          have x1 : nI (dep k) - 1 = nI (m + 1) := by rw [hm, nI_pred]
          have x2 : nI (dep k) - 1 - 1 = nI m := by rw [x1, nI_pred]
          have v1 : vp_in (nI (dep k) - 1) 260 := by rw [x1]; exact vp_in_nI (by omega) (by omega)
          have v2 : vp_in (nI (dep k) - 1 - 1) 260 := by rw [x2]; exact vp_in_nI (by omega) (by omega)
          have tp : g 102 (nI (dep k) - 1).toNatClampNeg = st (m + 1) := by rw [x1, nI_clamp (by omega)]; exact hs _ (by omega)
          have go2 : ¬ ((sg k = 47 ∨ sg k = 37) ∧ st (m + 1) = 0) → ∀ v6 v7 : Value, XP G mX11_reckon d 0 [.int (g 97 (nI k).toNatClampNeg / 1048576), .int (g 102 (nI (dep k) - 1 - 1).toNatClampNeg), .int (g 102 (nI (dep k) - 1).toNatClampNeg)] [] sw g (fun v_1 sw' f' => XP G mX11_comesTo (d + 1) 229 [.ref 82, .int (nI v), .int (nI b), .int (nI (dep k) - 1), .int 0, .int (nI k + 1), .int (g 97 (nI k).toNatClampNeg / 1048576), .int (g 97 (nI k).toNatClampNeg - g 97 (nI k).toNatClampNeg / 1048576 * 1048576)] (retst v_1 [.int (nI (dep k) - 1 - 1), .ref 102]) sw' f' Q) := by
            intro hz v6 v7
            rw [tp, x2, nI_clamp (n := m) (by omega), hs m (by omega)]
            refine sp_reckonM (s := sg k) (by rw [g97]; exact h) hz ?_
            refine bX11_comesTo_229 (vp_in_nI (by omega) (by omega)) ?_
            rw [nI_1, nI_clamp (n := m) (by omega), show nI (dep k) - 1 = nI (dep (k + 1)) by rw [x1, hm1]]
            refine ih (k + 1) (upd st m (joinP (sg k) (st m) (st (m + 1)))) _ _ _ (by omega) (by omega) (by omega) (fun y y1 => by rw [upd2_ne _ _ _ y1]; exact go y y1) (fun j hj => ?_) (fun g' hg' => ?_)
            · rw [upd2_self]
              by_cases y : j = m
              · subst y; rw [pk_us, pk_us]
              · rw [pk_un y, pk_un y]; exact hs j (by omega)
            · have := hQ g' hg'
              rw [evL_An hlt hA (by rw [hm]; exact hz), hm] at this
              rw [hm1]
              exact this
          have zero : (sg k = 47 ∨ sg k = 37) → st (m + 1) = 0 → Q (some (.int 0)) sw g := by
            intro z1 z2
            have := hQ g go
            rw [evL_Az hlt hA (by rw [hm]; exact ⟨z1, z2⟩)] at this
            exact this
          by_cases c5 : g 97 (nI k).toNatClampNeg / 1048576 = 5
          · exact bX11_comesTo_16  (fun h => absurd h (n2)) (fun _ => vk) (fun _ => vk) (fun _ h => absurd h (m0)) (fun _ h => absurd h (m0)) (fun _ h => absurd h (m0)) (fun _ h => absurd h (m0)) (fun _ h => absurd h (m0)) (fun _ _ _ _ h => absurd h (m11)) (fun _ _ _ _ h => absurd h (m11)) (fun _ _ _ _ h => absurd h (m11)) (fun _ _ _ _ h => absurd h (m11)) (fun _ _ _ _ h => absurd h (m11)) (fun _ _ _ _ _ _ _ => v1) (fun _ _ _ _ _ _ _ h8 => v2) (fun _ _ _ _ _ _ _ h8 => v1) (fun _ _ _ _ _ _ _ h8 => (go2 (fun z => h8 (tp.trans z.2)) .null .null)) (fun _ _ _ _ _ _ _ h8 => (zero (Or.inl (o5.mp c5)) (tp.symm.trans h8))) (fun _ _ _ _ _ _ h => absurd (c5) h) (fun _ _ _ _ _ _ h => absurd (c5) h) (fun _ _ _ _ _ _ h => absurd (c5) h) (fun _ _ _ _ _ _ h => absurd (c5) h) (fun _ _ _ _ _ _ h => absurd (c5) h) (fun _ _ _ _ _ _ h => absurd (c5) h) (fun _ _ _ _ _ _ h => absurd (c5) h) (fun _ _ _ _ _ _ h => absurd (c5) h) (fun _ _ _ _ _ h => absurd h (m12)) (fun _ _ _ _ _ h => absurd h (m12)) (fun _ _ _ _ _ h => absurd h (m12)) (fun _ _ _ _ _ h => absurd h (m12)) (fun _ _ _ _ _ h => absurd h (m12)) (fun _ _ _ h => absurd h (m10)) (fun _ _ _ h => absurd h (m10)) (fun _ _ _ h => absurd h (m10)) (fun _ _ h => absurd h (m1)) (fun _ _ h => absurd h (m1)) (fun _ _ h => absurd h (m1)) (fun _ _ h => absurd h (m1)) (fun _ _ h => absurd h (m1))
          · by_cases c6 : g 97 (nI k).toNatClampNeg / 1048576 = 6
            · exact bX11_comesTo_16  (fun h => absurd h (n2)) (fun _ => vk) (fun _ => vk) (fun _ h => absurd h (m0)) (fun _ h => absurd h (m0)) (fun _ h => absurd h (m0)) (fun _ h => absurd h (m0)) (fun _ h => absurd h (m0)) (fun _ _ _ _ h => absurd h (m11)) (fun _ _ _ _ h => absurd h (m11)) (fun _ _ _ _ h => absurd h (m11)) (fun _ _ _ _ h => absurd h (m11)) (fun _ _ _ _ h => absurd h (m11)) (fun _ _ _ _ _ _ h => absurd h (c5)) (fun _ _ _ _ _ _ h => absurd h (c5)) (fun _ _ _ _ _ _ h => absurd h (c5)) (fun _ _ _ _ _ _ h => absurd h (c5)) (fun _ _ _ _ _ _ h => absurd h (c5)) (fun _ _ _ _ _ _ _ h => absurd (c6) h) (fun _ _ _ _ _ _ _ h => absurd (c6) h) (fun _ _ _ _ _ _ _ h => absurd (c6) h) (fun _ _ _ _ _ _ _ _ => v1) (fun _ _ _ _ _ _ _ _ h9 => v2) (fun _ _ _ _ _ _ _ _ h9 => v1) (fun _ _ _ _ _ _ _ _ h9 => (go2 (fun z => h9 (tp.trans z.2)) .null .null)) (fun _ _ _ _ _ _ _ _ h9 => (zero (Or.inr (o6.mp c6)) (tp.symm.trans h9))) (fun _ _ _ _ _ h => absurd h (m12)) (fun _ _ _ _ _ h => absurd h (m12)) (fun _ _ _ _ _ h => absurd h (m12)) (fun _ _ _ _ _ h => absurd h (m12)) (fun _ _ _ _ _ h => absurd h (m12)) (fun _ _ _ h => absurd h (m10)) (fun _ _ _ h => absurd h (m10)) (fun _ _ _ h => absurd h (m10)) (fun _ _ h => absurd h (m1)) (fun _ _ h => absurd h (m1)) (fun _ _ h => absurd h (m1)) (fun _ _ h => absurd h (m1)) (fun _ _ h => absurd h (m1))
            · have m5 := c5
              have m6 := c6
              exact bX11_comesTo_16  (fun h => absurd h (n2)) (fun _ => vk) (fun _ => vk) (fun _ h => absurd h (m0)) (fun _ h => absurd h (m0)) (fun _ h => absurd h (m0)) (fun _ h => absurd h (m0)) (fun _ h => absurd h (m0)) (fun _ _ _ _ h => absurd h (m11)) (fun _ _ _ _ h => absurd h (m11)) (fun _ _ _ _ h => absurd h (m11)) (fun _ _ _ _ h => absurd h (m11)) (fun _ _ _ _ h => absurd h (m11)) (fun _ _ _ _ _ _ h => absurd h (c5)) (fun _ _ _ _ _ _ h => absurd h (c5)) (fun _ _ _ _ _ _ h => absurd h (c5)) (fun _ _ _ _ _ _ h => absurd h (c5)) (fun _ _ _ _ _ _ h => absurd h (c5)) (fun _ _ _ _ _ _ _ _ => v2) (fun _ _ _ _ _ _ _ _ => v1) (fun _ _ _ _ _ _ _ _ => (go2 (fun z => z.1.elim (fun y => m5 (o5.mpr y)) (fun y => m6 (o6.mpr y))) .null .null)) (fun _ _ _ _ _ _ _ h => absurd h (c6)) (fun _ _ _ _ _ _ _ h => absurd h (c6)) (fun _ _ _ _ _ _ _ h => absurd h (c6)) (fun _ _ _ _ _ _ _ h => absurd h (c6)) (fun _ _ _ _ _ _ _ h => absurd h (c6)) (fun _ _ _ _ _ h => absurd h (m12)) (fun _ _ _ _ _ h => absurd h (m12)) (fun _ _ _ _ _ h => absurd h (m12)) (fun _ _ _ _ _ h => absurd h (m12)) (fun _ _ _ _ _ h => absurd h (m12)) (fun _ _ _ h => absurd h (m10)) (fun _ _ _ h => absurd h (m10)) (fun _ _ _ h => absurd h (m10)) (fun _ _ h => absurd h (m1)) (fun _ _ h => absurd h (m1)) (fun _ _ h => absurd h (m1)) (fun _ _ h => absurd h (m1)) (fun _ _ h => absurd h (m1))
        · have hd := w4 h
          rw [← g97] at e
          have m0 : ¬ g 97 (nI k).toNatClampNeg / 1048576 = 0 := by rw [e]; decide
          have m1 : ¬ g 97 (nI k).toNatClampNeg / 1048576 = 1 := by rw [e]; decide
          have m11 : ¬ g 97 (nI k).toNatClampNeg / 1048576 = 11 := by rw [e]; decide
          have m12 : ¬ g 97 (nI k).toNatClampNeg / 1048576 = 12 := by rw [e]; decide
          have m5 : ¬ g 97 (nI k).toNatClampNeg / 1048576 = 5 := by rw [e]; decide
          have m6 : ¬ g 97 (nI k).toNatClampNeg / 1048576 = 6 := by rw [e]; decide
          obtain ⟨m, hm⟩ : ∃ m, dep k = m + 1 := ⟨dep k - 1, by omega⟩
          have x1 : nI (dep k) - 1 = nI m := by rw [hm, nI_pred]
          have vm : vp_in (nI (dep k) - 1) 260 := by rw [x1]; exact vp_in_nI (by omega) (by omega)
          refine bX11_comesTo_16  (fun h => absurd h (n2)) (fun _ => vk) (fun _ => vk) (fun _ h => absurd h (m0)) (fun _ h => absurd h (m0)) (fun _ h => absurd h (m0)) (fun _ h => absurd h (m0)) (fun _ h => absurd h (m0)) (fun _ _ _ h => absurd (e) h) (fun _ _ _ h => absurd (e) h) (fun _ _ _ h => absurd (e) h) (fun _ _ _ h => absurd (e) h) (fun _ _ _ h => absurd (e) h) (fun _ _ _ h => absurd (e) h) (fun _ _ _ h => absurd (e) h) (fun _ _ _ h => absurd (e) h) (fun _ _ _ h => absurd (e) h) (fun _ _ _ h => absurd (e) h) (fun _ _ _ h => absurd (e) h) (fun _ _ _ h => absurd (e) h) (fun _ _ _ h => absurd (e) h) (fun _ _ _ h => absurd (e) h) (fun _ _ _ h => absurd (e) h) (fun _ _ _ h => absurd (e) h) (fun _ _ _ h => absurd (e) h) (fun _ _ _ h => absurd (e) h) (fun _ _ _ h => absurd (e) h) (fun _ _ _ h => absurd (e) h) (fun _ _ _ h => absurd (e) h) (fun _ _ _ h => absurd (e) h) (fun _ _ _ h => absurd (e) h) (fun _ _ _ _ => vm) (fun _ _ _ _ => vm) (fun _ _ _ _ => ?_) (fun _ _ h => absurd h (m1)) (fun _ _ h => absurd h (m1)) (fun _ _ h => absurd h (m1)) (fun _ _ h => absurd h (m1)) (fun _ _ h => absurd h (m1))
          rw [nI_1, x1, nI_clamp (n := m) (by omega), hs m (by omega), ← hd.2.2.1]
          refine ih (k + 1) (upd st m (1 - st m)) _ _ _ (by omega) (by omega) (by omega) (fun y y1 => by rw [upd2_ne _ _ _ y1]; exact go y y1) (fun j hj => ?_) (fun g' hg' => ?_)
          · rw [upd2_self]
            by_cases y : j = m
            · subst y; rw [pk_us, pk_us]
            · rw [pk_un y, pk_un y]; exact hs j (by have := hd.2.2.1; omega)
          · have := hQ g' hg'
            rw [evL_33 hlt h, show dep k - 1 = m by omega, ← hd.2.2.1] at this
            exact this
        · obtain ⟨x1, x2, x3, t, x4, x5, x6, x7, x8⟩ := w5 (Or.inl h)
          rw [← g97] at e hr
          have m0 : ¬ g 97 (nI k).toNatClampNeg / 1048576 = 0 := by rw [e]; decide
          have m1 : ¬ g 97 (nI k).toNatClampNeg / 1048576 = 1 := by rw [e]; decide
          have m10 : ¬ g 97 (nI k).toNatClampNeg / 1048576 = 10 := by rw [e]; decide
          have m12 : ¬ g 97 (nI k).toNatClampNeg / 1048576 = 12 := by rw [e]; decide
          have m5 : ¬ g 97 (nI k).toNatClampNeg / 1048576 = 5 := by rw [e]; decide
          have m6 : ¬ g 97 (nI k).toNatClampNeg / 1048576 = 6 := by rw [e]; decide
          have tp : g 102 (nI (dep k) - 1).toNatClampNeg = st 0 := by rw [x1]; exact hs 0 (by omega)
          have vm : vp_in (nI (dep k) - 1) 260 := by rw [x1]; exact vp_in_nI (n := 0) (by omega) (by omega)
          have jmp : ∀ v6 v7 : Value, st 0 = 0 → XP G mX11_comesTo (d + 1) 16 [.ref 82, .int (nI v), .int (nI b), .int (nI (dep k)), .int 0, .int (0 + (g 97 (nI k).toNatClampNeg - g 97 (nI k).toNatClampNeg / 1048576 * 1048576)), v6, v7] [] sw g Q := by
            intro v6 v7 hz
            rw [hr, x4, Int32.zero_add, show dep k = dep t by omega]
            refine ih t st g v6 v7 (by omega) (by omega) x6 go (fun j hj => hs j (by omega)) (fun g' hg' => ?_)
            have := hQ g' hg'
            rw [evL_38j hlt h (by rw [show dep k - 1 = 0 by omega]; exact hz), x4, nI_clamp (by omega), show dep k = dep t by omega] at this
            exact this
          have pop : ∀ v6 v7 : Value, ¬ st 0 = 0 → XP G mX11_comesTo (d + 1) 16 [.ref 82, .int (nI v), .int (nI b), .int (nI (dep k) - 1), .int 0, .int (nI k + 1), v6, v7] [] sw g Q := by
            intro v6 v7 hz
            rw [nI_1, show nI (dep k) - 1 = nI (dep (k + 1)) by rw [x1, x3]; decide]
            refine ih (k + 1) st g v6 v7 (by omega) (by omega) (by omega) go (fun j hj => absurd hj (by omega)) (fun g' hg' => ?_)
            have := hQ g' hg'
            rw [evL_38p hlt h (by rw [show dep k - 1 = 0 by omega]; exact hz), show dep k - 1 = dep (k + 1) by omega] at this
            exact this
          exact bX11_comesTo_16  (fun h => absurd h (n2)) (fun _ => vk) (fun _ => vk) (fun _ h => absurd h (m0)) (fun _ h => absurd h (m0)) (fun _ h => absurd h (m0)) (fun _ h => absurd h (m0)) (fun _ h => absurd h (m0)) (fun _ _ _ _ _ => vm) (fun _ _ _ _ _ _ h7 => (pop _ _ (fun z => h7 (tp.trans z)))) (fun _ _ _ _ _ _ h7 => (jmp _ _ (tp.symm.trans h7))) (fun _ _ _ _ _ h => absurd h (m12)) (fun _ _ _ _ _ h => absurd h (m12)) (fun _ _ _ _ h => absurd (e) h) (fun _ _ _ _ h => absurd (e) h) (fun _ _ _ _ h => absurd (e) h) (fun _ _ _ _ h => absurd (e) h) (fun _ _ _ _ h => absurd (e) h) (fun _ _ _ _ h => absurd (e) h) (fun _ _ _ _ h => absurd (e) h) (fun _ _ _ _ h => absurd (e) h) (fun _ _ _ _ h => absurd (e) h) (fun _ _ _ _ h => absurd (e) h) (fun _ _ _ _ h => absurd (e) h) (fun _ _ _ _ h => absurd (e) h) (fun _ _ _ _ h => absurd (e) h) (fun _ _ _ _ h => absurd (e) h) (fun _ _ _ _ h => absurd (e) h) (fun _ _ _ _ h => absurd (e) h) (fun _ _ _ _ h => absurd (e) h) (fun _ _ _ _ h => absurd (e) h) (fun _ _ _ h => absurd h (m10)) (fun _ _ _ h => absurd h (m10)) (fun _ _ _ h => absurd h (m10)) (fun _ _ h => absurd h (m1)) (fun _ _ h => absurd h (m1)) (fun _ _ h => absurd h (m1)) (fun _ _ h => absurd h (m1)) (fun _ _ h => absurd h (m1))
        · obtain ⟨x1, x2, x3, t, x4, x5, x6, x7, x8⟩ := w5 (Or.inr h)
          rw [← g97] at e hr
          have m0 : ¬ g 97 (nI k).toNatClampNeg / 1048576 = 0 := by rw [e]; decide
          have m1 : ¬ g 97 (nI k).toNatClampNeg / 1048576 = 1 := by rw [e]; decide
          have m10 : ¬ g 97 (nI k).toNatClampNeg / 1048576 = 10 := by rw [e]; decide
          have m11 : ¬ g 97 (nI k).toNatClampNeg / 1048576 = 11 := by rw [e]; decide
          have m5 : ¬ g 97 (nI k).toNatClampNeg / 1048576 = 5 := by rw [e]; decide
          have m6 : ¬ g 97 (nI k).toNatClampNeg / 1048576 = 6 := by rw [e]; decide
          have tp : g 102 (nI (dep k) - 1).toNatClampNeg = st 0 := by rw [x1]; exact hs 0 (by omega)
          have vm : vp_in (nI (dep k) - 1) 260 := by rw [x1]; exact vp_in_nI (n := 0) (by omega) (by omega)
          have jmp : ∀ v6 v7 : Value, st 0 = 1 → XP G mX11_comesTo (d + 1) 16 [.ref 82, .int (nI v), .int (nI b), .int (nI (dep k)), .int 0, .int (0 + (g 97 (nI k).toNatClampNeg - g 97 (nI k).toNatClampNeg / 1048576 * 1048576)), v6, v7] [] sw g Q := by
            intro v6 v7 hz
            rw [hr, x4, Int32.zero_add, show dep k = dep t by omega]
            refine ih t st g v6 v7 (by omega) (by omega) x6 go (fun j hj => hs j (by omega)) (fun g' hg' => ?_)
            have := hQ g' hg'
            rw [evL_124j hlt h (by rw [show dep k - 1 = 0 by omega]; exact hz), x4, nI_clamp (by omega), show dep k = dep t by omega] at this
            exact this
          have pop : ∀ v6 v7 : Value, ¬ st 0 = 1 → XP G mX11_comesTo (d + 1) 16 [.ref 82, .int (nI v), .int (nI b), .int (nI (dep k) - 1), .int 0, .int (nI k + 1), v6, v7] [] sw g Q := by
            intro v6 v7 hz
            rw [nI_1, show nI (dep k) - 1 = nI (dep (k + 1)) by rw [x1, x3]; decide]
            refine ih (k + 1) st g v6 v7 (by omega) (by omega) (by omega) go (fun j hj => absurd hj (by omega)) (fun g' hg' => ?_)
            have := hQ g' hg'
            rw [evL_124p hlt h (by rw [show dep k - 1 = 0 by omega]; exact hz), show dep k - 1 = dep (k + 1) by omega] at this
            exact this
          exact bX11_comesTo_16  (fun h => absurd h (n2)) (fun _ => vk) (fun _ => vk) (fun _ h => absurd h (m0)) (fun _ h => absurd h (m0)) (fun _ h => absurd h (m0)) (fun _ h => absurd h (m0)) (fun _ h => absurd h (m0)) (fun _ _ _ _ h => absurd h (m11)) (fun _ _ _ _ h => absurd h (m11)) (fun _ _ _ _ h => absurd h (m11)) (fun _ _ _ _ h => absurd h (m11)) (fun _ _ _ _ h => absurd h (m11)) (fun _ _ _ _ _ h => absurd (e) h) (fun _ _ _ _ _ h => absurd (e) h) (fun _ _ _ _ _ h => absurd (e) h) (fun _ _ _ _ _ h => absurd (e) h) (fun _ _ _ _ _ h => absurd (e) h) (fun _ _ _ _ _ h => absurd (e) h) (fun _ _ _ _ _ h => absurd (e) h) (fun _ _ _ _ _ h => absurd (e) h) (fun _ _ _ _ _ h => absurd (e) h) (fun _ _ _ _ _ h => absurd (e) h) (fun _ _ _ _ _ h => absurd (e) h) (fun _ _ _ _ _ h => absurd (e) h) (fun _ _ _ _ _ h => absurd (e) h) (fun _ _ _ _ _ _ => vm) (fun _ _ _ _ _ _ h => absurd (e) h) (fun _ _ _ _ _ _ h => absurd (e) h) (fun _ _ _ _ _ _ _ h8 => (pop _ _ (fun z => h8 (tp.trans z)))) (fun _ _ _ _ _ _ _ h8 => (jmp _ _ (tp.symm.trans h8))) (fun _ _ _ h => absurd h (m10)) (fun _ _ _ h => absurd h (m10)) (fun _ _ _ h => absurd h (m10)) (fun _ _ h => absurd h (m1)) (fun _ _ h => absurd h (m1)) (fun _ _ h => absurd h (m1)) (fun _ _ h => absurd h (m1)) (fun _ _ h => absurd h (m1))
  refine bX11_comesTo_0 ?_
  have := loop 241 v (fun _ => 0) f .null .null (by omega) (Nat.le_refl _) hvb (fun _ _ => rfl) (fun j hj => absurd hj (by omega)) (fun g' hg' => by rw [d0]; exact hQ g' hg')
  rw [d0] at this
  rw [show (260 : Int32) = nI 260 from rfl, pk_div (by omega) (by omega) (by omega), show v / 260 = 0 by omega, pk_mul]
  exact this
