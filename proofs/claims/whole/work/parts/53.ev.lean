/-! ===== what steps come to ===== -/
def joinP (s a b : Int32) : Int32 := if s = 43 then a + b else if s = 45 then a - b else if s = 42 then a * b else if s = 47 then a / b else if s = 37 then a - a / b * b else if s = 60 then (if b ≤ a then 0 else 1) else if s = 62 then (if a ≤ b then 0 else 1) else (if a = b then 1 else 0)
def evL (sg wi fa : Nat → Int32) (b : Nat) : Nat → Nat → Nat → (Nat → Int32) → Int32
  | 0, _, _, _ => 0
  | F + 1, k, n, st => if b ≤ k then st 0 else if sg k = 48 then evL sg wi fa b F (k + 1) (n + 1) (upd st n (wi k)) else if sg k = 97 then evL sg wi fa b F (k + 1) (n + 1) (upd st n (fa (wi k).toNatClampNeg)) else if sg k = 33 then evL sg wi fa b F (k + 1) n (upd st (n - 1) (1 - st (n - 1))) else if sg k = 38 then (if st (n - 1) = 0 then evL sg wi fa b F (wi k).toNatClampNeg n st else evL sg wi fa b F (k + 1) (n - 1) st) else if sg k = 124 then (if st (n - 1) = 1 then evL sg wi fa b F (wi k).toNatClampNeg n st else evL sg wi fa b F (k + 1) (n - 1) st) else if (sg k = 47 ∨ sg k = 37) ∧ st (n - 1) = 0 then 0 else evL sg wi fa b F (k + 1) (n - 1) (upd st (n - 2) (joinP (sg k) (st (n - 2)) (st (n - 1))))
theorem evL_end {sg wi fa : Nat → Int32} {b F k n : Nat} {st : Nat → Int32} (h : b ≤ k) : evL sg wi fa b (F + 1) k n st = st 0 := if_pos h
theorem evL_48 {sg wi fa : Nat → Int32} {b F k n : Nat} {st : Nat → Int32} (hk : k < b) (h : sg k = 48) : evL sg wi fa b (F + 1) k n st = evL sg wi fa b F (k + 1) (n + 1) (upd st n (wi k)) := by
  conv => lhs; unfold evL
  rw [if_neg (show ¬ b ≤ k by omega), if_pos h]
theorem evL_97 {sg wi fa : Nat → Int32} {b F k n : Nat} {st : Nat → Int32} (hk : k < b) (h : sg k = 97) : evL sg wi fa b (F + 1) k n st = evL sg wi fa b F (k + 1) (n + 1) (upd st n (fa (wi k).toNatClampNeg)) := by
  conv => lhs; unfold evL
  rw [if_neg (show ¬ b ≤ k by omega), if_neg (by rw [h]; decide), if_pos h]
theorem evL_33 {sg wi fa : Nat → Int32} {b F k n : Nat} {st : Nat → Int32} (hk : k < b) (h : sg k = 33) : evL sg wi fa b (F + 1) k n st = evL sg wi fa b F (k + 1) n (upd st (n - 1) (1 - st (n - 1))) := by
  conv => lhs; unfold evL
  rw [if_neg (show ¬ b ≤ k by omega), if_neg (by rw [h]; decide), if_neg (by rw [h]; decide), if_pos h]
theorem evL_38j {sg wi fa : Nat → Int32} {b F k n : Nat} {st : Nat → Int32} (hk : k < b) (h : sg k = 38) (hz : st (n - 1) = 0) : evL sg wi fa b (F + 1) k n st = evL sg wi fa b F (wi k).toNatClampNeg n st := by
  conv => lhs; unfold evL
  rw [if_neg (show ¬ b ≤ k by omega), if_neg (by rw [h]; decide), if_neg (by rw [h]; decide), if_neg (by rw [h]; decide), if_pos h, if_pos hz]
theorem evL_38p {sg wi fa : Nat → Int32} {b F k n : Nat} {st : Nat → Int32} (hk : k < b) (h : sg k = 38) (hz : ¬ st (n - 1) = 0) : evL sg wi fa b (F + 1) k n st = evL sg wi fa b F (k + 1) (n - 1) st := by
  conv => lhs; unfold evL
  rw [if_neg (show ¬ b ≤ k by omega), if_neg (by rw [h]; decide), if_neg (by rw [h]; decide), if_neg (by rw [h]; decide), if_pos h, if_neg hz]
theorem evL_124j {sg wi fa : Nat → Int32} {b F k n : Nat} {st : Nat → Int32} (hk : k < b) (h : sg k = 124) (hz : st (n - 1) = 1) : evL sg wi fa b (F + 1) k n st = evL sg wi fa b F (wi k).toNatClampNeg n st := by
  conv => lhs; unfold evL
  rw [if_neg (show ¬ b ≤ k by omega), if_neg (by rw [h]; decide), if_neg (by rw [h]; decide), if_neg (by rw [h]; decide), if_neg (by rw [h]; decide), if_pos h, if_pos hz]
theorem evL_124p {sg wi fa : Nat → Int32} {b F k n : Nat} {st : Nat → Int32} (hk : k < b) (h : sg k = 124) (hz : ¬ st (n - 1) = 1) : evL sg wi fa b (F + 1) k n st = evL sg wi fa b F (k + 1) (n - 1) st := by
  conv => lhs; unfold evL
  rw [if_neg (show ¬ b ≤ k by omega), if_neg (by rw [h]; decide), if_neg (by rw [h]; decide), if_neg (by rw [h]; decide), if_neg (by rw [h]; decide), if_pos h, if_neg hz]
def isA (s : Int32) : Prop := s = 43 ∨ s = 45 ∨ s = 42 ∨ s = 47 ∨ s = 37 ∨ s = 60 ∨ s = 62 ∨ s = 61
theorem isA_n {s : Int32} (h : isA s) : ¬ s = 48 ∧ ¬ s = 97 ∧ ¬ s = 33 ∧ ¬ s = 38 ∧ ¬ s = 124 := by
  rcases h with rfl | rfl | rfl | rfl | rfl | rfl | rfl | rfl <;> decide
theorem evL_Az {sg wi fa : Nat → Int32} {b F k n : Nat} {st : Nat → Int32} (hk : k < b) (h : isA (sg k)) (hz : (sg k = 47 ∨ sg k = 37) ∧ st (n - 1) = 0) : evL sg wi fa b (F + 1) k n st = 0 := by
  obtain ⟨n1, n2, n3, n4, n5⟩ := isA_n h
  conv => lhs; unfold evL
  rw [if_neg (show ¬ b ≤ k by omega), if_neg n1, if_neg n2, if_neg n3, if_neg n4, if_neg n5, if_pos hz]
theorem evL_An {sg wi fa : Nat → Int32} {b F k n : Nat} {st : Nat → Int32} (hk : k < b) (h : isA (sg k)) (hz : ¬ ((sg k = 47 ∨ sg k = 37) ∧ st (n - 1) = 0)) : evL sg wi fa b (F + 1) k n st = evL sg wi fa b F (k + 1) (n - 1) (upd st (n - 2) (joinP (sg k) (st (n - 2)) (st (n - 1)))) := by
  obtain ⟨n1, n2, n3, n4, n5⟩ := isA_n h
  conv => lhs; unfold evL
  rw [if_neg (show ¬ b ≤ k by omega), if_neg n1, if_neg n2, if_neg n3, if_neg n4, if_neg n5, if_neg hz]
theorem joinP_43 (a b : Int32) : joinP 43 a b = a + b := by
  unfold joinP
  rw [if_pos rfl]
theorem joinP_45 (a b : Int32) : joinP 45 a b = a - b := by
  unfold joinP
  rw [if_neg (by decide), if_pos rfl]
theorem joinP_42 (a b : Int32) : joinP 42 a b = a * b := by
  unfold joinP
  rw [if_neg (by decide), if_neg (by decide), if_pos rfl]
theorem joinP_47 (a b : Int32) : joinP 47 a b = a / b := by
  unfold joinP
  rw [if_neg (by decide), if_neg (by decide), if_neg (by decide), if_pos rfl]
theorem joinP_37 (a b : Int32) : joinP 37 a b = a - a / b * b := by
  unfold joinP
  rw [if_neg (by decide), if_neg (by decide), if_neg (by decide), if_neg (by decide), if_pos rfl]
theorem joinP_60 (a b : Int32) : joinP 60 a b = if b ≤ a then 0 else 1 := by
  unfold joinP
  rw [if_neg (by decide), if_neg (by decide), if_neg (by decide), if_neg (by decide), if_neg (by decide), if_pos rfl]
theorem joinP_62 (a b : Int32) : joinP 62 a b = if a ≤ b then 0 else 1 := by
  unfold joinP
  rw [if_neg (by decide), if_neg (by decide), if_neg (by decide), if_neg (by decide), if_neg (by decide), if_neg (by decide), if_pos rfl]
theorem joinP_61 (a b : Int32) : joinP 61 a b = if a = b then 1 else 0 := by
  unfold joinP
  rw [if_neg (by decide), if_neg (by decide), if_neg (by decide), if_neg (by decide), if_neg (by decide), if_neg (by decide), if_neg (by decide)]
theorem sp_join {G : GC} {d : Nat} {sw : Bool} {f : FF} {Q : QQ} {s a b : Int32} (hs : isA s) (hz : (s = 47 ∨ s = 37) ∧ b = 0 → Q (some (.int 0)) sw (upd2 f 33 2 1)) (hn : ¬ ((s = 47 ∨ s = 37) ∧ b = 0) → Q (some (.int (joinP s a b))) sw f) : XP G mX5_join d 0 [.ref 33, .int s, .int a, .int b] [] sw f Q := by
  rcases hs with rfl | rfl | rfl | rfl | rfl | rfl | rfl | rfl
  · have t1 := fun h : ¬ ((((43 : Int32) = 47) ∨ ((43 : Int32) = 37)) ∧ b = 0) => hn h
    rw [joinP_43] at t1
    have t2 := t1 (fun h => absurd h.1 (by decide))
    have n42 : ¬ (43 : Int32) = 42 := by decide
    have n45 : ¬ (43 : Int32) = 45 := by decide
    have n60 : ¬ (43 : Int32) = 60 := by decide
    have n61 : ¬ (43 : Int32) = 61 := by decide
    have n62 : ¬ (43 : Int32) = 62 := by decide
    have n47 : ¬ (43 : Int32) = 47 := by decide
    apply bX5_join_0 <;> intros <;> try contradiction
    exact t2
  · have t1 := fun h : ¬ ((((45 : Int32) = 47) ∨ ((45 : Int32) = 37)) ∧ b = 0) => hn h
    rw [joinP_45] at t1
    have t2 := t1 (fun h => absurd h.1 (by decide))
    have n42 : ¬ (45 : Int32) = 42 := by decide
    have n43 : ¬ (45 : Int32) = 43 := by decide
    have n60 : ¬ (45 : Int32) = 60 := by decide
    have n61 : ¬ (45 : Int32) = 61 := by decide
    have n62 : ¬ (45 : Int32) = 62 := by decide
    have n47 : ¬ (45 : Int32) = 47 := by decide
    apply bX5_join_0 <;> intros <;> try contradiction
    exact t2
  · have t1 := fun h : ¬ ((((42 : Int32) = 47) ∨ ((42 : Int32) = 37)) ∧ b = 0) => hn h
    rw [joinP_42] at t1
    have t2 := t1 (fun h => absurd h.1 (by decide))
    have n43 : ¬ (42 : Int32) = 43 := by decide
    have n45 : ¬ (42 : Int32) = 45 := by decide
    have n60 : ¬ (42 : Int32) = 60 := by decide
    have n61 : ¬ (42 : Int32) = 61 := by decide
    have n62 : ¬ (42 : Int32) = 62 := by decide
    have n47 : ¬ (42 : Int32) = 47 := by decide
    apply bX5_join_0 <;> intros <;> try contradiction
    exact t2
  · have t1 := fun h : ¬ ((((47 : Int32) = 47) ∨ ((47 : Int32) = 37)) ∧ b = 0) => hn h
    rw [joinP_47] at t1
    have n42 : ¬ (47 : Int32) = 42 := by decide
    have n43 : ¬ (47 : Int32) = 43 := by decide
    have n45 : ¬ (47 : Int32) = 45 := by decide
    have n60 : ¬ (47 : Int32) = 60 := by decide
    have n61 : ¬ (47 : Int32) = 61 := by decide
    have n62 : ¬ (47 : Int32) = 62 := by decide
    apply bX5_join_0 <;> intros <;> try contradiction
    all_goals first | assumption | (exact t1 (fun h => by have := h.2; contradiction)) | (exact hz ⟨by decide, by assumption⟩)
  · have t1 := fun h : ¬ ((((37 : Int32) = 47) ∨ ((37 : Int32) = 37)) ∧ b = 0) => hn h
    rw [joinP_37] at t1
    have n42 : ¬ (37 : Int32) = 42 := by decide
    have n43 : ¬ (37 : Int32) = 43 := by decide
    have n45 : ¬ (37 : Int32) = 45 := by decide
    have n60 : ¬ (37 : Int32) = 60 := by decide
    have n61 : ¬ (37 : Int32) = 61 := by decide
    have n62 : ¬ (37 : Int32) = 62 := by decide
    have n47 : ¬ (37 : Int32) = 47 := by decide
    apply bX5_join_0 <;> intros <;> try contradiction
    all_goals first | assumption | (exact t1 (fun h => by have := h.2; contradiction)) | (exact hz ⟨by decide, by assumption⟩)
  · have t1 := fun h : ¬ ((((60 : Int32) = 47) ∨ ((60 : Int32) = 37)) ∧ b = 0) => hn h
    rw [joinP_60] at t1
    have t2 := t1 (fun h => absurd h.1 (by decide))
    have n42 : ¬ (60 : Int32) = 42 := by decide
    have n43 : ¬ (60 : Int32) = 43 := by decide
    have n45 : ¬ (60 : Int32) = 45 := by decide
    have n61 : ¬ (60 : Int32) = 61 := by decide
    have n62 : ¬ (60 : Int32) = 62 := by decide
    have n47 : ¬ (60 : Int32) = 47 := by decide
    apply bX5_join_0 <;> intros <;> try contradiction
    · rename_i h1 h2; first | (rw [if_pos h2] at t2; exact t2) | (rw [if_neg h2] at t2; exact t2)
    · rename_i h1 h2; first | (rw [if_pos h2] at t2; exact t2) | (rw [if_neg h2] at t2; exact t2)
  · have t1 := fun h : ¬ ((((62 : Int32) = 47) ∨ ((62 : Int32) = 37)) ∧ b = 0) => hn h
    rw [joinP_62] at t1
    have t2 := t1 (fun h => absurd h.1 (by decide))
    have n42 : ¬ (62 : Int32) = 42 := by decide
    have n43 : ¬ (62 : Int32) = 43 := by decide
    have n45 : ¬ (62 : Int32) = 45 := by decide
    have n60 : ¬ (62 : Int32) = 60 := by decide
    have n61 : ¬ (62 : Int32) = 61 := by decide
    have n47 : ¬ (62 : Int32) = 47 := by decide
    apply bX5_join_0 <;> intros <;> try contradiction
    · rename_i h1 h2; first | (rw [if_pos h2] at t2; exact t2) | (rw [if_neg h2] at t2; exact t2)
    · rename_i h1 h2; first | (rw [if_pos h2] at t2; exact t2) | (rw [if_neg h2] at t2; exact t2)
  · have t1 := fun h : ¬ ((((61 : Int32) = 47) ∨ ((61 : Int32) = 37)) ∧ b = 0) => hn h
    rw [joinP_61] at t1
    have t2 := t1 (fun h => absurd h.1 (by decide))
    have n42 : ¬ (61 : Int32) = 42 := by decide
    have n43 : ¬ (61 : Int32) = 43 := by decide
    have n45 : ¬ (61 : Int32) = 45 := by decide
    have n60 : ¬ (61 : Int32) = 60 := by decide
    have n62 : ¬ (61 : Int32) = 62 := by decide
    have n47 : ¬ (61 : Int32) = 47 := by decide
    apply bX5_join_0 <;> intros <;> try contradiction
    · rename_i h1 h2; first | (rw [if_pos h2] at t2; exact t2) | (rw [if_neg h2] at t2; exact t2)
    · rename_i h1 h2; first | (rw [if_pos h2] at t2; exact t2) | (rw [if_neg h2] at t2; exact t2)
theorem enc_sg {s w c : Int32} (h : enc s w c) : (s = 48 ∧ isN w 99999) ∨ (s = 97 ∧ isN w 9) ∨ isA s ∨ s = 33 ∨ (s = 38 ∧ isN w 240) ∨ (s = 124 ∧ isN w 240) := by
  unfold isA
  rcases h with h | h | h | h | h | h | h | h | h | h | h | h | h
  · exact Or.inl ⟨h.1, h.2.1⟩
  · exact Or.inr (Or.inl ⟨h.1, h.2.1⟩)
  all_goals simp [h.1]
  · exact h.2.1
  · exact h.2.1
/-! a condition comes to 0 or 1 -/
def is01 (x : Int32) : Prop := x = 0 ∨ x = 1
theorem joinP_01 {s : Int32} (h : s = 60 ∨ s = 62 ∨ s = 61) (a b : Int32) : is01 (joinP s a b) := by
  unfold is01
  rcases h with rfl | rfl | rfl
  · rw [joinP_60]; split <;> simp
  · rw [joinP_62]; split <;> simp
  · rw [joinP_61]; split <;> simp
theorem isA_wf {sg wi : Nat → Int32} {dep : Nat → Nat} {bo : Nat → Bool} {b k : Nat} (hw : wfStep sg wi dep bo b k) (h : isA (sg k)) : 2 ≤ dep k ∧ dep (k + 1) + 1 = dep k ∧ (bo (k + 1) = true → sg k = 60 ∨ sg k = 62 ∨ sg k = 61) := by
  obtain ⟨w1, w2, w3, w4, w5⟩ := hw
  rcases h with h | h | h | h | h | h | h | h
  · have := w2 (Or.inl h); exact ⟨this.1, this.2.1, fun z => absurd z (by rw [this.2.2]; decide)⟩
  · have := w2 (Or.inr (Or.inl h)); exact ⟨this.1, this.2.1, fun z => absurd z (by rw [this.2.2]; decide)⟩
  · have := w2 (Or.inr (Or.inr (Or.inl h))); exact ⟨this.1, this.2.1, fun z => absurd z (by rw [this.2.2]; decide)⟩
  · have := w2 (Or.inr (Or.inr (Or.inr (Or.inl h)))); exact ⟨this.1, this.2.1, fun z => absurd z (by rw [this.2.2]; decide)⟩
  · have := w2 (Or.inr (Or.inr (Or.inr (Or.inr h)))); exact ⟨this.1, this.2.1, fun z => absurd z (by rw [this.2.2]; decide)⟩
  · have := w3 (Or.inl h); exact ⟨this.1, this.2.1, fun _ => Or.inl h⟩
  · have := w3 (Or.inr (Or.inl h)); exact ⟨this.1, this.2.1, fun _ => Or.inr (Or.inl h)⟩
  · have := w3 (Or.inr (Or.inr h)); exact ⟨this.1, this.2.1, fun _ => Or.inr (Or.inr h)⟩
theorem evL_bool {sg wi fa : Nat → Int32} {v b : Nat} (hvb : v ≤ b) (hb240 : b ≤ 240) (hw : wfSeg sg wi v b true) (he : ∀ k, v ≤ k → k < b → ∃ c, enc (sg k) (wi k) c) (F : Nat) (st : Nat → Int32) : is01 (evL sg wi fa b F v 0 st) := by
  obtain ⟨dep, bo, d0, d1, d2, hst⟩ := hw
  have loop : ∀ (F k : Nat) (st : Nat → Int32), v ≤ k → k ≤ b → (bo k = true → 1 ≤ dep k → is01 (st (dep k - 1))) → is01 (evL sg wi fa b F k (dep k) st) := by
    intro F
    induction F with
    | zero => intro k st _ _ _; exact Or.inl rfl
    | succ F ih =>
      intro k st hvk hkb hb
      by_cases hk : k = b
      · rw [evL_end (by omega)]
        have := hb (by rw [hk]; exact d2) (by rw [hk, d1]; omega)
        rw [hk, d1] at this
        exact this
      · have hlt : k < b := by omega
        obtain ⟨dk, hwf⟩ := hst k hvk hlt
        obtain ⟨w1, w2, w3, w4, w5⟩ := id hwf
        obtain ⟨c, hc⟩ := he k hvk hlt
        rcases enc_sg hc with ⟨h, -⟩ | ⟨h, -⟩ | h | h | ⟨h, -⟩ | ⟨h, -⟩
        · have hd := w1 (Or.inl h)
          rw [evL_48 hlt h, ← hd.1]
          exact ih _ _ (by omega) (by omega) (fun z _ => absurd z (by rw [hd.2]; decide))
        · have hd := w1 (Or.inr h)
          rw [evL_97 hlt h, ← hd.1]
          exact ih _ _ (by omega) (by omega) (fun z _ => absurd z (by rw [hd.2]; decide))
        · have hd := isA_wf hwf h
          by_cases hz : (sg k = 47 ∨ sg k = 37) ∧ st (dep k - 1) = 0
          · rw [evL_Az hlt h hz]; exact Or.inl rfl
          · rw [evL_An hlt h hz, show dep k - 1 = dep (k + 1) by omega, show dep k - 2 = dep (k + 1) - 1 by omega]
            refine ih _ _ (by omega) (by omega) (fun z _ => ?_)
            rw [pk_us]
            exact joinP_01 (hd.2.2 z) _ _
        · have hd := w4 h
          rw [evL_33 hlt h, ← hd.2.2.1]
          refine ih _ _ (by omega) (by omega) (fun _ _ => ?_)
          rw [pk_us, hd.2.2.1]
          rcases hb hd.2.1 hd.1 with z | z
          · rw [z]; exact Or.inr rfl
          · rw [z]; exact Or.inl rfl
        · obtain ⟨x1, x2, x3, t, x4, x5, x6, x7, x8⟩ := w5 (Or.inl h)
          by_cases hz : st (dep k - 1) = 0
          · rw [evL_38j hlt h hz, x4, nI_clamp (by omega), x1, ← x7]
            refine ih _ _ (by omega) x6 (fun _ _ => ?_)
            rw [x7]
            have := hb x2 (by omega)
            rw [x1] at this
            exact this
          · rw [evL_38p hlt h hz, show dep k - 1 = dep (k + 1) by omega]
            exact ih _ _ (by omega) (by omega) (fun _ z => absurd z (by omega))
        · obtain ⟨x1, x2, x3, t, x4, x5, x6, x7, x8⟩ := w5 (Or.inr h)
          by_cases hz : st (dep k - 1) = 1
          · rw [evL_124j hlt h hz, x4, nI_clamp (by omega), x1, ← x7]
            refine ih _ _ (by omega) x6 (fun _ _ => ?_)
            rw [x7]
            have := hb x2 (by omega)
            rw [x1] at this
            exact this
          · rw [evL_124p hlt h hz, show dep k - 1 = dep (k + 1) by omega]
            exact ih _ _ (by omega) (by omega) (fun _ z => absurd z (by omega))
  have := loop F v st (Nat.le_refl _) hvb (fun _ z => absurd z (by omega))
  rw [d0] at this
  exact this
