/-! ===== a world's picture rests on ranges alone ===== -/
theorem cnN {x : Int32} {K : Nat} (h : isN x K) : x.toNatClampNeg ≤ K := by
  have e : x.toNatClampNeg = x.toInt.toNat := rfl
  have := h.2
  omega
theorem cntU_ext {le tr ro le' tr' ro' : Nat → Int32} (h1 : ∀ i, i < 20 → le' i = le i) (h2 : ∀ i, i < 20 → tr' i = tr i) (h3 : ∀ k, k < 160 → ro' k = ro k) (h4 : ∀ i, i < 20 → le i ≠ 0 → isN (tr i) 7) (e q : Nat) : cntU le' tr' ro' e q = cntU le tr ro e q := by
  unfold cntU
  congr 1
  apply List.map_congr_left
  intro i hi
  have hi : i < 20 := List.mem_range.mp hi
  rw [h1 i hi, h2 i hi]
  by_cases hz : le i = 0
  · rw [if_pos hz, if_pos hz]
  · rw [if_neg hz, if_neg hz]
    congr 1
    apply List.filter_congr
    intro k hk
    have hk : k < (tr i).toNatClampNeg := List.mem_range.mp hk
    have := cnN (h4 i hi hz)
    rw [h3 (8 * i + k) (by omega), h3 (8 * i + k + 1) (by omega)]
theorem RWd.ext {h ex ar hr wr co ra ru pa le tr ro us a h' ex' ar' hr' wr' co' ra' ru' pa' le' tr' ro' us' a' : Nat → Int32} (H : RWd h ex ar hr wr co ra ru pa le tr ro us a)
    (e0 : ∀ k, k < 8 → h' k = h k) (e1 : ∀ s, s < 16 → ex' s = ex s) (e2 : ∀ s, s < 16 → ar' s = ar s) (e3 : ∀ s, s < 16 → hr' s = hr s) (e4 : ∀ s, s < 16 → wr' s = wr s) (e5 : ∀ s, s < 16 → co' s = co s)
    (e6 : ∀ i, i < 20 → ra' i = ra i) (e7 : ∀ i, i < 20 → ru' i = ru i) (e8 : ∀ i, i < 20 → pa' i = pa i) (e9 : ∀ i, i < 20 → le' i = le i) (e10 : ∀ i, i < 20 → tr' i = tr i) (e11 : ∀ k, k < 160 → ro' k = ro k) (e12 : ∀ k, k < 64 → us' k = us k) (e13 : ∀ k, k < 391 → a' k = a k) : RWd h' ex' ar' hr' wr' co' ra' ru' pa' le' tr' ro' us' a' := by
  obtain ⟨h1, h2, h3, h4, h5, h6, h7, h8, h9, h10, h11⟩ := H
  refine ⟨?_, ?_, ?_, ?_, ?_, ?_, ?_, ?_, ?_, ?_, ?_⟩
  · intro s hs; rw [e0 0 (by omega), e0 1 (by omega), e0 2 (by omega), e0 3 (by omega), e0 4 (by omega)]; exact h1 s hs
  · intro s hs
    unfold RWs
    rw [e0 0 (by omega), e0 1 (by omega), e0 2 (by omega), e0 3 (by omega), e1 s hs, e2 s hs, e3 s hs, e4 s hs, e13 s (by omega), e13 (32 + s) (by omega), e13 (48 + s) (by omega), e13 (64 + s) (by omega), e13 (16 + s) (by omega), e13 (80 + s) (by omega), e13 (96 + s) (by omega), e13 (112 + s) (by omega)]
    exact h2 s hs
  · intro i hi
    have := h3 i hi
    rw [e9 i hi, e13 (188 + i) (by omega)]
    refine ⟨this.1, this.2.1, fun hl => ?_⟩
    have c := this.2.2 hl
    unfold RWc at c ⊢
    obtain ⟨c1, c2, c3, c4, c5, c6, c7, c8, c9, c10, c11, c12, c13, c14, c15, c16⟩ := c
    have q2 := cnN c2
    have q4 := cnN c4
    have q9 := cnN c9
    rw [e6 i hi, e7 i hi, e8 i hi, e10 i hi, e13 (128 + i) (by omega), e13 (148 + i) (by omega), e13 (168 + i) (by omega), e13 (208 + i) (by omega), e13 (ra i).toNatClampNeg (by omega), e13 (ru i).toNatClampNeg (by omega), e13 (pa i).toNatClampNeg (by omega), e5 (ra i).toNatClampNeg (by omega), e5 (ru i).toNatClampNeg (by omega)]
    exact ⟨c1, c2, c3, c4, c5, c6, c7, c8, c9, c10, c11, c12, fun k hk => by
      have := c12.2
      rw [e11 (8 * i + k) (by omega), e13 (228 + 8 * i + k) (by omega)]
      exact c13 k hk, fun k hk => by
      have := c12.2
      rw [e11 (8 * i + k) (by omega), e11 (8 * i + k + 1) (by omega)]
      exact c14 k hk, c15, c16⟩
  · intro s hs
    rw [e0 4 (by omega), h4 s hs]
    constructor
    · rintro ⟨i, hi, q1, q2⟩
      exact ⟨i, hi, by rw [e9 i hi]; exact q1, by rw [e6 i hi, e7 i hi]; exact q2⟩
    · rintro ⟨i, hi, q1, q2⟩
      rw [e9 i hi] at q1
      rw [e6 i hi, e7 i hi] at q2
      exact ⟨i, hi, q1, q2⟩
  · intro e q he hq
    rw [e12 (8 * e + q) (by omega), cntU_ext e9 e10 e11 (fun i hi hl => ((h3 i hi).2.2 hl).2.2.2.2.2.2.2.2.2.2.2.1)]
    exact h5 e q he hq
  · rw [e0 5 (by omega), e13 388 (by omega)]; exact h6
  · rw [e0 5 (by omega)]; exact h7
  · rw [e0 6 (by omega), e13 389 (by omega)]; exact h8
  · rw [e0 6 (by omega)]; exact h9
  · rw [e0 7 (by omega), e13 390 (by omega)]; exact h10
  · rw [e0 7 (by omega)]; exact h11
/-! ===== copying worlds ===== -/
/-- g is f, but the world at w is as that at u was -/
def CpW (f g : FF) (w u : Nat) : Prop := (∀ c, (c < w ∨ w + 12 < c) → g c = f c) ∧ (∀ k, k < 8 → g w k = f u k) ∧ (∀ m, 1 ≤ m → m ≤ 5 → ∀ s, s < 16 → g (w + m) s = f (u + m) s) ∧ (∀ m, 6 ≤ m → m ≤ 10 → ∀ i, i < 20 → g (w + m) i = f (u + m) i) ∧ (∀ k, k < 160 → g (w + 11) k = f (u + 11) k) ∧ (∀ k, k < 64 → g (w + 12) k = f (u + 12) k)
theorem CpW.toRW {f g g2 : FF} {w u a b : Nat} (h : CpW f g w u) (H : RW f u a) (hg : ∀ c, (w ≤ c ∧ c ≤ w + 12) → g2 c = g c) (hb : ∀ k, k < 391 → g2 b k = f a k) : RW g2 w b := by
  unfold RW at H ⊢
  obtain ⟨-, q0, q1, q2, q3, q4⟩ := h
  have e : ∀ m, m ≤ 12 → g2 (w + m) = g (w + m) := fun m hm => hg _ (by omega)
  have e0 := e 0 (by omega)
  rw [Nat.add_zero] at e0
  rw [e0, e 1 (by omega), e 2 (by omega), e 3 (by omega), e 4 (by omega), e 5 (by omega), e 6 (by omega), e 7 (by omega), e 8 (by omega), e 9 (by omega), e 10 (by omega), e 11 (by omega), e 12 (by omega)]
  exact H.ext q0 (q1 1 (by omega) (by omega)) (q1 2 (by omega) (by omega)) (q1 3 (by omega) (by omega)) (q1 4 (by omega) (by omega)) (q1 5 (by omega) (by omega)) (q2 6 (by omega) (by omega)) (q2 7 (by omega) (by omega)) (q2 8 (by omega) (by omega)) (q2 9 (by omega) (by omega)) (q2 10 (by omega) (by omega)) q3 q4 hb
theorem cpy2_ne {f : FF} {a b s d n c : Nat} (h : c ≠ b) : cpy2 f a b s d n c = f c := by simp [cpy2, h]
theorem cpy2_in {f : FF} {a b n j : Nat} (h : j < n) : cpy2 f a b 0 0 n b j = f a j := by
  simp only [cpy2, if_true]
  rw [pk_cpy_in (by omega) (by omega)]
  simp
set_option maxHeartbeats 4000000 in
theorem sp_copy_56_43 {G : GC} {d : Nat} {sw : Bool} {f : FF} {Q : QQ} (hq : ∀ g, CpW f g 56 43 → Q none sw g) : XP G mX9_copyFrom d 0 [.ref 56, .ref 43] [] sw f Q := by
  refine bX9_copyFrom_0 (w := 56) (u := 43) isW_56 isW_43 (hq _ ⟨fun c hc => ?_, fun k hk => ?_, fun m h1 h2 s hs => ?_, fun m h1 h2 s hs => ?_, fun s hs => ?_, fun s hs => ?_⟩)
  · rw [cpy2_ne (by omega), cpy2_ne (by omega), cpy2_ne (by omega), cpy2_ne (by omega), cpy2_ne (by omega), cpy2_ne (by omega), cpy2_ne (by omega), cpy2_ne (by omega), cpy2_ne (by omega), cpy2_ne (by omega), cpy2_ne (by omega), cpy2_ne (by omega), upd2_ne _ _ _ (by omega), upd2_ne _ _ _ (by omega), upd2_ne _ _ _ (by omega), upd2_ne _ _ _ (by omega), upd2_ne _ _ _ (by omega), upd2_ne _ _ _ (by omega), upd2_ne _ _ _ (by omega), upd2_ne _ _ _ (by omega)]
  · match k, hk with
    | 0, _ => rfl
    | 1, _ => rfl
    | 2, _ => rfl
    | 3, _ => rfl
    | 4, _ => rfl
    | 5, _ => rfl
    | 6, _ => rfl
    | 7, _ => rfl
  · match m, h1, h2 with
    | 1, _, _ => rw [cpy2_ne (by omega), cpy2_ne (by omega), cpy2_ne (by omega), cpy2_ne (by omega), cpy2_ne (by omega), cpy2_ne (by omega), cpy2_ne (by omega), cpy2_ne (by omega), cpy2_ne (by omega), cpy2_ne (by omega), cpy2_ne (by omega), cpy2_in hs, upd2_ne _ _ _ (by omega), upd2_ne _ _ _ (by omega), upd2_ne _ _ _ (by omega), upd2_ne _ _ _ (by omega), upd2_ne _ _ _ (by omega), upd2_ne _ _ _ (by omega), upd2_ne _ _ _ (by omega), upd2_ne _ _ _ (by omega)]
    | 2, _, _ => rw [cpy2_ne (by omega), cpy2_ne (by omega), cpy2_ne (by omega), cpy2_ne (by omega), cpy2_ne (by omega), cpy2_ne (by omega), cpy2_ne (by omega), cpy2_ne (by omega), cpy2_ne (by omega), cpy2_ne (by omega), cpy2_in hs, cpy2_ne (by omega), upd2_ne _ _ _ (by omega), upd2_ne _ _ _ (by omega), upd2_ne _ _ _ (by omega), upd2_ne _ _ _ (by omega), upd2_ne _ _ _ (by omega), upd2_ne _ _ _ (by omega), upd2_ne _ _ _ (by omega), upd2_ne _ _ _ (by omega)]
    | 3, _, _ => rw [cpy2_ne (by omega), cpy2_ne (by omega), cpy2_ne (by omega), cpy2_ne (by omega), cpy2_ne (by omega), cpy2_ne (by omega), cpy2_ne (by omega), cpy2_ne (by omega), cpy2_ne (by omega), cpy2_in hs, cpy2_ne (by omega), cpy2_ne (by omega), upd2_ne _ _ _ (by omega), upd2_ne _ _ _ (by omega), upd2_ne _ _ _ (by omega), upd2_ne _ _ _ (by omega), upd2_ne _ _ _ (by omega), upd2_ne _ _ _ (by omega), upd2_ne _ _ _ (by omega), upd2_ne _ _ _ (by omega)]
    | 4, _, _ => rw [cpy2_ne (by omega), cpy2_ne (by omega), cpy2_ne (by omega), cpy2_ne (by omega), cpy2_ne (by omega), cpy2_ne (by omega), cpy2_ne (by omega), cpy2_ne (by omega), cpy2_in hs, cpy2_ne (by omega), cpy2_ne (by omega), cpy2_ne (by omega), upd2_ne _ _ _ (by omega), upd2_ne _ _ _ (by omega), upd2_ne _ _ _ (by omega), upd2_ne _ _ _ (by omega), upd2_ne _ _ _ (by omega), upd2_ne _ _ _ (by omega), upd2_ne _ _ _ (by omega), upd2_ne _ _ _ (by omega)]
    | 5, _, _ => rw [cpy2_ne (by omega), cpy2_ne (by omega), cpy2_ne (by omega), cpy2_ne (by omega), cpy2_ne (by omega), cpy2_ne (by omega), cpy2_ne (by omega), cpy2_in hs, cpy2_ne (by omega), cpy2_ne (by omega), cpy2_ne (by omega), cpy2_ne (by omega), upd2_ne _ _ _ (by omega), upd2_ne _ _ _ (by omega), upd2_ne _ _ _ (by omega), upd2_ne _ _ _ (by omega), upd2_ne _ _ _ (by omega), upd2_ne _ _ _ (by omega), upd2_ne _ _ _ (by omega), upd2_ne _ _ _ (by omega)]
  · match m, h1, h2 with
    | 6, _, _ => rw [cpy2_ne (by omega), cpy2_ne (by omega), cpy2_ne (by omega), cpy2_ne (by omega), cpy2_ne (by omega), cpy2_ne (by omega), cpy2_in hs, cpy2_ne (by omega), cpy2_ne (by omega), cpy2_ne (by omega), cpy2_ne (by omega), cpy2_ne (by omega), upd2_ne _ _ _ (by omega), upd2_ne _ _ _ (by omega), upd2_ne _ _ _ (by omega), upd2_ne _ _ _ (by omega), upd2_ne _ _ _ (by omega), upd2_ne _ _ _ (by omega), upd2_ne _ _ _ (by omega), upd2_ne _ _ _ (by omega)]
    | 7, _, _ => rw [cpy2_ne (by omega), cpy2_ne (by omega), cpy2_ne (by omega), cpy2_ne (by omega), cpy2_ne (by omega), cpy2_in hs, cpy2_ne (by omega), cpy2_ne (by omega), cpy2_ne (by omega), cpy2_ne (by omega), cpy2_ne (by omega), cpy2_ne (by omega), upd2_ne _ _ _ (by omega), upd2_ne _ _ _ (by omega), upd2_ne _ _ _ (by omega), upd2_ne _ _ _ (by omega), upd2_ne _ _ _ (by omega), upd2_ne _ _ _ (by omega), upd2_ne _ _ _ (by omega), upd2_ne _ _ _ (by omega)]
    | 8, _, _ => rw [cpy2_ne (by omega), cpy2_ne (by omega), cpy2_ne (by omega), cpy2_ne (by omega), cpy2_in hs, cpy2_ne (by omega), cpy2_ne (by omega), cpy2_ne (by omega), cpy2_ne (by omega), cpy2_ne (by omega), cpy2_ne (by omega), cpy2_ne (by omega), upd2_ne _ _ _ (by omega), upd2_ne _ _ _ (by omega), upd2_ne _ _ _ (by omega), upd2_ne _ _ _ (by omega), upd2_ne _ _ _ (by omega), upd2_ne _ _ _ (by omega), upd2_ne _ _ _ (by omega), upd2_ne _ _ _ (by omega)]
    | 9, _, _ => rw [cpy2_ne (by omega), cpy2_ne (by omega), cpy2_ne (by omega), cpy2_in hs, cpy2_ne (by omega), cpy2_ne (by omega), cpy2_ne (by omega), cpy2_ne (by omega), cpy2_ne (by omega), cpy2_ne (by omega), cpy2_ne (by omega), cpy2_ne (by omega), upd2_ne _ _ _ (by omega), upd2_ne _ _ _ (by omega), upd2_ne _ _ _ (by omega), upd2_ne _ _ _ (by omega), upd2_ne _ _ _ (by omega), upd2_ne _ _ _ (by omega), upd2_ne _ _ _ (by omega), upd2_ne _ _ _ (by omega)]
    | 10, _, _ => rw [cpy2_ne (by omega), cpy2_ne (by omega), cpy2_in hs, cpy2_ne (by omega), cpy2_ne (by omega), cpy2_ne (by omega), cpy2_ne (by omega), cpy2_ne (by omega), cpy2_ne (by omega), cpy2_ne (by omega), cpy2_ne (by omega), cpy2_ne (by omega), upd2_ne _ _ _ (by omega), upd2_ne _ _ _ (by omega), upd2_ne _ _ _ (by omega), upd2_ne _ _ _ (by omega), upd2_ne _ _ _ (by omega), upd2_ne _ _ _ (by omega), upd2_ne _ _ _ (by omega), upd2_ne _ _ _ (by omega)]
  · rw [cpy2_ne (by omega), cpy2_in hs, cpy2_ne (by omega), cpy2_ne (by omega), cpy2_ne (by omega), cpy2_ne (by omega), cpy2_ne (by omega), cpy2_ne (by omega), cpy2_ne (by omega), cpy2_ne (by omega), cpy2_ne (by omega), cpy2_ne (by omega), upd2_ne _ _ _ (by omega), upd2_ne _ _ _ (by omega), upd2_ne _ _ _ (by omega), upd2_ne _ _ _ (by omega), upd2_ne _ _ _ (by omega), upd2_ne _ _ _ (by omega), upd2_ne _ _ _ (by omega), upd2_ne _ _ _ (by omega)]
  · rw [cpy2_in hs, cpy2_ne (by omega), cpy2_ne (by omega), cpy2_ne (by omega), cpy2_ne (by omega), cpy2_ne (by omega), cpy2_ne (by omega), cpy2_ne (by omega), cpy2_ne (by omega), cpy2_ne (by omega), cpy2_ne (by omega), cpy2_ne (by omega), upd2_ne _ _ _ (by omega), upd2_ne _ _ _ (by omega), upd2_ne _ _ _ (by omega), upd2_ne _ _ _ (by omega), upd2_ne _ _ _ (by omega), upd2_ne _ _ _ (by omega), upd2_ne _ _ _ (by omega), upd2_ne _ _ _ (by omega)]
set_option maxHeartbeats 4000000 in
theorem sp_copy_69_43 {G : GC} {d : Nat} {sw : Bool} {f : FF} {Q : QQ} (hq : ∀ g, CpW f g 69 43 → Q none sw g) : XP G mX9_copyFrom d 0 [.ref 69, .ref 43] [] sw f Q := by
  refine bX9_copyFrom_0 (w := 69) (u := 43) isW_69 isW_43 (hq _ ⟨fun c hc => ?_, fun k hk => ?_, fun m h1 h2 s hs => ?_, fun m h1 h2 s hs => ?_, fun s hs => ?_, fun s hs => ?_⟩)
  · rw [cpy2_ne (by omega), cpy2_ne (by omega), cpy2_ne (by omega), cpy2_ne (by omega), cpy2_ne (by omega), cpy2_ne (by omega), cpy2_ne (by omega), cpy2_ne (by omega), cpy2_ne (by omega), cpy2_ne (by omega), cpy2_ne (by omega), cpy2_ne (by omega), upd2_ne _ _ _ (by omega), upd2_ne _ _ _ (by omega), upd2_ne _ _ _ (by omega), upd2_ne _ _ _ (by omega), upd2_ne _ _ _ (by omega), upd2_ne _ _ _ (by omega), upd2_ne _ _ _ (by omega), upd2_ne _ _ _ (by omega)]
  · match k, hk with
    | 0, _ => rfl
    | 1, _ => rfl
    | 2, _ => rfl
    | 3, _ => rfl
    | 4, _ => rfl
    | 5, _ => rfl
    | 6, _ => rfl
    | 7, _ => rfl
  · match m, h1, h2 with
    | 1, _, _ => rw [cpy2_ne (by omega), cpy2_ne (by omega), cpy2_ne (by omega), cpy2_ne (by omega), cpy2_ne (by omega), cpy2_ne (by omega), cpy2_ne (by omega), cpy2_ne (by omega), cpy2_ne (by omega), cpy2_ne (by omega), cpy2_ne (by omega), cpy2_in hs, upd2_ne _ _ _ (by omega), upd2_ne _ _ _ (by omega), upd2_ne _ _ _ (by omega), upd2_ne _ _ _ (by omega), upd2_ne _ _ _ (by omega), upd2_ne _ _ _ (by omega), upd2_ne _ _ _ (by omega), upd2_ne _ _ _ (by omega)]
    | 2, _, _ => rw [cpy2_ne (by omega), cpy2_ne (by omega), cpy2_ne (by omega), cpy2_ne (by omega), cpy2_ne (by omega), cpy2_ne (by omega), cpy2_ne (by omega), cpy2_ne (by omega), cpy2_ne (by omega), cpy2_ne (by omega), cpy2_in hs, cpy2_ne (by omega), upd2_ne _ _ _ (by omega), upd2_ne _ _ _ (by omega), upd2_ne _ _ _ (by omega), upd2_ne _ _ _ (by omega), upd2_ne _ _ _ (by omega), upd2_ne _ _ _ (by omega), upd2_ne _ _ _ (by omega), upd2_ne _ _ _ (by omega)]
    | 3, _, _ => rw [cpy2_ne (by omega), cpy2_ne (by omega), cpy2_ne (by omega), cpy2_ne (by omega), cpy2_ne (by omega), cpy2_ne (by omega), cpy2_ne (by omega), cpy2_ne (by omega), cpy2_ne (by omega), cpy2_in hs, cpy2_ne (by omega), cpy2_ne (by omega), upd2_ne _ _ _ (by omega), upd2_ne _ _ _ (by omega), upd2_ne _ _ _ (by omega), upd2_ne _ _ _ (by omega), upd2_ne _ _ _ (by omega), upd2_ne _ _ _ (by omega), upd2_ne _ _ _ (by omega), upd2_ne _ _ _ (by omega)]
    | 4, _, _ => rw [cpy2_ne (by omega), cpy2_ne (by omega), cpy2_ne (by omega), cpy2_ne (by omega), cpy2_ne (by omega), cpy2_ne (by omega), cpy2_ne (by omega), cpy2_ne (by omega), cpy2_in hs, cpy2_ne (by omega), cpy2_ne (by omega), cpy2_ne (by omega), upd2_ne _ _ _ (by omega), upd2_ne _ _ _ (by omega), upd2_ne _ _ _ (by omega), upd2_ne _ _ _ (by omega), upd2_ne _ _ _ (by omega), upd2_ne _ _ _ (by omega), upd2_ne _ _ _ (by omega), upd2_ne _ _ _ (by omega)]
    | 5, _, _ => rw [cpy2_ne (by omega), cpy2_ne (by omega), cpy2_ne (by omega), cpy2_ne (by omega), cpy2_ne (by omega), cpy2_ne (by omega), cpy2_ne (by omega), cpy2_in hs, cpy2_ne (by omega), cpy2_ne (by omega), cpy2_ne (by omega), cpy2_ne (by omega), upd2_ne _ _ _ (by omega), upd2_ne _ _ _ (by omega), upd2_ne _ _ _ (by omega), upd2_ne _ _ _ (by omega), upd2_ne _ _ _ (by omega), upd2_ne _ _ _ (by omega), upd2_ne _ _ _ (by omega), upd2_ne _ _ _ (by omega)]
  · match m, h1, h2 with
    | 6, _, _ => rw [cpy2_ne (by omega), cpy2_ne (by omega), cpy2_ne (by omega), cpy2_ne (by omega), cpy2_ne (by omega), cpy2_ne (by omega), cpy2_in hs, cpy2_ne (by omega), cpy2_ne (by omega), cpy2_ne (by omega), cpy2_ne (by omega), cpy2_ne (by omega), upd2_ne _ _ _ (by omega), upd2_ne _ _ _ (by omega), upd2_ne _ _ _ (by omega), upd2_ne _ _ _ (by omega), upd2_ne _ _ _ (by omega), upd2_ne _ _ _ (by omega), upd2_ne _ _ _ (by omega), upd2_ne _ _ _ (by omega)]
    | 7, _, _ => rw [cpy2_ne (by omega), cpy2_ne (by omega), cpy2_ne (by omega), cpy2_ne (by omega), cpy2_ne (by omega), cpy2_in hs, cpy2_ne (by omega), cpy2_ne (by omega), cpy2_ne (by omega), cpy2_ne (by omega), cpy2_ne (by omega), cpy2_ne (by omega), upd2_ne _ _ _ (by omega), upd2_ne _ _ _ (by omega), upd2_ne _ _ _ (by omega), upd2_ne _ _ _ (by omega), upd2_ne _ _ _ (by omega), upd2_ne _ _ _ (by omega), upd2_ne _ _ _ (by omega), upd2_ne _ _ _ (by omega)]
    | 8, _, _ => rw [cpy2_ne (by omega), cpy2_ne (by omega), cpy2_ne (by omega), cpy2_ne (by omega), cpy2_in hs, cpy2_ne (by omega), cpy2_ne (by omega), cpy2_ne (by omega), cpy2_ne (by omega), cpy2_ne (by omega), cpy2_ne (by omega), cpy2_ne (by omega), upd2_ne _ _ _ (by omega), upd2_ne _ _ _ (by omega), upd2_ne _ _ _ (by omega), upd2_ne _ _ _ (by omega), upd2_ne _ _ _ (by omega), upd2_ne _ _ _ (by omega), upd2_ne _ _ _ (by omega), upd2_ne _ _ _ (by omega)]
    | 9, _, _ => rw [cpy2_ne (by omega), cpy2_ne (by omega), cpy2_ne (by omega), cpy2_in hs, cpy2_ne (by omega), cpy2_ne (by omega), cpy2_ne (by omega), cpy2_ne (by omega), cpy2_ne (by omega), cpy2_ne (by omega), cpy2_ne (by omega), cpy2_ne (by omega), upd2_ne _ _ _ (by omega), upd2_ne _ _ _ (by omega), upd2_ne _ _ _ (by omega), upd2_ne _ _ _ (by omega), upd2_ne _ _ _ (by omega), upd2_ne _ _ _ (by omega), upd2_ne _ _ _ (by omega), upd2_ne _ _ _ (by omega)]
    | 10, _, _ => rw [cpy2_ne (by omega), cpy2_ne (by omega), cpy2_in hs, cpy2_ne (by omega), cpy2_ne (by omega), cpy2_ne (by omega), cpy2_ne (by omega), cpy2_ne (by omega), cpy2_ne (by omega), cpy2_ne (by omega), cpy2_ne (by omega), cpy2_ne (by omega), upd2_ne _ _ _ (by omega), upd2_ne _ _ _ (by omega), upd2_ne _ _ _ (by omega), upd2_ne _ _ _ (by omega), upd2_ne _ _ _ (by omega), upd2_ne _ _ _ (by omega), upd2_ne _ _ _ (by omega), upd2_ne _ _ _ (by omega)]
  · rw [cpy2_ne (by omega), cpy2_in hs, cpy2_ne (by omega), cpy2_ne (by omega), cpy2_ne (by omega), cpy2_ne (by omega), cpy2_ne (by omega), cpy2_ne (by omega), cpy2_ne (by omega), cpy2_ne (by omega), cpy2_ne (by omega), cpy2_ne (by omega), upd2_ne _ _ _ (by omega), upd2_ne _ _ _ (by omega), upd2_ne _ _ _ (by omega), upd2_ne _ _ _ (by omega), upd2_ne _ _ _ (by omega), upd2_ne _ _ _ (by omega), upd2_ne _ _ _ (by omega), upd2_ne _ _ _ (by omega)]
  · rw [cpy2_in hs, cpy2_ne (by omega), cpy2_ne (by omega), cpy2_ne (by omega), cpy2_ne (by omega), cpy2_ne (by omega), cpy2_ne (by omega), cpy2_ne (by omega), cpy2_ne (by omega), cpy2_ne (by omega), cpy2_ne (by omega), cpy2_ne (by omega), upd2_ne _ _ _ (by omega), upd2_ne _ _ _ (by omega), upd2_ne _ _ _ (by omega), upd2_ne _ _ _ (by omega), upd2_ne _ _ _ (by omega), upd2_ne _ _ _ (by omega), upd2_ne _ _ _ (by omega), upd2_ne _ _ _ (by omega)]
set_option maxHeartbeats 4000000 in
theorem sp_copy_43_56 {G : GC} {d : Nat} {sw : Bool} {f : FF} {Q : QQ} (hq : ∀ g, CpW f g 43 56 → Q none sw g) : XP G mX9_copyFrom d 0 [.ref 43, .ref 56] [] sw f Q := by
  refine bX9_copyFrom_0 (w := 43) (u := 56) isW_43 isW_56 (hq _ ⟨fun c hc => ?_, fun k hk => ?_, fun m h1 h2 s hs => ?_, fun m h1 h2 s hs => ?_, fun s hs => ?_, fun s hs => ?_⟩)
  · rw [cpy2_ne (by omega), cpy2_ne (by omega), cpy2_ne (by omega), cpy2_ne (by omega), cpy2_ne (by omega), cpy2_ne (by omega), cpy2_ne (by omega), cpy2_ne (by omega), cpy2_ne (by omega), cpy2_ne (by omega), cpy2_ne (by omega), cpy2_ne (by omega), upd2_ne _ _ _ (by omega), upd2_ne _ _ _ (by omega), upd2_ne _ _ _ (by omega), upd2_ne _ _ _ (by omega), upd2_ne _ _ _ (by omega), upd2_ne _ _ _ (by omega), upd2_ne _ _ _ (by omega), upd2_ne _ _ _ (by omega)]
  · match k, hk with
    | 0, _ => rfl
    | 1, _ => rfl
    | 2, _ => rfl
    | 3, _ => rfl
    | 4, _ => rfl
    | 5, _ => rfl
    | 6, _ => rfl
    | 7, _ => rfl
  · match m, h1, h2 with
    | 1, _, _ => rw [cpy2_ne (by omega), cpy2_ne (by omega), cpy2_ne (by omega), cpy2_ne (by omega), cpy2_ne (by omega), cpy2_ne (by omega), cpy2_ne (by omega), cpy2_ne (by omega), cpy2_ne (by omega), cpy2_ne (by omega), cpy2_ne (by omega), cpy2_in hs, upd2_ne _ _ _ (by omega), upd2_ne _ _ _ (by omega), upd2_ne _ _ _ (by omega), upd2_ne _ _ _ (by omega), upd2_ne _ _ _ (by omega), upd2_ne _ _ _ (by omega), upd2_ne _ _ _ (by omega), upd2_ne _ _ _ (by omega)]
    | 2, _, _ => rw [cpy2_ne (by omega), cpy2_ne (by omega), cpy2_ne (by omega), cpy2_ne (by omega), cpy2_ne (by omega), cpy2_ne (by omega), cpy2_ne (by omega), cpy2_ne (by omega), cpy2_ne (by omega), cpy2_ne (by omega), cpy2_in hs, cpy2_ne (by omega), upd2_ne _ _ _ (by omega), upd2_ne _ _ _ (by omega), upd2_ne _ _ _ (by omega), upd2_ne _ _ _ (by omega), upd2_ne _ _ _ (by omega), upd2_ne _ _ _ (by omega), upd2_ne _ _ _ (by omega), upd2_ne _ _ _ (by omega)]
    | 3, _, _ => rw [cpy2_ne (by omega), cpy2_ne (by omega), cpy2_ne (by omega), cpy2_ne (by omega), cpy2_ne (by omega), cpy2_ne (by omega), cpy2_ne (by omega), cpy2_ne (by omega), cpy2_ne (by omega), cpy2_in hs, cpy2_ne (by omega), cpy2_ne (by omega), upd2_ne _ _ _ (by omega), upd2_ne _ _ _ (by omega), upd2_ne _ _ _ (by omega), upd2_ne _ _ _ (by omega), upd2_ne _ _ _ (by omega), upd2_ne _ _ _ (by omega), upd2_ne _ _ _ (by omega), upd2_ne _ _ _ (by omega)]
    | 4, _, _ => rw [cpy2_ne (by omega), cpy2_ne (by omega), cpy2_ne (by omega), cpy2_ne (by omega), cpy2_ne (by omega), cpy2_ne (by omega), cpy2_ne (by omega), cpy2_ne (by omega), cpy2_in hs, cpy2_ne (by omega), cpy2_ne (by omega), cpy2_ne (by omega), upd2_ne _ _ _ (by omega), upd2_ne _ _ _ (by omega), upd2_ne _ _ _ (by omega), upd2_ne _ _ _ (by omega), upd2_ne _ _ _ (by omega), upd2_ne _ _ _ (by omega), upd2_ne _ _ _ (by omega), upd2_ne _ _ _ (by omega)]
    | 5, _, _ => rw [cpy2_ne (by omega), cpy2_ne (by omega), cpy2_ne (by omega), cpy2_ne (by omega), cpy2_ne (by omega), cpy2_ne (by omega), cpy2_ne (by omega), cpy2_in hs, cpy2_ne (by omega), cpy2_ne (by omega), cpy2_ne (by omega), cpy2_ne (by omega), upd2_ne _ _ _ (by omega), upd2_ne _ _ _ (by omega), upd2_ne _ _ _ (by omega), upd2_ne _ _ _ (by omega), upd2_ne _ _ _ (by omega), upd2_ne _ _ _ (by omega), upd2_ne _ _ _ (by omega), upd2_ne _ _ _ (by omega)]
  · match m, h1, h2 with
    | 6, _, _ => rw [cpy2_ne (by omega), cpy2_ne (by omega), cpy2_ne (by omega), cpy2_ne (by omega), cpy2_ne (by omega), cpy2_ne (by omega), cpy2_in hs, cpy2_ne (by omega), cpy2_ne (by omega), cpy2_ne (by omega), cpy2_ne (by omega), cpy2_ne (by omega), upd2_ne _ _ _ (by omega), upd2_ne _ _ _ (by omega), upd2_ne _ _ _ (by omega), upd2_ne _ _ _ (by omega), upd2_ne _ _ _ (by omega), upd2_ne _ _ _ (by omega), upd2_ne _ _ _ (by omega), upd2_ne _ _ _ (by omega)]
    | 7, _, _ => rw [cpy2_ne (by omega), cpy2_ne (by omega), cpy2_ne (by omega), cpy2_ne (by omega), cpy2_ne (by omega), cpy2_in hs, cpy2_ne (by omega), cpy2_ne (by omega), cpy2_ne (by omega), cpy2_ne (by omega), cpy2_ne (by omega), cpy2_ne (by omega), upd2_ne _ _ _ (by omega), upd2_ne _ _ _ (by omega), upd2_ne _ _ _ (by omega), upd2_ne _ _ _ (by omega), upd2_ne _ _ _ (by omega), upd2_ne _ _ _ (by omega), upd2_ne _ _ _ (by omega), upd2_ne _ _ _ (by omega)]
    | 8, _, _ => rw [cpy2_ne (by omega), cpy2_ne (by omega), cpy2_ne (by omega), cpy2_ne (by omega), cpy2_in hs, cpy2_ne (by omega), cpy2_ne (by omega), cpy2_ne (by omega), cpy2_ne (by omega), cpy2_ne (by omega), cpy2_ne (by omega), cpy2_ne (by omega), upd2_ne _ _ _ (by omega), upd2_ne _ _ _ (by omega), upd2_ne _ _ _ (by omega), upd2_ne _ _ _ (by omega), upd2_ne _ _ _ (by omega), upd2_ne _ _ _ (by omega), upd2_ne _ _ _ (by omega), upd2_ne _ _ _ (by omega)]
    | 9, _, _ => rw [cpy2_ne (by omega), cpy2_ne (by omega), cpy2_ne (by omega), cpy2_in hs, cpy2_ne (by omega), cpy2_ne (by omega), cpy2_ne (by omega), cpy2_ne (by omega), cpy2_ne (by omega), cpy2_ne (by omega), cpy2_ne (by omega), cpy2_ne (by omega), upd2_ne _ _ _ (by omega), upd2_ne _ _ _ (by omega), upd2_ne _ _ _ (by omega), upd2_ne _ _ _ (by omega), upd2_ne _ _ _ (by omega), upd2_ne _ _ _ (by omega), upd2_ne _ _ _ (by omega), upd2_ne _ _ _ (by omega)]
    | 10, _, _ => rw [cpy2_ne (by omega), cpy2_ne (by omega), cpy2_in hs, cpy2_ne (by omega), cpy2_ne (by omega), cpy2_ne (by omega), cpy2_ne (by omega), cpy2_ne (by omega), cpy2_ne (by omega), cpy2_ne (by omega), cpy2_ne (by omega), cpy2_ne (by omega), upd2_ne _ _ _ (by omega), upd2_ne _ _ _ (by omega), upd2_ne _ _ _ (by omega), upd2_ne _ _ _ (by omega), upd2_ne _ _ _ (by omega), upd2_ne _ _ _ (by omega), upd2_ne _ _ _ (by omega), upd2_ne _ _ _ (by omega)]
  · rw [cpy2_ne (by omega), cpy2_in hs, cpy2_ne (by omega), cpy2_ne (by omega), cpy2_ne (by omega), cpy2_ne (by omega), cpy2_ne (by omega), cpy2_ne (by omega), cpy2_ne (by omega), cpy2_ne (by omega), cpy2_ne (by omega), cpy2_ne (by omega), upd2_ne _ _ _ (by omega), upd2_ne _ _ _ (by omega), upd2_ne _ _ _ (by omega), upd2_ne _ _ _ (by omega), upd2_ne _ _ _ (by omega), upd2_ne _ _ _ (by omega), upd2_ne _ _ _ (by omega), upd2_ne _ _ _ (by omega)]
  · rw [cpy2_in hs, cpy2_ne (by omega), cpy2_ne (by omega), cpy2_ne (by omega), cpy2_ne (by omega), cpy2_ne (by omega), cpy2_ne (by omega), cpy2_ne (by omega), cpy2_ne (by omega), cpy2_ne (by omega), cpy2_ne (by omega), cpy2_ne (by omega), upd2_ne _ _ _ (by omega), upd2_ne _ _ _ (by omega), upd2_ne _ _ _ (by omega), upd2_ne _ _ _ (by omega), upd2_ne _ _ _ (by omega), upd2_ne _ _ _ (by omega), upd2_ne _ _ _ (by omega), upd2_ne _ _ _ (by omega)]
/-! ===== the reference's copies ===== -/
theorem sp_copies {G : GC} {d : Nat} {sw : Bool} {f : FF} {Q : QQ} {a0 a1 : Nat} (h0 : SH[a0]? = some (0, 391)) (h1 : SH[a1]? = some (0, 391)) (hne : a0 ≠ a1) (hq : ∀ g : FF, (∀ c, c ≠ a1 → g c = f c) → (∀ k, k < 391 → g a1 k = f a0 k) → Q none sw g) : XP G mX11_copies d 0 [.ref a0, .ref a1, .null] [] sw f Q := by
  have loop : ∀ (n i : Nat) (g : FF), i + n = 391 → (∀ c, c ≠ a1 → g c = f c) → (∀ k, k < i → g a1 k = f a0 k) → XP G mX11_copies d 2 [.ref a0, .ref a1, .int (nI i)] [] sw g Q := by
    intro n
    induction n with
    | zero =>
      intro i g hi hc hk
      have e : i = 391 := by omega
      subst e
      refine bX11_copies_2 h0 h1 (fun _ => hq g hc hk) (fun h => absurd (by decide) h) (fun h => absurd (by decide) h) (fun h => absurd (by decide) h)
    | succ n ih =>
      intro i g hi hc hk
      have hin : vp_in (nI i) 391 := vp_in_nI (by omega) (by omega)
      refine bX11_copies_2 h0 h1 (fun h => ?_) (fun _ => hin) (fun _ => hin) (fun _ => ?_)
      · exact absurd h (nI_ge (a := i) (b := 391) (by omega) (by omega))
      · rw [nI_1, nI_clamp (by omega)]
        refine ih (i + 1) _ (by omega) (fun c hne2 => ?_) (fun k hk2 => ?_)
        · rw [upd2_ne _ _ _ hne2]; exact hc c hne2
        · rw [upd2_self]
          by_cases e : k = i
          · subst e
            rw [pk_us, hc a0 hne]
          · rw [pk_un e]; exact hk k (by omega)
  exact bX11_copies_0 h0 h1 (loop 391 0 f rfl (fun _ _ => rfl) (fun k hk => absurd hk (by omega)))
/-! ===== keep, undo ===== -/
theorem op_keep (G : GC) : OP28 G RR := by
  intro sw f hR
  refine bX10_keep_0 (sp_copy_56_43 (fun g hg => bX10_keep_11 ?_))
  obtain ⟨h1, h2, h3, h4, h5, h6, h7⟩ := hR
  have o : ∀ c, (c < 56 ∨ 68 < c) → g c = f c := hg.1
  refine ⟨_, rfl, bX11_keep_0 (sp_copies sh83 sh85 (by decide) (fun g2 e1 e2 => bX11_keep_16 ⟨?_, ?_⟩))⟩
  · rw [e1 83 (by decide), upd2_ne _ _ _ (by decide), upd2_ne _ _ _ (by decide), upd2_ne _ _ _ (by decide), o 83 (by omega), o 43 (by omega)]
    have := h6.2.2.2.2.2.2.2.1
    rw [this]
  · have hg2 : ∀ c, c ≠ 85 → c ≠ 82 → c ≠ 0 → (c < 56 ∨ 68 < c) → g2 c = f c := fun c q1 q2 q3 q4 => by rw [e1 c q1, upd2_ne _ _ _ q2, upd2_ne _ _ _ q3, o c q4]
    have h82 : ∀ k, k ≠ 47 → g2 82 k = f 82 k := fun k hk => by rw [e1 82 (by decide), upd2_self, pk_un hk, upd2_ne _ _ _ (by decide), o 82 (by omega)]
    refine ⟨h1.cg (by rw [hg2 1 (by omega) (by omega) (by omega) (by omega)]) (hg2 2 (by omega) (by omega) (by omega) (by omega)) (h82 10 (by omega)) (hg2 90 (by omega) (by omega) (by omega) (by omega)), h2.cg (hg2 4 (by omega) (by omega) (by omega) (by omega)) (hg2 6 (by omega) (by omega) (by omega) (by omega)) (hg2 86 (by omega) (by omega) (by omega) (by omega)), h3.cg (h82 4 (by omega)) (h82 5 (by omega)) (by rw [hg2 32 (by omega) (by omega) (by omega) (by omega)]) (by rw [hg2 32 (by omega) (by omega) (by omega) (by omega)]), h4.cg (hg2 12 (by omega) (by omega) (by omega) (by omega)) (fun e _ => by rw [hg2 13 (by omega) (by omega) (by omega) (by omega)]) (hg2 112 (by omega) (by omega) (by omega) (by omega)) (hg2 113 (by omega) (by omega) (by omega) (by omega)), h5.cg (fun k hk => by have := lwB_in sw hk; exact hg2 _ (by omega) (by omega) (by omega) (by omega)) (h82 19 (by omega)) (fun k q1 q2 => hg2 k (by omega) (by omega) (by omega) (by omega)), h6.cg (fun k hk => hg2 _ (by omega) (by omega) (by omega) (by omega)) (hg2 83 (by omega) (by omega) (by omega) (by omega)), ?_⟩
    have k0 : g2 0 10 = 1 := by rw [e1 0 (by decide), upd2_ne _ _ _ (by decide), upd2_self, pk_us]
    have k1 : g2 82 47 = 1 := by rw [e1 82 (by decide), upd2_self, pk_us]
    refine ⟨by rw [k0, k1], Or.inr ⟨k0, hg.toRW h6 (fun c hc => ?_) (fun k hk => ?_)⟩⟩
    · rw [e1 c (by omega), upd2_ne _ _ _ (by omega), upd2_ne _ _ _ (by omega)]
    · rw [e2 k hk, upd2_ne _ _ _ (by decide), upd2_ne _ _ _ (by decide), o 83 (by omega)]
theorem op_undo (G : GC) : OP29 G RR := by
  intro sw f hR
  obtain ⟨h1, h2, h3, h4, h5, h6, h7⟩ := id hR
  refine bX10_undo_0 (fun hk => sp_copy_43_56 (fun g hg => bX10_undo_20 ?_)) (fun hz => ?_)
  · have hk1 : f 0 10 = 1 ∧ RW f 56 85 := by
      rcases h7.2 with q | q
      · exact absurd q hk
      · exact q
    have o : ∀ c, (c < 43 ∨ 55 < c) → g c = f c := hg.1
    refine ⟨1, rfl, bX11_undo_0 (fun _ => sp_copies sh85 sh83 (by decide) (fun g2 e1 e2 => bX11_undo_20 ⟨rfl, ?_⟩)) (fun q => ?_)⟩
    · have hg2 : ∀ c, c ≠ 83 → (c < 43 ∨ 55 < c) → g2 c = f c := fun c q1 q4 => by rw [e1 c q1, o c q4]
      refine ⟨h1.cg (by rw [hg2 1 (by omega) (by omega)]) (hg2 2 (by omega) (by omega)) (by rw [hg2 82 (by omega) (by omega)]) (hg2 90 (by omega) (by omega)), h2.cg (hg2 4 (by omega) (by omega)) (hg2 6 (by omega) (by omega)) (hg2 86 (by omega) (by omega)), h3.cg (by rw [hg2 82 (by omega) (by omega)]) (by rw [hg2 82 (by omega) (by omega)]) (by rw [hg2 32 (by omega) (by omega)]) (by rw [hg2 32 (by omega) (by omega)]), h4.cg (hg2 12 (by omega) (by omega)) (fun e _ => by rw [hg2 13 (by omega) (by omega)]) (hg2 112 (by omega) (by omega)) (hg2 113 (by omega) (by omega)), h5.cg (fun k hk => by have := lwB_in sw hk; exact hg2 _ (by omega) (by omega)) (by rw [hg2 82 (by omega) (by omega)]) (fun k q1 q2 => hg2 k (by omega) (by omega)), ?_, h7.cg (by rw [hg2 82 (by omega) (by omega)]) (by rw [hg2 0 (by omega) (by omega)]) (fun k hk => hg2 _ (by omega) (by omega)) (hg2 85 (by omega) (by omega))⟩
      exact hg.toRW hk1.2 (fun c hc => e1 c (by omega)) (fun k hk => by rw [e2 k hk, o 85 (by omega)])
    · rw [o 82 (by omega), h7.1, hk1.1] at q
      exact absurd q (by decide)
  · refine ⟨0, rfl, bX11_undo_0 (fun q => ?_) (fun _ => ⟨rfl, hR⟩)⟩
    rw [h7.1, hz] at q
    exact absurd rfl q
