/-! ===== single cells changed ===== -/
section UPS
variable {f : FF} {c j : Nat} {x : Int32} {sw : Bool}
theorem RT.up (h : RT f) (hc : c ≠ 1 ∧ c ≠ 2 ∧ c ≠ 82 ∧ c ≠ 90) : RT (upd2 f c j x) := h.cg (by rw [upd2_ne _ _ _ hc.1.symm]) (upd2_ne _ _ _ hc.2.1.symm) (by rw [upd2_ne _ _ _ hc.2.2.1.symm]) (upd2_ne _ _ _ hc.2.2.2.symm)
theorem RN.up (h : RN f) (hc : c ≠ 4 ∧ c ≠ 6 ∧ c ≠ 86) : RN (upd2 f c j x) := h.cg (upd2_ne _ _ _ hc.1.symm) (upd2_ne _ _ _ hc.2.1.symm) (upd2_ne _ _ _ hc.2.2.symm)
theorem RQ.up (h : RQ f) (hc : c ≠ 82 ∧ c ≠ 32) : RQ (upd2 f c j x) := h.cg (by rw [upd2_ne _ _ _ hc.1.symm]) (by rw [upd2_ne _ _ _ hc.1.symm]) (by rw [upd2_ne _ _ _ hc.2.symm]) (by rw [upd2_ne _ _ _ hc.2.symm])
theorem RP.up (h : RP f) (hc : c ≠ 12 ∧ c ≠ 13 ∧ c ≠ 112 ∧ c ≠ 113) : RP (upd2 f c j x) := h.cg (upd2_ne _ _ _ hc.1.symm) (fun e _ => by rw [upd2_ne _ _ _ hc.2.1.symm]) (upd2_ne _ _ _ hc.2.2.1.symm) (upd2_ne _ _ _ hc.2.2.2.symm)
theorem RW.up {w a : Nat} (h : RW f w a) (hc : (c < w ∨ w + 12 < c) ∧ c ≠ a) : RW (upd2 f c j x) w a := h.cg (fun k hk => upd2_ne _ _ _ (by omega)) (upd2_ne _ _ _ hc.2.symm)
theorem RK.up (h : RK f) (hc : c ≠ 82 ∧ c ≠ 0 ∧ (c < 56 ∨ 68 < c) ∧ c ≠ 85) : RK (upd2 f c j x) := h.cg (by rw [upd2_ne _ _ _ hc.1.symm]) (by rw [upd2_ne _ _ _ hc.2.1.symm]) (fun k hk => upd2_ne _ _ _ (by omega)) (upd2_ne _ _ _ hc.2.2.2.symm)
theorem RLw.up (h : RLw sw f) (hc : (c < 25 ∨ 42 < c ∨ c = 32 ∨ c = 33 ∨ c = 34 ∨ c = 35) ∧ c ≠ 82 ∧ (c < 97 ∨ 101 < c)) : RLw sw (upd2 f c j x) := h.cg (fun k hk => upd2_ne _ _ _ (by have := lwB_in sw hk; omega)) (by rw [upd2_ne _ _ _ hc.2.1.symm]) (fun k h1 h2 => upd2_ne _ _ _ (by omega))
end UPS
theorem isN_of {x y : Int32} {K : Nat} (h : 0 ≤ x ∧ x ≤ y) (hy : y.toInt = K) : isN x K := by
  have a := Int32.le_iff_toInt_le.mp h.1
  have b := Int32.le_iff_toInt_le.mp h.2
  rw [hy] at b
  simp at a
  exact ⟨a, b⟩
/-! ===== fund, seed ===== -/
theorem RW_fund {f : FF} {w a : Nat} {x : Int32} (h : RW f w a) (hx : isN x 999999) (hwa : a < w ∨ w + 12 < a) : RW (upd2 (upd2 f w 5 x) a 388 x) w a := by
  have ha : upd2 (upd2 f w 5 x) a 388 x a = upd (f a) 388 x := by rw [upd2_self, upd2_ne _ _ _ (by omega)]
  have hw : upd2 (upd2 f w 5 x) a 388 x w = upd (f w) 5 x := by rw [upd2_ne _ _ _ (by omega), upd2_self]
  have hk : ∀ k, 0 < k → k < 13 → upd2 (upd2 f w 5 x) a 388 x (w + k) = f (w + k) := fun k h1 h2 => by rw [upd2_ne _ _ _ (by omega), upd2_ne _ _ _ (by omega)]
  unfold RW at h ⊢
  rw [ha, hw, hk 1 (by omega) (by omega), hk 2 (by omega) (by omega), hk 3 (by omega) (by omega), hk 4 (by omega) (by omega), hk 5 (by omega) (by omega), hk 6 (by omega) (by omega), hk 7 (by omega) (by omega), hk 8 (by omega) (by omega), hk 9 (by omega) (by omega), hk 10 (by omega) (by omega), hk 11 (by omega) (by omega), hk 12 (by omega) (by omega)]
  obtain ⟨h1, h2, h3, h4, h5, h6, h7, h8, h9, h10, h11⟩ := h
  have u : ∀ k, k ≠ 388 → upd (f a) 388 x k = f a k := fun k hk => pk_un hk
  have v : ∀ k, k ≠ 5 → upd (f w) 5 x k = f w k := fun k hk => pk_un hk
  refine ⟨?_, ?_, ?_, ?_, h5, ?_, ?_, ?_, ?_, ?_, ?_⟩
  · intro s hs; rw [v 0 (by omega), v 1 (by omega), v 2 (by omega), v 3 (by omega), v 4 (by omega)]; exact h1 s hs
  · intro s hs
    unfold RWs
    rw [v 0 (by omega), v 1 (by omega), v 2 (by omega), v 3 (by omega), u s (by omega), u (32 + s) (by omega), u (48 + s) (by omega), u (64 + s) (by omega), u (16 + s) (by omega), u (80 + s) (by omega), u (96 + s) (by omega), u (112 + s) (by omega)]
    exact h2 s hs
  · intro i hi
    have := h3 i hi
    refine ⟨by rw [u (188 + i) (by omega)]; exact this.1, this.2.1, fun hl => ?_⟩
    have c := this.2.2 hl
    unfold RWc at c ⊢
    have q : ∀ y : Int32, isN y 15 → upd (f a) 388 x y.toNatClampNeg = f a y.toNatClampNeg := fun y hy => u _ (by
      have : y.toNatClampNeg = y.toInt.toNat := rfl
      have := hy.2
      omega)
    obtain ⟨c1, c2, c3, c4, c5, c6, c7, c8, c9, c10, c11, c12, c13, c14⟩ := c
    rw [u (128 + i) (by omega), u (148 + i) (by omega), u (168 + i) (by omega), u (208 + i) (by omega), q _ c2, q _ c4, q _ c9]
    exact ⟨c1, c2, c3, c4, c5, c6, c7, c8, c9, c10, c11, c12, fun k hk => by
      rw [u (228 + 8 * i + k) (by have := c12.2; omega)]
      exact c13 k hk, c14⟩
  · intro s hs; rw [v 4 (by omega)]; exact h4 s hs
  · rw [show upd (f w) 5 x 5 = x from pk_us, show upd (f a) 388 x 388 = x from pk_us]
  · rw [show upd (f w) 5 x 5 = x from pk_us]; exact hx
  · rw [v 6 (by omega), u 389 (by omega)]; exact h8
  · rw [v 6 (by omega)]; exact h9
  · rw [v 7 (by omega), u 390 (by omega)]; exact h10
  · rw [v 7 (by omega)]; exact h11
theorem RW_seed {f : FF} {w a : Nat} {x : Int32} (h : RW f w a) (hx : isN x 65535) (hwa : a < w ∨ w + 12 < a) : RW (upd2 (upd2 f w 7 x) a 390 x) w a := by
  have ha : upd2 (upd2 f w 7 x) a 390 x a = upd (f a) 390 x := by rw [upd2_self, upd2_ne _ _ _ (by omega)]
  have hw : upd2 (upd2 f w 7 x) a 390 x w = upd (f w) 7 x := by rw [upd2_ne _ _ _ (by omega), upd2_self]
  have hk : ∀ k, 0 < k → k < 13 → upd2 (upd2 f w 7 x) a 390 x (w + k) = f (w + k) := fun k h1 h2 => by rw [upd2_ne _ _ _ (by omega), upd2_ne _ _ _ (by omega)]
  unfold RW at h ⊢
  rw [ha, hw, hk 1 (by omega) (by omega), hk 2 (by omega) (by omega), hk 3 (by omega) (by omega), hk 4 (by omega) (by omega), hk 5 (by omega) (by omega), hk 6 (by omega) (by omega), hk 7 (by omega) (by omega), hk 8 (by omega) (by omega), hk 9 (by omega) (by omega), hk 10 (by omega) (by omega), hk 11 (by omega) (by omega), hk 12 (by omega) (by omega)]
  obtain ⟨h1, h2, h3, h4, h5, h6, h7, h8, h9, h10, h11⟩ := h
  have u : ∀ k, k ≠ 390 → upd (f a) 390 x k = f a k := fun k hk => pk_un hk
  have v : ∀ k, k ≠ 7 → upd (f w) 7 x k = f w k := fun k hk => pk_un hk
  refine ⟨?_, ?_, ?_, ?_, h5, ?_, ?_, ?_, ?_, ?_, ?_⟩
  · intro s hs; rw [v 0 (by omega), v 1 (by omega), v 2 (by omega), v 3 (by omega), v 4 (by omega)]; exact h1 s hs
  · intro s hs
    unfold RWs
    rw [v 0 (by omega), v 1 (by omega), v 2 (by omega), v 3 (by omega), u s (by omega), u (32 + s) (by omega), u (48 + s) (by omega), u (64 + s) (by omega), u (16 + s) (by omega), u (80 + s) (by omega), u (96 + s) (by omega), u (112 + s) (by omega)]
    exact h2 s hs
  · intro i hi
    have := h3 i hi
    refine ⟨by rw [u (188 + i) (by omega)]; exact this.1, this.2.1, fun hl => ?_⟩
    have c := this.2.2 hl
    unfold RWc at c ⊢
    have q : ∀ y : Int32, isN y 15 → upd (f a) 390 x y.toNatClampNeg = f a y.toNatClampNeg := fun y hy => u _ (by
      have : y.toNatClampNeg = y.toInt.toNat := rfl
      have := hy.2
      omega)
    obtain ⟨c1, c2, c3, c4, c5, c6, c7, c8, c9, c10, c11, c12, c13, c14⟩ := c
    rw [u (128 + i) (by omega), u (148 + i) (by omega), u (168 + i) (by omega), u (208 + i) (by omega), q _ c2, q _ c4, q _ c9]
    exact ⟨c1, c2, c3, c4, c5, c6, c7, c8, c9, c10, c11, c12, fun k hk => by
      rw [u (228 + 8 * i + k) (by have := c12.2; omega)]
      exact c13 k hk, c14⟩
  · intro s hs; rw [v 4 (by omega)]; exact h4 s hs
  · rw [v 5 (by omega), u 388 (by omega)]; exact h6
  · rw [v 5 (by omega)]; exact h7
  · rw [v 6 (by omega), u 389 (by omega)]; exact h8
  · rw [v 6 (by omega)]; exact h9
  · rw [show upd (f w) 7 x 7 = x from pk_us, show upd (f a) 390 x 390 = x from pk_us]
  · rw [show upd (f w) 7 x 7 = x from pk_us]; exact hx
theorem op_fund (G : GC) : OP2 G RR := by
  intro a1 sw f hR
  refine bX10_fund_0 (fun hc => ?_) (fun hc => ?_)
  · refine ⟨1, rfl, bX11_fund_0 (fun _ => ⟨rfl, ?_⟩) (fun hn => absurd hc hn)⟩
    obtain ⟨h1, h2, h3, h4, h5, h6, h7⟩ := hR
    refine ⟨(h1.up (by omega)).up (by omega), (h2.up (by omega)).up (by omega), (h3.up (by omega)).up (by omega), (h4.up (by omega)).up (by omega), (h5.up (by omega)).up (by omega), RW_fund h6 (isN_of hc (by decide)) (by omega), (h7.up (by omega)).up (by omega)⟩
  · exact ⟨0, rfl, bX11_fund_0 (fun hn => absurd hn hc) (fun _ => ⟨rfl, hR⟩)⟩
theorem op_seed (G : GC) : OP27 G RR := by
  intro a1 sw f hR
  refine bX10_seed_0 (fun hc => ?_) (fun hc => ?_)
  · refine ⟨1, rfl, bX11_seed_0 (fun _ => ⟨rfl, ?_⟩) (fun hn => absurd hc hn)⟩
    obtain ⟨h1, h2, h3, h4, h5, h6, h7⟩ := hR
    refine ⟨(h1.up (by omega)).up (by omega), (h2.up (by omega)).up (by omega), (h3.up (by omega)).up (by omega), (h4.up (by omega)).up (by omega), (h5.up (by omega)).up (by omega), RW_seed h6 (isN_of hc (by decide)) (by omega), (h7.up (by omega)).up (by omega)⟩
  · exact ⟨0, rfl, bX11_seed_0 (fun hn => absurd hn hc) (fun _ => ⟨rfl, hR⟩)⟩
/-! ===== rate ===== -/
theorem op_rate (G : GC) : OP3 G RR := by
  intro a1 a2 sw f hR
  refine bX10_rate_0 (fun hc => ?_) (fun hc hd => ?_) (fun hc hd => ?_)
  · exact ⟨0, rfl, bX11_rate_0 (fun _ => ⟨rfl, hR⟩) (fun hn _ => absurd hn hc) (fun hn _ => absurd hn hc)⟩
  · refine ⟨1, rfl, bX11_rate_0 (fun hn => absurd hc hn) (fun _ _ => ⟨rfl, ?_⟩) (fun _ hn => absurd hd hn)⟩
    obtain ⟨h1, h2, h3, h4, h5, h6, h7⟩ := hR
    have hg : ∀ k, k ≠ 32 → k ≠ 82 → upd2 (upd2 (upd2 (upd2 f 32 3 a1) 32 4 a2) 82 4 a1) 82 5 a2 k = f k := fun k e1 e2 => by rw [upd2_ne _ _ _ e2, upd2_ne _ _ _ e2, upd2_ne _ _ _ e1, upd2_ne _ _ _ e1]
    have g82 : ∀ k, k ≠ 4 → k ≠ 5 → upd2 (upd2 (upd2 (upd2 f 32 3 a1) 32 4 a2) 82 4 a1) 82 5 a2 82 k = f 82 k := fun k e1 e2 => by rw [upd2_self, pk_un e2, upd2_self, pk_un e1, upd2_ne _ _ _ (by omega), upd2_ne _ _ _ (by omega)]
    refine ⟨h1.cg (by rw [hg 1 (by omega) (by omega)]) (hg 2 (by omega) (by omega)) (g82 10 (by omega) (by omega)) (hg 90 (by omega) (by omega)), h2.cg (hg 4 (by omega) (by omega)) (hg 6 (by omega) (by omega)) (hg 86 (by omega) (by omega)), ?_, h4.cg (hg 12 (by omega) (by omega)) (fun e _ => by rw [hg 13 (by omega) (by omega)]) (hg 112 (by omega) (by omega)) (hg 113 (by omega) (by omega)), h5.cg (fun k hk => hg _ (by have := lwB_in sw hk; omega) (by have := lwB_in sw hk; omega)) (g82 19 (by omega) (by omega)) (fun k q1 q2 => hg k (by omega) (by omega)), h6.cg (fun k hk => hg _ (by omega) (by omega)) (hg 83 (by omega) (by omega)), h7.cg (g82 47 (by omega) (by omega)) (by rw [hg 0 (by omega) (by omega)]) (fun k hk => hg _ (by omega) (by omega)) (hg 85 (by omega) (by omega))⟩
    exact ⟨rfl, isN_of hc (by decide), rfl, isN_of hd (by decide)⟩
  · exact ⟨0, rfl, bX11_rate_0 (fun hn => absurd hc hn) (fun _ hn => absurd hn hd) (fun _ _ => ⟨rfl, hR⟩)⟩
