/-! ===== the relation between the class's cells and the reference's ===== -/
def isN (x : Int32) (K : Nat) : Prop := 0 ≤ x.toInt ∧ x.toInt ≤ K
def bt (m : Int32) (s : Nat) : Bool := m.toBitVec.getLsbD s
/-- the tape: 1 Tape, 2 its bytes; 90 the reference's tape -/
def RT (f : FF) : Prop := isN (f 1 1) 260 ∧ f 82 10 = f 1 1 ∧ (∀ j : Nat, (j : Int) < (f 1 1).toInt → f 2 j = f 90 j &&& 255) ∧ ∀ j : Nat, (f 90 j).toInt8.toInt32 = f 90 j
/-- the trunks: 4 circuits, 6 noneUsed; 86 circuitsOf -/
def RN (f : FF) : Prop := (∀ i, i < 64 → f 86 i = f 4 i ∧ isN (f 4 i) 9 ∧ f 6 i = 0) ∧ (∀ e q, e < 8 → q < 8 → f 4 (8 * e + q) = f 4 (8 * q + e)) ∧ ∀ e, e < 8 → f 4 (8 * e + e) = 0
/-- the rates -/
def RQ (f : FF) : Prop := f 82 4 = f 32 3 ∧ isN (f 32 3) 99 ∧ f 82 5 = f 32 4 ∧ isN (f 32 4) 99
/-- the codes: 12 digits, 13 length; 112 codeOf, 113 codeLong -/
def RP (f : FF) : Prop := ∀ e, e < 8 → f 113 e = f 13 e ∧ isN (f 13 e) 6 ∧ ∀ j : Nat, (j : Int) < (f 13 e).toInt → f 112 (6 * e + j) = f 12 (12 * e + j) + 48 ∧ isN (f 12 (12 * e + j)) 9
/-- how many calls have a circuit between e and q -/
def cntU (le tr ro : Nat → Int32) (e q : Nat) : Nat := ((List.range 20).map (fun i => if le i = 0 then 0 else ((List.range (tr i).toNatClampNeg).filter (fun k => decide ((ro (8 * i + k) = nI e ∧ ro (8 * i + k + 1) = nI q) ∨ (ro (8 * i + k) = nI q ∧ ro (8 * i + k + 1) = nI e)))).length)).sum
/-- a subscriber -/
def RWs (h ex ar hr wr a : Nat → Int32) (s : Nat) : Prop := (a s = 0 ∨ a s = 1) ∧ (bt (h 0) s = true ↔ a s = 1) ∧ (bt (h 1) s = true ↔ (a s = 1 ∧ a (32 + s) = 0)) ∧ (bt (h 2) s = true ↔ (a s = 1 ∧ a (48 + s) = 0)) ∧ (bt (h 3) s = true ↔ (a s = 1 ∧ a (64 + s) = 1)) ∧
  (a s = 1 → (a (32 + s) = 0 ∨ a (32 + s) = 1) ∧ (a (48 + s) = 0 ∨ a (48 + s) = 1) ∧ (a (64 + s) = 0 ∨ a (64 + s) = 1) ∧ ex s = a (16 + s) ∧ isN (ex s) 7 ∧ ar s = a (80 + s) ∧ isN (ar s) 999999 ∧ hr s = a (96 + s) ∧ isN (hr s) 9999 ∧ wr s = a (112 + s) ∧ isN (wr s) 9999)
/-- a call that stands at a place -/
def RWc (co ra ru pa tr ro a : Nat → Int32) (i : Nat) : Prop := ra i = a (128 + i) ∧ isN (ra i) 15 ∧ ru i = a (148 + i) ∧ isN (ru i) 15 ∧ ra i ≠ ru i ∧ a (ra i).toNatClampNeg = 1 ∧ a (ru i).toNatClampNeg = 1 ∧ pa i = a (168 + i) ∧ isN (pa i) 15 ∧ a (pa i).toNatClampNeg = 1 ∧ tr i = a (208 + i) ∧ isN (tr i) 7 ∧
  (∀ k : Nat, (k : Int) ≤ (tr i).toInt → ro (8 * i + k) = a (228 + 8 * i + k) ∧ isN (ro (8 * i + k)) 7) ∧ (∀ k : Nat, (k : Int) < (tr i).toInt → ro (8 * i + k) ≠ ro (8 * i + k + 1)) ∧ co (ra i).toNatClampNeg = nI i ∧ co (ru i).toNatClampNeg = nI i
/-- a world (its fields h, its rows) and a row of the reference -/
def RWd (h ex ar hr wr co ra ru pa le tr ro us a : Nat → Int32) : Prop :=
  (∀ s, 16 ≤ s → bt (h 0) s = false ∧ bt (h 1) s = false ∧ bt (h 2) s = false ∧ bt (h 3) s = false ∧ bt (h 4) s = false) ∧ (∀ s, s < 16 → RWs h ex ar hr wr a s) ∧
  (∀ i, i < 20 → le i = a (188 + i) ∧ isN (le i) 99 ∧ (le i ≠ 0 → RWc co ra ru pa tr ro a i)) ∧ (∀ s, s < 16 → (bt (h 4) s = true ↔ ∃ i, i < 20 ∧ le i ≠ 0 ∧ (ra i = nI s ∨ ru i = nI s))) ∧
  (∀ e q, e < 8 → q < 8 → us (8 * e + q) = nI (cntU le tr ro e q)) ∧ h 5 = a 388 ∧ isN (h 5) 999999 ∧ h 6 = a 389 ∧ isN (h 6) 99999 ∧ h 7 = a 390 ∧ isN (h 7) 65535
def RW (f : FF) (w a : Nat) : Prop := RWd (f w) (f (w + 1)) (f (w + 2)) (f (w + 3)) (f (w + 4)) (f (w + 5)) (f (w + 6)) (f (w + 7)) (f (w + 8)) (f (w + 9)) (f (w + 10)) (f (w + 11)) (f (w + 12)) (f a)
/-- what was kept -/
def RK (f : FF) : Prop := f 82 47 = f 0 10 ∧ (f 0 10 = 0 ∨ (f 0 10 = 1 ∧ RW f 56 85))
/-- a step of a law: the class's sign and operand, the reference's code -/
def enc (s w c : Int32) : Prop := (s = 48 ∧ isN w 99999 ∧ c = w) ∨ (s = 97 ∧ isN w 9 ∧ c = 1048576 + w) ∨ (s = 43 ∧ c = 2097152) ∨ (s = 45 ∧ c = 3145728) ∨ (s = 42 ∧ c = 4194304) ∨ (s = 47 ∧ c = 5242880) ∨ (s = 37 ∧ c = 6291456) ∨ (s = 60 ∧ c = 7340032) ∨ (s = 62 ∧ c = 8388608) ∨ (s = 61 ∧ c = 9437184) ∨ (s = 33 ∧ c = 10485760) ∨ (s = 38 ∧ isN w 240 ∧ c = 11534336 + w) ∨ (s = 124 ∧ isN w 240 ∧ c = 12582912 + w)
/-- how a step changes the stack's depth, and whether its top is a truth -/
def wfStep (sg wi : Nat → Int32) (dep : Nat → Nat) (bo : Nat → Bool) (b k : Nat) : Prop :=
  ((sg k = 48 ∨ sg k = 97) → dep (k + 1) = dep k + 1 ∧ bo (k + 1) = false) ∧
  ((sg k = 43 ∨ sg k = 45 ∨ sg k = 42 ∨ sg k = 47 ∨ sg k = 37) → 2 ≤ dep k ∧ dep (k + 1) + 1 = dep k ∧ bo (k + 1) = false) ∧
  ((sg k = 60 ∨ sg k = 62 ∨ sg k = 61) → 2 ≤ dep k ∧ dep (k + 1) + 1 = dep k ∧ bo (k + 1) = true) ∧
  (sg k = 33 → 1 ≤ dep k ∧ bo k = true ∧ dep (k + 1) = dep k ∧ bo (k + 1) = true) ∧
  ((sg k = 38 ∨ sg k = 124) → dep k = 1 ∧ bo k = true ∧ dep (k + 1) = 0 ∧ ∃ t : Nat, wi k = nI t ∧ k < t ∧ t ≤ b ∧ dep t = 1 ∧ bo t = true)
def wfSeg (sg wi : Nat → Int32) (a b : Nat) (cond : Bool) : Prop := ∃ (dep : Nat → Nat) (bo : Nat → Bool), dep a = 0 ∧ dep b = 1 ∧ bo b = cond ∧ ∀ k, a ≤ k → k < b → dep k ≤ 40 ∧ wfStep sg wi dep bo b k
def RLd (h lt va cd en sg wi m cs cl fr hf to : Nat → Int32) : Prop := h 0 = m 19 ∧ isN (h 0) 16 ∧ ∀ i : Nat, (i : Int) < (h 0).toInt → lt i = cl i ∧ va i = fr i ∧ cd i = hf i ∧ en i = to i ∧
  ∃ v c e : Nat, v ≤ c ∧ c ≤ e ∧ e ≤ 240 ∧ va i = nI v ∧ cd i = nI c ∧ en i = nI e ∧ (∀ k, v ≤ k → k < e → enc (sg k) (wi k) (cs k)) ∧ (v < c → wfSeg sg wi v c false) ∧ wfSeg sg wi c e true ∧ ((lt i = 114 ∨ lt i = 119 ∨ lt i = 108) → v < c)
/-- the law in force -/
def RLw (sw : Bool) (f : FF) : Prop := RLd (f (lwB sw)) (f (lwB sw + 1)) (f (lwB sw + 2)) (f (lwB sw + 3)) (f (lwB sw + 4)) (f (lwB sw + 5)) (f (lwB sw + 6)) (f 82) (f 97) (f 98) (f 99) (f 100) (f 101)
def RR (sw : Bool) (f : FF) : Prop := RT f ∧ RN f ∧ RQ f ∧ RP f ∧ RLw sw f ∧ RW f 43 83 ∧ RK f
/-! what each part rests on -/
theorem RT.cg {f g : FF} (h : RT f) (h1 : g 1 1 = f 1 1) (h2 : g 2 = f 2) (h3 : g 82 10 = f 82 10) (h4 : g 90 = f 90) : RT g := by unfold RT at h ⊢; rw [h1, h2, h3, h4]; exact h
theorem RN.cg {f g : FF} (h : RN f) (h1 : g 4 = f 4) (h2 : g 6 = f 6) (h3 : g 86 = f 86) : RN g := by unfold RN at h ⊢; rw [h1, h2, h3]; exact h
theorem RQ.cg {f g : FF} (h : RQ f) (h1 : g 82 4 = f 82 4) (h2 : g 82 5 = f 82 5) (h3 : g 32 3 = f 32 3) (h4 : g 32 4 = f 32 4) : RQ g := by unfold RQ at h ⊢; rw [h1, h2, h3, h4]; exact h
theorem RP.cg {f g : FF} (h : RP f) (h1 : g 12 = f 12) (h2 : ∀ e, e < 8 → g 13 e = f 13 e) (h3 : g 112 = f 112) (h4 : g 113 = f 113) : RP g := by
  intro e he
  rw [h1, h2 e he, h3, h4]
  exact h e he
theorem RW.cg {f g : FF} {w a : Nat} (h : RW f w a) (hw : ∀ k, k < 13 → g (w + k) = f (w + k)) (ha : g a = f a) : RW g w a := by
  unfold RW at h ⊢
  have h0 := hw 0 (by omega)
  rw [Nat.add_zero] at h0
  rw [h0, hw 1 (by omega), hw 2 (by omega), hw 3 (by omega), hw 4 (by omega), hw 5 (by omega), hw 6 (by omega), hw 7 (by omega), hw 8 (by omega), hw 9 (by omega), hw 10 (by omega), hw 11 (by omega), hw 12 (by omega), ha]
  exact h
theorem RK.cg {f g : FF} (h : RK f) (h1 : g 82 47 = f 82 47) (h2 : g 0 10 = f 0 10) (hw : ∀ k, k < 13 → g (56 + k) = f (56 + k)) (ha : g 85 = f 85) : RK g := by
  obtain ⟨e1, e2⟩ := h
  refine ⟨by rw [h1, h2]; exact e1, ?_⟩
  rw [h2]
  rcases e2 with e2 | ⟨e2, e3⟩
  · exact Or.inl e2
  · exact Or.inr ⟨e2, e3.cg hw ha⟩
theorem RLw.cg {sw : Bool} {f g : FF} (h : RLw sw f) (hw : ∀ k, k < 7 → g (lwB sw + k) = f (lwB sw + k)) (h1 : g 82 19 = f 82 19) (h2 : ∀ k, 97 ≤ k → k ≤ 101 → g k = f k) : RLw sw g := by
  unfold RLw RLd at h ⊢
  have h0 := hw 0 (by omega)
  rw [Nat.add_zero] at h0
  rw [h0, hw 1 (by omega), hw 2 (by omega), hw 3 (by omega), hw 4 (by omega), hw 5 (by omega), hw 6 (by omega), h1, h2 97 (by omega) (by omega), h2 98 (by omega) (by omega), h2 99 (by omega) (by omega), h2 100 (by omega) (by omega), h2 101 (by omega) (by omega)]
  exact h
theorem lwB_in (sw : Bool) {k : Nat} (hk : k < 7) : 25 ≤ lwB sw + k ∧ lwB sw + k ≤ 42 ∧ lwB sw + k ≠ 32 ∧ lwB sw + k ≠ 33 ∧ lwB sw + k ≠ 34 ∧ lwB sw + k ≠ 35 := by
  cases sw
  · show 25 ≤ 36 + k ∧ 36 + k ≤ 42 ∧ 36 + k ≠ 32 ∧ 36 + k ≠ 33 ∧ 36 + k ≠ 34 ∧ 36 + k ≠ 35
    omega
  · show 25 ≤ 25 + k ∧ 25 + k ≤ 42 ∧ 25 + k ≠ 32 ∧ 25 + k ≠ 33 ∧ 25 + k ≠ 34 ∧ 25 + k ≠ 35
    omega
/-! the start -/
theorem isN_0 (K : Nat) : isN 0 K := by constructor <;> simp
theorem bt_0 (s : Nat) : bt 0 s = false := by simp [bt]
theorem RW_zero {h a z : Nat → Int32} (hz : z = fun _ => 0) (h0 : h = fun k => if k = 7 then 1 else 0) (h1 : a = fun k => if k = 390 then 1 else 0) : RWd h z z z z z z z z z z z z a := by
  subst hz; subst h0; subst h1
  refine ⟨fun s _ => by simp [bt_0], fun s hs => ?_, fun i hi => ?_, fun s hs => ?_, fun e q he hq => ?_, rfl, isN_0 _, rfl, isN_0 _, rfl, by constructor <;> decide⟩
  · have e1 : ¬ s = 390 := by omega
    refine ⟨?_, ?_, ?_, ?_, ?_, ?_⟩ <;> simp [bt_0, e1]
  · have e1 : ¬ 188 + i = 390 := by omega
    refine ⟨by simp [e1], isN_0 _, fun h => absurd rfl h⟩
  · simp [bt_0]
  · simp [cntU, nI]
    rfl
theorem RR_start : RR false fC := by
  refine ⟨⟨isN_0 _, rfl, fun j hj => ?_, fun j => rfl⟩, ⟨fun i _ => ⟨rfl, isN_0 _, rfl⟩, fun _ _ _ _ => rfl, fun _ _ => rfl⟩, ⟨rfl, by constructor <;> decide, rfl, by constructor <;> decide⟩, fun e _ => ⟨rfl, isN_0 _, fun j hj => ?_⟩, ⟨rfl, isN_0 _, fun i hi => ?_⟩, ?_, rfl, Or.inl rfl⟩
  · have : (fC 1 1).toInt = 0 := rfl
    omega
  · have : (fC 13 e).toInt = 0 := rfl
    omega
  · have : (fC (lwB false) 0).toInt = 0 := rfl
    omega
  · exact RW_zero (z := fun _ => 0) rfl (by funext k; show upd (fun _ => 0) 7 1 k = _; simp [upd]) (by funext k; show upd (fun _ => 0) 390 1 k = _; simp [upd])
