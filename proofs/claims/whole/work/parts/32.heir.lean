/-! ===== counted bits ===== -/
def cN : Nat → Nat → Nat
  | 0, _ => 0
  | k + 1, m => cN k m + m / 2 ^ k % 2
def us (a s : Int32) : Int32 := (a.toUInt32 >>> (s.toUInt32 &&& Int32.toUInt32 31)).toInt32
def bcA (x : Int32) : Int32 := x - (us x 1 &&& 1431655765)
def bcB (a : Int32) : Int32 := (a &&& 858993459) + (us a 2 &&& 858993459)
def bcC (b : Int32) : Int32 := (b + us b 4) &&& 252645135
def bcD (c : Int32) : Int32 := c + us c 8
def bcF (e : Int32) : Int32 := (e + us e 16) &&& 63
theorem us_1 {n : Nat} (hn : n < 2 ^ 32) : us (nI n) 1 = nI (n / 2 ^ 1) := pk_ushrN hn 1 1 (by decide)
theorem us_2 {n : Nat} (hn : n < 2 ^ 32) : us (nI n) 2 = nI (n / 2 ^ 2) := pk_ushrN hn 2 2 (by decide)
theorem us_4 {n : Nat} (hn : n < 2 ^ 32) : us (nI n) 4 = nI (n / 2 ^ 4) := pk_ushrN hn 4 4 (by decide)
theorem us_8 {n : Nat} (hn : n < 2 ^ 32) : us (nI n) 8 = nI (n / 2 ^ 8) := pk_ushrN hn 8 8 (by decide)
theorem us_16 {n : Nat} (hn : n < 2 ^ 32) : us (nI n) 16 = nI (n / 2 ^ 16) := pk_ushrN hn 16 16 (by decide)
theorem and_nI {a b : Nat} (ha : a < 2 ^ 32) (hb : b < 2 ^ 32) : nI a &&& nI b = nI (a &&& b) := by
  apply Int32.toBitVec_inj.1
  apply BitVec.eq_of_toNat_eq
  have hc : a &&& b < 2 ^ 32 := Nat.lt_of_le_of_lt Nat.and_le_left ha
  rw [Int32.toBitVec_and, BitVec.toNat_and, pk_tn ha, pk_tn hb, pk_tn hc]
def nA (x : Nat) : Nat := x - ((x / 2 ^ 1) &&& 1431655765)
def nB (a : Nat) : Nat := (a &&& 858993459) + ((a / 2 ^ 2) &&& 858993459)
def nC (b : Nat) : Nat := (b + b / 2 ^ 4) &&& 252645135
def nD (c : Nat) : Nat := c + c / 2 ^ 8
def nF' (e : Nat) : Nat := (e + e / 2 ^ 16) &&& 63
theorem bcN {m : Nat} (hm : m < 2 ^ 31) : bcF (bcD (bcC (bcB (bcA (nI m))))) = nI (nF' (nD (nC (nB (nA m))))) := by
  have e1 : bcA (nI m) = nI (nA m) := by
    unfold bcA nA
    rw [us_1 (by omega), show (1431655765 : Int32) = nI 1431655765 from rfl, and_nI (by omega) (by omega), pk_sub]
    exact Nat.le_trans Nat.and_le_left (Nat.div_le_self _ _)
  have a1 : nA m < 2 ^ 31 := Nat.lt_of_le_of_lt (Nat.sub_le _ _) hm
  have e2 : bcB (nI (nA m)) = nI (nB (nA m)) := by
    unfold bcB nB
    rw [us_2 (by omega), show (858993459 : Int32) = nI 858993459 from rfl, and_nI (by omega) (by omega), and_nI (by omega) (by omega), nI_add]
  have l1 : (nA m &&& 858993459) ≤ 858993459 := Nat.and_le_right
  have l2 : ((nA m / 2 ^ 2) &&& 858993459) ≤ 858993459 := Nat.and_le_right
  have a2 : nB (nA m) < 2 ^ 31 := by unfold nB; omega
  have e3 : bcC (nI (nB (nA m))) = nI (nC (nB (nA m))) := by
    unfold bcC nC
    rw [us_4 (by omega), nI_add, show (252645135 : Int32) = nI 252645135 from rfl, and_nI (by omega) (by omega)]
  have a3 : nC (nB (nA m)) ≤ 252645135 := Nat.and_le_right
  have e4 : bcD (nI (nC (nB (nA m)))) = nI (nD (nC (nB (nA m)))) := by
    unfold bcD nD
    rw [us_8 (by omega), nI_add]
  have a4 : nD (nC (nB (nA m))) < 2 ^ 31 := by unfold nD; omega
  have e5 : bcF (nI (nD (nC (nB (nA m))))) = nI (nF' (nD (nC (nB (nA m))))) := by
    unfold bcF nF'
    rw [us_16 (by omega), nI_add, show (63 : Int32) = nI 63 from rfl, and_nI (by omega) (by omega)]
  rw [e1, e2, e3, e4, e5]
def pop (m : Nat) : Nat := nF' (nD (nC (nB (nA m))))
def bcOk (m : Nat) : Bool := Nat.beq (pop (2 * m)) (pop m) && Nat.beq (pop (2 * m + 1)) (pop m + 1)
def bcR : Nat → Nat → Bool
  | 0, lo => bcOk lo
  | k + 1, lo => bcR k lo && bcR k (lo + 2 ^ k)
theorem bcR_ok : ∀ k lo m, bcR k lo = true → lo ≤ m → m < lo + 2 ^ k → bcOk m = true := by
  intro k
  induction k with
  | zero =>
    intro lo m h h1 h2
    have : m = lo := by rw [Nat.pow_zero] at h2; omega
    rw [this]
    exact h
  | succ k ih =>
    intro lo m h h1 h2
    have h' : (bcR k lo && bcR k (lo + 2 ^ k)) = true := h
    rw [Bool.and_eq_true] at h'
    rcases Nat.lt_or_ge m (lo + 2 ^ k) with y | y
    · exact ih lo m h'.1 h1 y
    · exact ih (lo + 2 ^ k) m h'.2 y (by rw [Nat.pow_succ] at h2; omega)
theorem bcR_15 : bcR 15 0 = true := by decide +kernel
theorem pop_half {m : Nat} (hm : m < 2 ^ 16) : pop m = pop (m / 2) + m % 2 := by
  have h := bcR_ok 15 0 (m / 2) bcR_15 (Nat.zero_le _) (by omega)
  unfold bcOk at h
  rw [Bool.and_eq_true, Nat.beq_eq, Nat.beq_eq] at h
  rcases Nat.mod_two_eq_zero_or_one m with y | y
  · rw [y, ← h.1, show 2 * (m / 2) = m by omega]; rfl
  · rw [y, ← h.2, show 2 * (m / 2) + 1 = m by omega]
theorem cN_cons (k m : Nat) : cN (k + 1) m = cN k (m / 2) + m % 2 := by
  induction k with
  | zero => show 0 + m / 2 ^ 0 % 2 = 0 + m % 2; rw [Nat.pow_zero, Nat.div_one]
  | succ k ih =>
    show cN (k + 1) m + m / 2 ^ (k + 1) % 2 = (cN k (m / 2) + m / 2 / 2 ^ k % 2) + m % 2
    rw [ih, Nat.div_div_eq_div_mul, Nat.pow_succ, Nat.mul_comm (2 ^ k) 2]
    omega
theorem pop_cN : ∀ k, k ≤ 16 → ∀ m, m < 2 ^ k → pop m = cN k m := by
  intro k
  induction k with
  | zero =>
    intro _ m hm
    have : m = 0 := by rw [Nat.pow_zero] at hm; omega
    subst this
    rfl
  | succ k ih =>
    intro hk m hm
    have h16 : 2 ^ (k + 1) ≤ 2 ^ 16 := Nat.pow_le_pow_right (by omega) hk
    rw [pop_half (by omega), cN_cons, ih (by omega) (m / 2) (by rw [Nat.pow_succ] at hm; omega)]
theorem sp_bitCount {G : GC} {d : Nat} {sw : Bool} {f : FF} {Q : QQ} {m : Nat} (hm : m < 2 ^ 16) (hq : Q (some (.int (nI (cN 16 m)))) sw f) : XP G mJ6_bitCount_0f7a4 d 0 [.int (nI m)] [] sw f Q := by
  refine bJ6_bitCount_0f7a4_0 ?_
  have := bcN (m := m) (by omega)
  rw [show nF' (nD (nC (nB (nA m)))) = cN 16 m from pop_cN 16 (by omega) m hm] at this
  rw [← this] at hq
  exact hq
theorem bit_nI {x : Int32} {s : Nat} (hs : s < 32) : (x >>> (nI s &&& 31)) &&& 1 = nI (if bt x s = true then 1 else 0) := by
  by_cases y : bt x s = true
  · rw [if_pos y]
    have := (bitI_bt (m := x) hs).mpr y
    exact this
  · rw [if_neg y]
    exact (bit0_bt hs).mpr (by simpa using y)
theorem sp_bits {G : GC} {d : Nat} {sw : Bool} {f : FF} {Q : QQ} {m : Nat} (hm : m < 2 ^ 16) (hq : Q (some (.int (nI (cN 16 m)))) sw f) : XP G mX11_bits d 0 [.int (nI m), .null, .null] [] sw f Q := by
  have loop : ∀ (k j : Nat), j + k = 16 → XP G mX11_bits d 4 [.int (nI m), .int (nI (cN j m)), .int (nI j)] [] sw f Q := by
    intro k
    induction k with
    | zero =>
      intro j hj
      have z : j = 16 := by omega
      subst z
      exact bX11_bits_4 (fun _ => hq) (fun h => absurd (nI_le (Nat.le_refl 16) (by omega)) h)
    | succ k ih =>
      intro j hj
      refine bX11_bits_4 (fun h => absurd h (nI_ge (a := j) (b := 16) (by omega) (by omega))) (fun _ => ?_)
      have := ih (j + 1) (by omega)
      rw [bit_nI (by omega), nI_add, nI_1, bt_nI (by omega) (by omega), Nat.testBit_eq_decide_div_mod_eq]
      have e : (if decide (m / 2 ^ j % 2 = 1) = true then 1 else 0) = m / 2 ^ j % 2 := by
        rcases Nat.mod_two_eq_zero_or_one (m / 2 ^ j) with y | y <;> rw [y] <;> rfl
      rw [e]
      exact this
  exact bX11_bits_0 (loop 16 0 (by omega))
theorem cN_le : ∀ k m, cN k m ≤ k := by
  intro k m
  induction k with
  | zero => exact Nat.le_refl _
  | succ k ih =>
    show cN k m + m / 2 ^ k % 2 ≤ _
    omega
theorem cN_small : ∀ j k m, k ≤ j → m < 2 ^ k → cN j m ≤ k := by
  intro j
  induction j with
  | zero => intro k m hk _; exact Nat.zero_le _
  | succ j ih =>
    intro k m hk hm
    by_cases y : k = j + 1
    · subst y; exact cN_le _ _
    · have h1 := ih k m (by omega) hm
      have h2 : 2 ^ k ≤ 2 ^ j := Nat.pow_le_pow_right (by omega) (by omega)
      have : m / 2 ^ j = 0 := Nat.div_eq_of_lt (by omega)
      show cN j m + m / 2 ^ j % 2 ≤ k
      rw [this]
      omega
