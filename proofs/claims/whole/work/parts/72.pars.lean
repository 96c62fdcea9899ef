/-! ===== the grammar of a law, as a relation ===== -/
def opc (c : Int32) : Nat := if c = 97 then 1 else if c = 43 then 2 else if c = 45 then 3 else if c = 42 then 4 else if c = 47 then 5 else if c = 37 then 6 else if c = 60 then 7 else if c = 62 then 8 else if c = 61 then 9 else if c = 33 then 10 else if c = 38 then 11 else if c = 124 then 12 else 0
def St : Type := Nat × Nat × (Nat → Int32) × (Nat → Int32) × (Nat → Int32) × (Nat → Nat) × (Nat → Bool)
def St.p (S : St) : Nat := S.1
def St.k (S : St) : Nat := S.2.1
def St.sg (S : St) : Nat → Int32 := S.2.2.1
def St.wt (S : St) : Nat → Int32 := S.2.2.2.1
def St.su (S : St) : Nat → Int32 := S.2.2.2.2.1
def St.dp (S : St) : Nat → Nat := S.2.2.2.2.2.1
def St.bb (S : St) : Nat → Bool := S.2.2.2.2.2.2
def dnx (c : Int32) (m : Nat) : Nat := if c = 48 ∨ c = 97 then m + 1 else if c = 33 then m else m - 1
def bnx (c : Int32) : Bool := decide (c = 60 ∨ c = 62 ∨ c = 61 ∨ c = 33)
def updB (f : Nat → Bool) (k : Nat) (x : Bool) : Nat → Bool := fun j => if j = k then x else f j
def St.adv (S : St) : St := (S.p + 1, S.k, S.sg, S.wt, S.su, S.dp, S.bb)
def St.goto (S : St) (p : Nat) : St := (p, S.k, S.sg, S.wt, S.su, S.dp, S.bb)
def St.put (S : St) (c w : Int32) : St := (S.p, S.k + 1, upd S.sg S.k c, upd S.wt S.k w, upd S.su S.k (1048576 * nI (opc c) + w), updN S.dp (S.k + 1) (dnx c (S.dp S.k)), updB S.bb (S.k + 1) (bnx c))
def St.land (S : St) : Option Nat → St
  | none => S
  | some j => (S.p, S.k, S.sg, upd S.wt j (nI S.k), upd S.su j (1048576 * (S.su j / 1048576) + nI S.k), S.dp, S.bb)
def fx (c : Int32) : Int32 := if c = 115 then 0 else if c = 101 then 1 else if c = 97 then 2 else if c = 111 then 3 else if c = 102 then 4 else if c = 116 then 5 else if c = 104 then 6 else if c = 107 then 7 else if c = 100 then 8 else if c = 110 then 9 else -1
abbrev isS (c : Int32) : Prop := c = 43 ∨ c = 45
abbrev isT (c : Int32) : Prop := c = 42 ∨ c = 47 ∨ c = 37
abbrev isC (c : Int32) : Prop := c = 60 ∨ c = 62 ∨ c = 61
def PLc (t : Nat → Int32) (n : Nat) (R : Nat → Option Nat → Nat → St → Except Int32 St → Prop) : Prop :=
  (∀ {o : Nat} {S S1 : St}, tx t n S.p = 91 → o < 6 → R 4 none (o + 1) S.adv (.ok S1) → tx t n S1.p = 93 → R 0 none o S (.ok S1.adv)) ∧
  (∀ {o : Nat} {S S1 : St}, tx t n S.p = 91 → o < 6 → R 4 none (o + 1) S.adv (.ok S1) → ¬ tx t n S1.p = 93 → R 0 none o S (.error (er 1 S1.p))) ∧
  (∀ {o : Nat} {S : St} {e : Int32}, tx t n S.p = 91 → o < 6 → R 4 none (o + 1) S.adv (.error e) → R 0 none o S (.error e)) ∧
  (∀ {o : Nat} {S : St}, tx t n S.p = 91 → ¬ o < 6 → R 0 none o S (.error (er 5 S.p))) ∧
  (∀ {o : Nat} {S : St}, ¬ tx t n S.p = 91 → ¬ fx (tx t n S.p) = -1 → R 0 none o S (.ok (S.adv.put 97 (fx (tx t n S.p))))) ∧
  (∀ {o : Nat} {S : St} {p' : Nat} {v : Int32}, ¬ tx t n S.p = 91 → fx (tx t n S.p) = -1 → numR t n S.p = .ok (p', v) → R 0 none o S (.ok ((S.goto p').put 48 v))) ∧
  (∀ {o : Nat} {S : St} {e : Int32}, ¬ tx t n S.p = 91 → fx (tx t n S.p) = -1 → numR t n S.p = .error e → R 0 none o S (.error e)) ∧
  (∀ {o : Nat} {S S1 : St} {r : Except Int32 St}, R 0 none o S (.ok S1) → R 1 none o S1 r → R 2 none o S r) ∧
  (∀ {o : Nat} {S : St} {e : Int32}, R 0 none o S (.error e) → R 2 none o S (.error e)) ∧
  (∀ {o : Nat} {S : St}, ¬ isT (tx t n S.p) → R 1 none o S (.ok S)) ∧
  (∀ {o : Nat} {S S1 : St} {r : Except Int32 St}, isT (tx t n S.p) → R 0 none o S.adv (.ok S1) → R 1 none o (S1.put (tx t n S.p) 0) r → R 1 none o S r) ∧
  (∀ {o : Nat} {S : St} {e : Int32}, isT (tx t n S.p) → R 0 none o S.adv (.error e) → R 1 none o S (.error e)) ∧
  (∀ {o : Nat} {S S1 : St} {r : Except Int32 St}, R 2 none o S (.ok S1) → R 3 none o S1 r → R 4 none o S r) ∧
  (∀ {o : Nat} {S : St} {e : Int32}, R 2 none o S (.error e) → R 4 none o S (.error e)) ∧
  (∀ {o : Nat} {S : St}, ¬ isS (tx t n S.p) → R 3 none o S (.ok S)) ∧
  (∀ {o : Nat} {S S1 : St} {r : Except Int32 St}, isS (tx t n S.p) → R 2 none o S.adv (.ok S1) → R 3 none o (S1.put (tx t n S.p) 0) r → R 3 none o S r) ∧
  (∀ {o : Nat} {S : St} {e : Int32}, isS (tx t n S.p) → R 2 none o S.adv (.error e) → R 3 none o S (.error e)) ∧
  (∀ {o : Nat} {S : St} {e : Int32}, R 4 none o S (.error e) → R 5 none o S (.error e)) ∧
  (∀ {o : Nat} {S S1 : St}, R 4 none o S (.ok S1) → ¬ isC (tx t n S1.p) → R 5 none o S (.error (er 1 S1.p))) ∧
  (∀ {o : Nat} {S S1 : St} {e : Int32}, R 4 none o S (.ok S1) → isC (tx t n S1.p) → R 4 none o S1.adv (.error e) → R 5 none o S (.error e)) ∧
  (∀ {o : Nat} {S S1 S2 : St}, R 4 none o S (.ok S1) → isC (tx t n S1.p) → R 4 none o S1.adv (.ok S2) → R 5 none o S (.ok (S2.put (tx t n S1.p) 0))) ∧
  (∀ {o : Nat} {S : St} {r : Except Int32 St}, tx t n S.p = 40 → R 6 none o S r → R 7 none o S r) ∧
  (∀ {o : Nat} {S : St}, tx t n S.p = 33 → ¬ o < 6 → R 7 none o S (.error (er 5 S.p))) ∧
  (∀ {o : Nat} {S : St} {e : Int32}, tx t n S.p = 33 → o < 6 → R 7 none (o + 1) S.adv (.error e) → R 7 none o S (.error e)) ∧
  (∀ {o : Nat} {S S1 : St}, tx t n S.p = 33 → o < 6 → R 7 none (o + 1) S.adv (.ok S1) → R 7 none o S (.ok (S1.put 33 0))) ∧
  (∀ {o : Nat} {S : St} {r : Except Int32 St}, ¬ tx t n S.p = 40 → ¬ tx t n S.p = 33 → R 5 none o S r → R 7 none o S r) ∧
  (∀ {o : Nat} {S : St}, ¬ tx t n S.p = 40 → R 6 none o S (.error (er 1 S.p))) ∧
  (∀ {o : Nat} {S : St}, tx t n S.p = 40 → ¬ o < 6 → R 6 none o S (.error (er 5 S.p))) ∧
  (∀ {o : Nat} {S : St} {e : Int32}, tx t n S.p = 40 → o < 6 → R 11 none (o + 1) S.adv (.error e) → R 6 none o S (.error e)) ∧
  (∀ {o : Nat} {S S1 : St}, tx t n S.p = 40 → o < 6 → R 11 none (o + 1) S.adv (.ok S1) → tx t n S1.p = 41 → R 6 none o S (.ok S1.adv)) ∧
  (∀ {o : Nat} {S S1 : St}, tx t n S.p = 40 → o < 6 → R 11 none (o + 1) S.adv (.ok S1) → ¬ tx t n S1.p = 41 → R 6 none o S (.error (er 1 S1.p))) ∧
  (∀ {o : Nat} {S S1 : St} {r : Except Int32 St}, R 7 none o S (.ok S1) → R 8 none o S1 r → R 9 none o S r) ∧
  (∀ {o : Nat} {S : St} {e : Int32}, R 7 none o S (.error e) → R 9 none o S (.error e)) ∧
  (∀ {o : Nat} {S : St} {j : Option Nat}, ¬ tx t n S.p = 38 → R 8 j o S (.ok (S.land j))) ∧
  (∀ {o : Nat} {S S1 : St} {j : Option Nat} {r : Except Int32 St}, tx t n S.p = 38 → R 7 none o ((S.adv.land j).put 38 0) (.ok S1) → R 8 (some S.k) o S1 r → R 8 j o S r) ∧
  (∀ {o : Nat} {S : St} {j : Option Nat} {e : Int32}, tx t n S.p = 38 → R 7 none o ((S.adv.land j).put 38 0) (.error e) → R 8 j o S (.error e)) ∧
  (∀ {o : Nat} {S S1 : St} {r : Except Int32 St}, R 9 none o S (.ok S1) → R 10 none o S1 r → R 11 none o S r) ∧
  (∀ {o : Nat} {S : St} {e : Int32}, R 9 none o S (.error e) → R 11 none o S (.error e)) ∧
  (∀ {o : Nat} {S : St} {j : Option Nat}, ¬ tx t n S.p = 124 → R 10 j o S (.ok (S.land j))) ∧
  (∀ {o : Nat} {S S1 : St} {j : Option Nat} {r : Except Int32 St}, tx t n S.p = 124 → R 9 none o ((S.adv.land j).put 124 0) (.ok S1) → R 10 (some S.k) o S1 r → R 10 j o S r) ∧
  (∀ {o : Nat} {S : St} {j : Option Nat} {e : Int32}, tx t n S.p = 124 → R 9 none o ((S.adv.land j).put 124 0) (.error e) → R 10 j o S (.error e))
def PL (t : Nat → Int32) (n : Nat) (K : Nat) (J : Option Nat) (o : Nat) (S : St) (r : Except Int32 St) : Prop := ∀ R : Nat → Option Nat → Nat → St → Except Int32 St → Prop, PLc t n R → R K J o S r
theorem PL.facB {t : Nat → Int32} {n : Nat} {o : Nat} {S S1 : St} (h0 : tx t n S.p = 91) (h1 : o < 6) (h2 : PL t n 4 none (o + 1) S.adv (.ok S1)) (h3 : tx t n S1.p = 93) : PL t n 0 none o S (.ok S1.adv) := fun R w => w.1 h0 h1 (h2 R w) h3
theorem PL.facX {t : Nat → Int32} {n : Nat} {o : Nat} {S S1 : St} (h0 : tx t n S.p = 91) (h1 : o < 6) (h2 : PL t n 4 none (o + 1) S.adv (.ok S1)) (h3 : ¬ tx t n S1.p = 93) : PL t n 0 none o S (.error (er 1 S1.p)) := fun R w => w.2.1 h0 h1 (h2 R w) h3
theorem PL.facE {t : Nat → Int32} {n : Nat} {o : Nat} {S : St} {e : Int32} (h0 : tx t n S.p = 91) (h1 : o < 6) (h2 : PL t n 4 none (o + 1) S.adv (.error e)) : PL t n 0 none o S (.error e) := fun R w => w.2.2.1 h0 h1 (h2 R w)
theorem PL.facO {t : Nat → Int32} {n : Nat} {o : Nat} {S : St} (h0 : tx t n S.p = 91) (h1 : ¬ o < 6) : PL t n 0 none o S (.error (er 5 S.p)) := fun R w => w.2.2.2.1 h0 h1
theorem PL.facL {t : Nat → Int32} {n : Nat} {o : Nat} {S : St} (h0 : ¬ tx t n S.p = 91) (h1 : ¬ fx (tx t n S.p) = -1) : PL t n 0 none o S (.ok (S.adv.put 97 (fx (tx t n S.p)))) := fun R w => w.2.2.2.2.1 h0 h1
theorem PL.facN {t : Nat → Int32} {n : Nat} {o : Nat} {S : St} {p' : Nat} {v : Int32} (h0 : ¬ tx t n S.p = 91) (h1 : fx (tx t n S.p) = -1) (h2 : numR t n S.p = .ok (p', v)) : PL t n 0 none o S (.ok ((S.goto p').put 48 v)) := fun R w => w.2.2.2.2.2.1 h0 h1 h2
theorem PL.facM {t : Nat → Int32} {n : Nat} {o : Nat} {S : St} {e : Int32} (h0 : ¬ tx t n S.p = 91) (h1 : fx (tx t n S.p) = -1) (h2 : numR t n S.p = .error e) : PL t n 0 none o S (.error e) := fun R w => w.2.2.2.2.2.2.1 h0 h1 h2
theorem PL.prodO {t : Nat → Int32} {n : Nat} {o : Nat} {S S1 : St} {r : Except Int32 St} (h0 : PL t n 0 none o S (.ok S1)) (h1 : PL t n 1 none o S1 r) : PL t n 2 none o S r := fun R w => w.2.2.2.2.2.2.2.1 (h0 R w) (h1 R w)
theorem PL.prodE {t : Nat → Int32} {n : Nat} {o : Nat} {S : St} {e : Int32} (h0 : PL t n 0 none o S (.error e)) : PL t n 2 none o S (.error e) := fun R w => w.2.2.2.2.2.2.2.2.1 (h0 R w)
theorem PL.prodZ {t : Nat → Int32} {n : Nat} {o : Nat} {S : St} (h0 : ¬ isT (tx t n S.p)) : PL t n 1 none o S (.ok S) := fun R w => w.2.2.2.2.2.2.2.2.2.1 h0
theorem PL.prodS {t : Nat → Int32} {n : Nat} {o : Nat} {S S1 : St} {r : Except Int32 St} (h0 : isT (tx t n S.p)) (h1 : PL t n 0 none o S.adv (.ok S1)) (h2 : PL t n 1 none o (S1.put (tx t n S.p) 0) r) : PL t n 1 none o S r := fun R w => w.2.2.2.2.2.2.2.2.2.2.1 h0 (h1 R w) (h2 R w)
theorem PL.prodF {t : Nat → Int32} {n : Nat} {o : Nat} {S : St} {e : Int32} (h0 : isT (tx t n S.p)) (h1 : PL t n 0 none o S.adv (.error e)) : PL t n 1 none o S (.error e) := fun R w => w.2.2.2.2.2.2.2.2.2.2.2.1 h0 (h1 R w)
theorem PL.sumO {t : Nat → Int32} {n : Nat} {o : Nat} {S S1 : St} {r : Except Int32 St} (h0 : PL t n 2 none o S (.ok S1)) (h1 : PL t n 3 none o S1 r) : PL t n 4 none o S r := fun R w => w.2.2.2.2.2.2.2.2.2.2.2.2.1 (h0 R w) (h1 R w)
theorem PL.sumE {t : Nat → Int32} {n : Nat} {o : Nat} {S : St} {e : Int32} (h0 : PL t n 2 none o S (.error e)) : PL t n 4 none o S (.error e) := fun R w => w.2.2.2.2.2.2.2.2.2.2.2.2.2.1 (h0 R w)
theorem PL.sumZ {t : Nat → Int32} {n : Nat} {o : Nat} {S : St} (h0 : ¬ isS (tx t n S.p)) : PL t n 3 none o S (.ok S) := fun R w => w.2.2.2.2.2.2.2.2.2.2.2.2.2.2.1 h0
theorem PL.sumS {t : Nat → Int32} {n : Nat} {o : Nat} {S S1 : St} {r : Except Int32 St} (h0 : isS (tx t n S.p)) (h1 : PL t n 2 none o S.adv (.ok S1)) (h2 : PL t n 3 none o (S1.put (tx t n S.p) 0) r) : PL t n 3 none o S r := fun R w => w.2.2.2.2.2.2.2.2.2.2.2.2.2.2.2.1 h0 (h1 R w) (h2 R w)
theorem PL.sumF {t : Nat → Int32} {n : Nat} {o : Nat} {S : St} {e : Int32} (h0 : isS (tx t n S.p)) (h1 : PL t n 2 none o S.adv (.error e)) : PL t n 3 none o S (.error e) := fun R w => w.2.2.2.2.2.2.2.2.2.2.2.2.2.2.2.2.1 h0 (h1 R w)
theorem PL.comE {t : Nat → Int32} {n : Nat} {o : Nat} {S : St} {e : Int32} (h0 : PL t n 4 none o S (.error e)) : PL t n 5 none o S (.error e) := fun R w => w.2.2.2.2.2.2.2.2.2.2.2.2.2.2.2.2.2.1 (h0 R w)
theorem PL.comX {t : Nat → Int32} {n : Nat} {o : Nat} {S S1 : St} (h0 : PL t n 4 none o S (.ok S1)) (h1 : ¬ isC (tx t n S1.p)) : PL t n 5 none o S (.error (er 1 S1.p)) := fun R w => w.2.2.2.2.2.2.2.2.2.2.2.2.2.2.2.2.2.2.1 (h0 R w) h1
theorem PL.comF {t : Nat → Int32} {n : Nat} {o : Nat} {S S1 : St} {e : Int32} (h0 : PL t n 4 none o S (.ok S1)) (h1 : isC (tx t n S1.p)) (h2 : PL t n 4 none o S1.adv (.error e)) : PL t n 5 none o S (.error e) := fun R w => w.2.2.2.2.2.2.2.2.2.2.2.2.2.2.2.2.2.2.2.1 (h0 R w) h1 (h2 R w)
theorem PL.comO {t : Nat → Int32} {n : Nat} {o : Nat} {S S1 S2 : St} (h0 : PL t n 4 none o S (.ok S1)) (h1 : isC (tx t n S1.p)) (h2 : PL t n 4 none o S1.adv (.ok S2)) : PL t n 5 none o S (.ok (S2.put (tx t n S1.p) 0)) := fun R w => w.2.2.2.2.2.2.2.2.2.2.2.2.2.2.2.2.2.2.2.2.1 (h0 R w) h1 (h2 R w)
theorem PL.tB {t : Nat → Int32} {n : Nat} {o : Nat} {S : St} {r : Except Int32 St} (h0 : tx t n S.p = 40) (h1 : PL t n 6 none o S r) : PL t n 7 none o S r := fun R w => w.2.2.2.2.2.2.2.2.2.2.2.2.2.2.2.2.2.2.2.2.2.1 h0 (h1 R w)
theorem PL.tO {t : Nat → Int32} {n : Nat} {o : Nat} {S : St} (h0 : tx t n S.p = 33) (h1 : ¬ o < 6) : PL t n 7 none o S (.error (er 5 S.p)) := fun R w => w.2.2.2.2.2.2.2.2.2.2.2.2.2.2.2.2.2.2.2.2.2.2.1 h0 h1
theorem PL.tE {t : Nat → Int32} {n : Nat} {o : Nat} {S : St} {e : Int32} (h0 : tx t n S.p = 33) (h1 : o < 6) (h2 : PL t n 7 none (o + 1) S.adv (.error e)) : PL t n 7 none o S (.error e) := fun R w => w.2.2.2.2.2.2.2.2.2.2.2.2.2.2.2.2.2.2.2.2.2.2.2.1 h0 h1 (h2 R w)
theorem PL.tN {t : Nat → Int32} {n : Nat} {o : Nat} {S S1 : St} (h0 : tx t n S.p = 33) (h1 : o < 6) (h2 : PL t n 7 none (o + 1) S.adv (.ok S1)) : PL t n 7 none o S (.ok (S1.put 33 0)) := fun R w => w.2.2.2.2.2.2.2.2.2.2.2.2.2.2.2.2.2.2.2.2.2.2.2.2.1 h0 h1 (h2 R w)
theorem PL.tC {t : Nat → Int32} {n : Nat} {o : Nat} {S : St} {r : Except Int32 St} (h0 : ¬ tx t n S.p = 40) (h1 : ¬ tx t n S.p = 33) (h2 : PL t n 5 none o S r) : PL t n 7 none o S r := fun R w => w.2.2.2.2.2.2.2.2.2.2.2.2.2.2.2.2.2.2.2.2.2.2.2.2.2.1 h0 h1 (h2 R w)
theorem PL.bX {t : Nat → Int32} {n : Nat} {o : Nat} {S : St} (h0 : ¬ tx t n S.p = 40) : PL t n 6 none o S (.error (er 1 S.p)) := fun R w => w.2.2.2.2.2.2.2.2.2.2.2.2.2.2.2.2.2.2.2.2.2.2.2.2.2.2.1 h0
theorem PL.bO {t : Nat → Int32} {n : Nat} {o : Nat} {S : St} (h0 : tx t n S.p = 40) (h1 : ¬ o < 6) : PL t n 6 none o S (.error (er 5 S.p)) := fun R w => w.2.2.2.2.2.2.2.2.2.2.2.2.2.2.2.2.2.2.2.2.2.2.2.2.2.2.2.1 h0 h1
theorem PL.bE {t : Nat → Int32} {n : Nat} {o : Nat} {S : St} {e : Int32} (h0 : tx t n S.p = 40) (h1 : o < 6) (h2 : PL t n 11 none (o + 1) S.adv (.error e)) : PL t n 6 none o S (.error e) := fun R w => w.2.2.2.2.2.2.2.2.2.2.2.2.2.2.2.2.2.2.2.2.2.2.2.2.2.2.2.2.1 h0 h1 (h2 R w)
theorem PL.bC {t : Nat → Int32} {n : Nat} {o : Nat} {S S1 : St} (h0 : tx t n S.p = 40) (h1 : o < 6) (h2 : PL t n 11 none (o + 1) S.adv (.ok S1)) (h3 : tx t n S1.p = 41) : PL t n 6 none o S (.ok S1.adv) := fun R w => w.2.2.2.2.2.2.2.2.2.2.2.2.2.2.2.2.2.2.2.2.2.2.2.2.2.2.2.2.2.1 h0 h1 (h2 R w) h3
theorem PL.bF {t : Nat → Int32} {n : Nat} {o : Nat} {S S1 : St} (h0 : tx t n S.p = 40) (h1 : o < 6) (h2 : PL t n 11 none (o + 1) S.adv (.ok S1)) (h3 : ¬ tx t n S1.p = 41) : PL t n 6 none o S (.error (er 1 S1.p)) := fun R w => w.2.2.2.2.2.2.2.2.2.2.2.2.2.2.2.2.2.2.2.2.2.2.2.2.2.2.2.2.2.2.1 h0 h1 (h2 R w) h3
theorem PL.parO {t : Nat → Int32} {n : Nat} {o : Nat} {S S1 : St} {r : Except Int32 St} (h0 : PL t n 7 none o S (.ok S1)) (h1 : PL t n 8 none o S1 r) : PL t n 9 none o S r := fun R w => w.2.2.2.2.2.2.2.2.2.2.2.2.2.2.2.2.2.2.2.2.2.2.2.2.2.2.2.2.2.2.2.1 (h0 R w) (h1 R w)
theorem PL.parE {t : Nat → Int32} {n : Nat} {o : Nat} {S : St} {e : Int32} (h0 : PL t n 7 none o S (.error e)) : PL t n 9 none o S (.error e) := fun R w => w.2.2.2.2.2.2.2.2.2.2.2.2.2.2.2.2.2.2.2.2.2.2.2.2.2.2.2.2.2.2.2.2.1 (h0 R w)
theorem PL.parZ {t : Nat → Int32} {n : Nat} {o : Nat} {S : St} {j : Option Nat} (h0 : ¬ tx t n S.p = 38) : PL t n 8 j o S (.ok (S.land j)) := fun R w => w.2.2.2.2.2.2.2.2.2.2.2.2.2.2.2.2.2.2.2.2.2.2.2.2.2.2.2.2.2.2.2.2.2.1 h0
theorem PL.parS {t : Nat → Int32} {n : Nat} {o : Nat} {S S1 : St} {j : Option Nat} {r : Except Int32 St} (h0 : tx t n S.p = 38) (h1 : PL t n 7 none o ((S.adv.land j).put 38 0) (.ok S1)) (h2 : PL t n 8 (some S.k) o S1 r) : PL t n 8 j o S r := fun R w => w.2.2.2.2.2.2.2.2.2.2.2.2.2.2.2.2.2.2.2.2.2.2.2.2.2.2.2.2.2.2.2.2.2.2.1 h0 (h1 R w) (h2 R w)
theorem PL.parF {t : Nat → Int32} {n : Nat} {o : Nat} {S : St} {j : Option Nat} {e : Int32} (h0 : tx t n S.p = 38) (h1 : PL t n 7 none o ((S.adv.land j).put 38 0) (.error e)) : PL t n 8 j o S (.error e) := fun R w => w.2.2.2.2.2.2.2.2.2.2.2.2.2.2.2.2.2.2.2.2.2.2.2.2.2.2.2.2.2.2.2.2.2.2.2.1 h0 (h1 R w)
theorem PL.conO {t : Nat → Int32} {n : Nat} {o : Nat} {S S1 : St} {r : Except Int32 St} (h0 : PL t n 9 none o S (.ok S1)) (h1 : PL t n 10 none o S1 r) : PL t n 11 none o S r := fun R w => w.2.2.2.2.2.2.2.2.2.2.2.2.2.2.2.2.2.2.2.2.2.2.2.2.2.2.2.2.2.2.2.2.2.2.2.2.1 (h0 R w) (h1 R w)
theorem PL.conE {t : Nat → Int32} {n : Nat} {o : Nat} {S : St} {e : Int32} (h0 : PL t n 9 none o S (.error e)) : PL t n 11 none o S (.error e) := fun R w => w.2.2.2.2.2.2.2.2.2.2.2.2.2.2.2.2.2.2.2.2.2.2.2.2.2.2.2.2.2.2.2.2.2.2.2.2.2.1 (h0 R w)
theorem PL.conZ {t : Nat → Int32} {n : Nat} {o : Nat} {S : St} {j : Option Nat} (h0 : ¬ tx t n S.p = 124) : PL t n 10 j o S (.ok (S.land j)) := fun R w => w.2.2.2.2.2.2.2.2.2.2.2.2.2.2.2.2.2.2.2.2.2.2.2.2.2.2.2.2.2.2.2.2.2.2.2.2.2.2.1 h0
theorem PL.conS {t : Nat → Int32} {n : Nat} {o : Nat} {S S1 : St} {j : Option Nat} {r : Except Int32 St} (h0 : tx t n S.p = 124) (h1 : PL t n 9 none o ((S.adv.land j).put 124 0) (.ok S1)) (h2 : PL t n 10 (some S.k) o S1 r) : PL t n 10 j o S r := fun R w => w.2.2.2.2.2.2.2.2.2.2.2.2.2.2.2.2.2.2.2.2.2.2.2.2.2.2.2.2.2.2.2.2.2.2.2.2.2.2.2.1 h0 (h1 R w) (h2 R w)
theorem PL.conF {t : Nat → Int32} {n : Nat} {o : Nat} {S : St} {j : Option Nat} {e : Int32} (h0 : tx t n S.p = 124) (h1 : PL t n 9 none o ((S.adv.land j).put 124 0) (.error e)) : PL t n 10 j o S (.error e) := fun R w => w.2.2.2.2.2.2.2.2.2.2.2.2.2.2.2.2.2.2.2.2.2.2.2.2.2.2.2.2.2.2.2.2.2.2.2.2.2.2.2.2 h0 (h1 R w)
theorem PL.ind {t : Nat → Int32} {n : Nat} {K : Nat} {J : Option Nat} {o : Nat} {S : St} {r : Except Int32 St} (M : Nat → Option Nat → Nat → St → Except Int32 St → Prop) (h : PL t n K J o S r)
  (facB : ∀ {o : Nat} {S S1 : St}, tx t n S.p = 91 → o < 6 → PL t n 4 none (o + 1) S.adv (.ok S1) → tx t n S1.p = 93 → M 4 none (o + 1) S.adv (.ok S1) → M 0 none o S (.ok S1.adv))
  (facX : ∀ {o : Nat} {S S1 : St}, tx t n S.p = 91 → o < 6 → PL t n 4 none (o + 1) S.adv (.ok S1) → ¬ tx t n S1.p = 93 → M 4 none (o + 1) S.adv (.ok S1) → M 0 none o S (.error (er 1 S1.p)))
  (facE : ∀ {o : Nat} {S : St} {e : Int32}, tx t n S.p = 91 → o < 6 → PL t n 4 none (o + 1) S.adv (.error e) → M 4 none (o + 1) S.adv (.error e) → M 0 none o S (.error e))
  (facO : ∀ {o : Nat} {S : St}, tx t n S.p = 91 → ¬ o < 6 → M 0 none o S (.error (er 5 S.p)))
  (facL : ∀ {o : Nat} {S : St}, ¬ tx t n S.p = 91 → ¬ fx (tx t n S.p) = -1 → M 0 none o S (.ok (S.adv.put 97 (fx (tx t n S.p)))))
  (facN : ∀ {o : Nat} {S : St} {p' : Nat} {v : Int32}, ¬ tx t n S.p = 91 → fx (tx t n S.p) = -1 → numR t n S.p = .ok (p', v) → M 0 none o S (.ok ((S.goto p').put 48 v)))
  (facM : ∀ {o : Nat} {S : St} {e : Int32}, ¬ tx t n S.p = 91 → fx (tx t n S.p) = -1 → numR t n S.p = .error e → M 0 none o S (.error e))
  (prodO : ∀ {o : Nat} {S S1 : St} {r : Except Int32 St}, PL t n 0 none o S (.ok S1) → PL t n 1 none o S1 r → M 0 none o S (.ok S1) → M 1 none o S1 r → M 2 none o S r)
  (prodE : ∀ {o : Nat} {S : St} {e : Int32}, PL t n 0 none o S (.error e) → M 0 none o S (.error e) → M 2 none o S (.error e))
  (prodZ : ∀ {o : Nat} {S : St}, ¬ isT (tx t n S.p) → M 1 none o S (.ok S))
  (prodS : ∀ {o : Nat} {S S1 : St} {r : Except Int32 St}, isT (tx t n S.p) → PL t n 0 none o S.adv (.ok S1) → PL t n 1 none o (S1.put (tx t n S.p) 0) r → M 0 none o S.adv (.ok S1) → M 1 none o (S1.put (tx t n S.p) 0) r → M 1 none o S r)
  (prodF : ∀ {o : Nat} {S : St} {e : Int32}, isT (tx t n S.p) → PL t n 0 none o S.adv (.error e) → M 0 none o S.adv (.error e) → M 1 none o S (.error e))
  (sumO : ∀ {o : Nat} {S S1 : St} {r : Except Int32 St}, PL t n 2 none o S (.ok S1) → PL t n 3 none o S1 r → M 2 none o S (.ok S1) → M 3 none o S1 r → M 4 none o S r)
  (sumE : ∀ {o : Nat} {S : St} {e : Int32}, PL t n 2 none o S (.error e) → M 2 none o S (.error e) → M 4 none o S (.error e))
  (sumZ : ∀ {o : Nat} {S : St}, ¬ isS (tx t n S.p) → M 3 none o S (.ok S))
  (sumS : ∀ {o : Nat} {S S1 : St} {r : Except Int32 St}, isS (tx t n S.p) → PL t n 2 none o S.adv (.ok S1) → PL t n 3 none o (S1.put (tx t n S.p) 0) r → M 2 none o S.adv (.ok S1) → M 3 none o (S1.put (tx t n S.p) 0) r → M 3 none o S r)
  (sumF : ∀ {o : Nat} {S : St} {e : Int32}, isS (tx t n S.p) → PL t n 2 none o S.adv (.error e) → M 2 none o S.adv (.error e) → M 3 none o S (.error e))
  (comE : ∀ {o : Nat} {S : St} {e : Int32}, PL t n 4 none o S (.error e) → M 4 none o S (.error e) → M 5 none o S (.error e))
  (comX : ∀ {o : Nat} {S S1 : St}, PL t n 4 none o S (.ok S1) → ¬ isC (tx t n S1.p) → M 4 none o S (.ok S1) → M 5 none o S (.error (er 1 S1.p)))
  (comF : ∀ {o : Nat} {S S1 : St} {e : Int32}, PL t n 4 none o S (.ok S1) → isC (tx t n S1.p) → PL t n 4 none o S1.adv (.error e) → M 4 none o S (.ok S1) → M 4 none o S1.adv (.error e) → M 5 none o S (.error e))
  (comO : ∀ {o : Nat} {S S1 S2 : St}, PL t n 4 none o S (.ok S1) → isC (tx t n S1.p) → PL t n 4 none o S1.adv (.ok S2) → M 4 none o S (.ok S1) → M 4 none o S1.adv (.ok S2) → M 5 none o S (.ok (S2.put (tx t n S1.p) 0)))
  (tB : ∀ {o : Nat} {S : St} {r : Except Int32 St}, tx t n S.p = 40 → PL t n 6 none o S r → M 6 none o S r → M 7 none o S r)
  (tO : ∀ {o : Nat} {S : St}, tx t n S.p = 33 → ¬ o < 6 → M 7 none o S (.error (er 5 S.p)))
  (tE : ∀ {o : Nat} {S : St} {e : Int32}, tx t n S.p = 33 → o < 6 → PL t n 7 none (o + 1) S.adv (.error e) → M 7 none (o + 1) S.adv (.error e) → M 7 none o S (.error e))
  (tN : ∀ {o : Nat} {S S1 : St}, tx t n S.p = 33 → o < 6 → PL t n 7 none (o + 1) S.adv (.ok S1) → M 7 none (o + 1) S.adv (.ok S1) → M 7 none o S (.ok (S1.put 33 0)))
  (tC : ∀ {o : Nat} {S : St} {r : Except Int32 St}, ¬ tx t n S.p = 40 → ¬ tx t n S.p = 33 → PL t n 5 none o S r → M 5 none o S r → M 7 none o S r)
  (bX : ∀ {o : Nat} {S : St}, ¬ tx t n S.p = 40 → M 6 none o S (.error (er 1 S.p)))
  (bO : ∀ {o : Nat} {S : St}, tx t n S.p = 40 → ¬ o < 6 → M 6 none o S (.error (er 5 S.p)))
  (bE : ∀ {o : Nat} {S : St} {e : Int32}, tx t n S.p = 40 → o < 6 → PL t n 11 none (o + 1) S.adv (.error e) → M 11 none (o + 1) S.adv (.error e) → M 6 none o S (.error e))
  (bC : ∀ {o : Nat} {S S1 : St}, tx t n S.p = 40 → o < 6 → PL t n 11 none (o + 1) S.adv (.ok S1) → tx t n S1.p = 41 → M 11 none (o + 1) S.adv (.ok S1) → M 6 none o S (.ok S1.adv))
  (bF : ∀ {o : Nat} {S S1 : St}, tx t n S.p = 40 → o < 6 → PL t n 11 none (o + 1) S.adv (.ok S1) → ¬ tx t n S1.p = 41 → M 11 none (o + 1) S.adv (.ok S1) → M 6 none o S (.error (er 1 S1.p)))
  (parO : ∀ {o : Nat} {S S1 : St} {r : Except Int32 St}, PL t n 7 none o S (.ok S1) → PL t n 8 none o S1 r → M 7 none o S (.ok S1) → M 8 none o S1 r → M 9 none o S r)
  (parE : ∀ {o : Nat} {S : St} {e : Int32}, PL t n 7 none o S (.error e) → M 7 none o S (.error e) → M 9 none o S (.error e))
  (parZ : ∀ {o : Nat} {S : St} {j : Option Nat}, ¬ tx t n S.p = 38 → M 8 j o S (.ok (S.land j)))
  (parS : ∀ {o : Nat} {S S1 : St} {j : Option Nat} {r : Except Int32 St}, tx t n S.p = 38 → PL t n 7 none o ((S.adv.land j).put 38 0) (.ok S1) → PL t n 8 (some S.k) o S1 r → M 7 none o ((S.adv.land j).put 38 0) (.ok S1) → M 8 (some S.k) o S1 r → M 8 j o S r)
  (parF : ∀ {o : Nat} {S : St} {j : Option Nat} {e : Int32}, tx t n S.p = 38 → PL t n 7 none o ((S.adv.land j).put 38 0) (.error e) → M 7 none o ((S.adv.land j).put 38 0) (.error e) → M 8 j o S (.error e))
  (conO : ∀ {o : Nat} {S S1 : St} {r : Except Int32 St}, PL t n 9 none o S (.ok S1) → PL t n 10 none o S1 r → M 9 none o S (.ok S1) → M 10 none o S1 r → M 11 none o S r)
  (conE : ∀ {o : Nat} {S : St} {e : Int32}, PL t n 9 none o S (.error e) → M 9 none o S (.error e) → M 11 none o S (.error e))
  (conZ : ∀ {o : Nat} {S : St} {j : Option Nat}, ¬ tx t n S.p = 124 → M 10 j o S (.ok (S.land j)))
  (conS : ∀ {o : Nat} {S S1 : St} {j : Option Nat} {r : Except Int32 St}, tx t n S.p = 124 → PL t n 9 none o ((S.adv.land j).put 124 0) (.ok S1) → PL t n 10 (some S.k) o S1 r → M 9 none o ((S.adv.land j).put 124 0) (.ok S1) → M 10 (some S.k) o S1 r → M 10 j o S r)
  (conF : ∀ {o : Nat} {S : St} {j : Option Nat} {e : Int32}, tx t n S.p = 124 → PL t n 9 none o ((S.adv.land j).put 124 0) (.error e) → M 9 none o ((S.adv.land j).put 124 0) (.error e) → M 10 j o S (.error e))
  : M K J o S r := by
  have := h (fun K J o S r => PL t n K J o S r ∧ M K J o S r) ⟨
    (fun a0 a1 a2 a3 => ⟨PL.facB a0 a1 a2.1 a3, facB a0 a1 a2.1 a3 a2.2⟩),
    (fun a0 a1 a2 a3 => ⟨PL.facX a0 a1 a2.1 a3, facX a0 a1 a2.1 a3 a2.2⟩),
    (fun a0 a1 a2 => ⟨PL.facE a0 a1 a2.1, facE a0 a1 a2.1 a2.2⟩),
    (fun a0 a1 => ⟨PL.facO a0 a1, facO a0 a1 ⟩),
    (fun a0 a1 => ⟨PL.facL a0 a1, facL a0 a1 ⟩),
    (fun a0 a1 a2 => ⟨PL.facN a0 a1 a2, facN a0 a1 a2 ⟩),
    (fun a0 a1 a2 => ⟨PL.facM a0 a1 a2, facM a0 a1 a2 ⟩),
    (fun a0 a1 => ⟨PL.prodO a0.1 a1.1, prodO a0.1 a1.1 a0.2 a1.2⟩),
    (fun a0 => ⟨PL.prodE a0.1, prodE a0.1 a0.2⟩),
    (fun a0 => ⟨PL.prodZ a0, prodZ a0 ⟩),
    (fun a0 a1 a2 => ⟨PL.prodS a0 a1.1 a2.1, prodS a0 a1.1 a2.1 a1.2 a2.2⟩),
    (fun a0 a1 => ⟨PL.prodF a0 a1.1, prodF a0 a1.1 a1.2⟩),
    (fun a0 a1 => ⟨PL.sumO a0.1 a1.1, sumO a0.1 a1.1 a0.2 a1.2⟩),
    (fun a0 => ⟨PL.sumE a0.1, sumE a0.1 a0.2⟩),
    (fun a0 => ⟨PL.sumZ a0, sumZ a0 ⟩),
    (fun a0 a1 a2 => ⟨PL.sumS a0 a1.1 a2.1, sumS a0 a1.1 a2.1 a1.2 a2.2⟩),
    (fun a0 a1 => ⟨PL.sumF a0 a1.1, sumF a0 a1.1 a1.2⟩),
    (fun a0 => ⟨PL.comE a0.1, comE a0.1 a0.2⟩),
    (fun a0 a1 => ⟨PL.comX a0.1 a1, comX a0.1 a1 a0.2⟩),
    (fun a0 a1 a2 => ⟨PL.comF a0.1 a1 a2.1, comF a0.1 a1 a2.1 a0.2 a2.2⟩),
    (fun a0 a1 a2 => ⟨PL.comO a0.1 a1 a2.1, comO a0.1 a1 a2.1 a0.2 a2.2⟩),
    (fun a0 a1 => ⟨PL.tB a0 a1.1, tB a0 a1.1 a1.2⟩),
    (fun a0 a1 => ⟨PL.tO a0 a1, tO a0 a1 ⟩),
    (fun a0 a1 a2 => ⟨PL.tE a0 a1 a2.1, tE a0 a1 a2.1 a2.2⟩),
    (fun a0 a1 a2 => ⟨PL.tN a0 a1 a2.1, tN a0 a1 a2.1 a2.2⟩),
    (fun a0 a1 a2 => ⟨PL.tC a0 a1 a2.1, tC a0 a1 a2.1 a2.2⟩),
    (fun a0 => ⟨PL.bX a0, bX a0 ⟩),
    (fun a0 a1 => ⟨PL.bO a0 a1, bO a0 a1 ⟩),
    (fun a0 a1 a2 => ⟨PL.bE a0 a1 a2.1, bE a0 a1 a2.1 a2.2⟩),
    (fun a0 a1 a2 a3 => ⟨PL.bC a0 a1 a2.1 a3, bC a0 a1 a2.1 a3 a2.2⟩),
    (fun a0 a1 a2 a3 => ⟨PL.bF a0 a1 a2.1 a3, bF a0 a1 a2.1 a3 a2.2⟩),
    (fun a0 a1 => ⟨PL.parO a0.1 a1.1, parO a0.1 a1.1 a0.2 a1.2⟩),
    (fun a0 => ⟨PL.parE a0.1, parE a0.1 a0.2⟩),
    (fun a0 => ⟨PL.parZ a0, parZ a0 ⟩),
    (fun a0 a1 a2 => ⟨PL.parS a0 a1.1 a2.1, parS a0 a1.1 a2.1 a1.2 a2.2⟩),
    (fun a0 a1 => ⟨PL.parF a0 a1.1, parF a0 a1.1 a1.2⟩),
    (fun a0 a1 => ⟨PL.conO a0.1 a1.1, conO a0.1 a1.1 a0.2 a1.2⟩),
    (fun a0 => ⟨PL.conE a0.1, conE a0.1 a0.2⟩),
    (fun a0 => ⟨PL.conZ a0, conZ a0 ⟩),
    (fun a0 a1 a2 => ⟨PL.conS a0 a1.1 a2.1, conS a0 a1.1 a2.1 a1.2 a2.2⟩),
    (fun a0 a1 => ⟨PL.conF a0 a1.1, conF a0 a1.1 a1.2⟩)⟩
  exact this.2
theorem numL_in {t : Nat → Int32} {n p : Nat} {p' : Nat} {v : Int32} : ∀ (r k m : Nat), k + r = 5 → p + k ≤ n → nv t n p k = nI m → m < 10 ^ k → numL t n p r k = .ok (p', v) → p + k ≤ p' ∧ p' ≤ n ∧ isN v 99999 := by
  intro r
  induction r with
  | zero =>
    intro k m hk hkn hm hml h
    have e1 : k = 5 := by omega
    subst e1
    unfold numL at h
    by_cases c : dg t n (p + 5)
    · rw [if_pos c] at h; exact absurd h (by simp)
    · rw [if_neg c] at h
      have := Except.ok.inj h
      injection this with a b
      subst a b
      exact ⟨by omega, hkn, by rw [hm]; exact nI_isN (by omega) (by omega)⟩
  | succ r ih =>
    intro k m hk hkn hm hml h
    unfold numL at h
    by_cases c : dg t n (p + k)
    · rw [if_pos c] at h
      have hin := dg_in c
      obtain ⟨j, hj⟩ : ∃ j : Nat, j ≤ 9 ∧ tx t n (p + k) = nI (48 + j) := by
        have h1 : 48 ≤ (tx t n (p + k)).toInt := Int32.le_iff_toInt_le.mp c.1
        have h2 : (tx t n (p + k)).toInt ≤ 57 := Int32.le_iff_toInt_le.mp c.2
        obtain ⟨i, hi, ei⟩ := isN_nI (x := tx t n (p + k)) (K := 57) ⟨by omega, h2⟩ (by omega)
        rw [ei, nI_toInt (by omega)] at h1
        exact ⟨i - 48, by omega, by rw [ei]; congr 1; omega⟩
      have e2 : nv t n p (k + 1) = nI (10 * m + j) := by
        show 10 * nv t n p k + tx t n (p + k) - 48 = _
        rw [hm, hj.2, show (10 : Int32) = nI 10 from rfl, pk_mul, nI_add, show 10 * m + (48 + j) = (10 * m + j) + 48 by omega, ← nI_add, show (48 : Int32) = nI 48 from rfl, Int32.add_sub_cancel]
      have := ih (k + 1) (10 * m + j) (by omega) (by omega) e2 (by rw [Nat.pow_succ]; omega) h
      exact ⟨by omega, this.2⟩
    · rw [if_neg c] at h
      have := Except.ok.inj h
      injection this with a b
      subst a b
      have : 10 ^ k ≤ 10 ^ 5 := Nat.pow_le_pow_right (by omega) (by omega)
      exact ⟨by omega, hkn, by rw [hm]; exact nI_isN (by omega) (by omega)⟩
theorem numR_in {t : Nat → Int32} {n p p' : Nat} {v : Int32} (h : numR t n p = .ok (p', v)) : p < p' ∧ p' ≤ n ∧ isN v 99999 := by
  unfold numR at h
  by_cases c : dg t n p
  · rw [if_pos c] at h
    have hin := dg_in c
    unfold numL at h
    rw [if_pos (by exact c)] at h
    obtain ⟨j, hj⟩ : ∃ j : Nat, j ≤ 9 ∧ tx t n p = nI (48 + j) := by
      have h1 : 48 ≤ (tx t n p).toInt := Int32.le_iff_toInt_le.mp c.1
      have h2 : (tx t n p).toInt ≤ 57 := Int32.le_iff_toInt_le.mp c.2
      obtain ⟨i, hi, ei⟩ := isN_nI (x := tx t n p) (K := 57) ⟨by omega, h2⟩ (by omega)
      rw [ei, nI_toInt (by omega)] at h1
      exact ⟨i - 48, by omega, by rw [ei]; congr 1; omega⟩
    have e2 : nv t n p 1 = nI j := by
      show 10 * (0 : Int32) + tx t n (p + 0) - 48 = _
      rw [Nat.add_zero, hj.2, show 48 + j = j + 48 by omega, ← nI_add, show (48 : Int32) = nI 48 from rfl, show (10 : Int32) * 0 = 0 from rfl, Int32.zero_add, Int32.add_sub_cancel]
    have := numL_in 4 1 j (by omega) (by omega) e2 (by omega) h
    exact ⟨by omega, this.2⟩
  · rw [if_neg c] at h; exact absurd h (by simp)
theorem fx_in {t : Nat → Int32} {n p : Nat} (h : ¬ fx (tx t n p) = -1) : p < n := by
  refine tx_in (c := tx t n p) rfl (fun z => h ?_)
  rw [z]; rfl
abbrev strK (K : Nat) : Prop := K ≠ 1 ∧ K ≠ 3 ∧ K ≠ 8 ∧ K ≠ 10
theorem St.adv_p (S : St) : S.adv.p = S.p + 1 := rfl
theorem St.adv_k (S : St) : S.adv.k = S.k := rfl
theorem St.put_p (S : St) (c w : Int32) : (S.put c w).p = S.p := rfl
theorem St.put_k (S : St) (c w : Int32) : (S.put c w).k = S.k + 1 := rfl
theorem St.goto_p (S : St) (p : Nat) : (S.goto p).p = p := rfl
theorem St.goto_k (S : St) (p : Nat) : (S.goto p).k = S.k := rfl
theorem St.land_p (S : St) (j : Option Nat) : (S.land j).p = S.p := by cases j <;> rfl
theorem St.land_k (S : St) (j : Option Nat) : (S.land j).k = S.k := by cases j <;> rfl
/-- places and steps: each step eats a sign -/
theorem PL.len {t : Nat → Int32} {n : Nat} {K : Nat} {J : Option Nat} {o : Nat} {S : St} {r : Except Int32 St} (h : PL t n K J o S r) : ∀ S', r = .ok S' → S.p ≤ n → S'.p ≤ n ∧ S.k ≤ S'.k ∧ S'.k + S.p ≤ S'.p + S.k ∧ (strK K → S.p < S'.p ∧ S.k < S'.k) := by
  refine PL.ind (M := fun K J o S r => ∀ S', r = .ok S' → S.p ≤ n → S'.p ≤ n ∧ S.k ≤ S'.k ∧ S'.k + S.p ≤ S'.p + S.k ∧ (strK K → S.p < S'.p ∧ S.k < S'.k)) h ?facB ?facX ?facE ?facO ?facL ?facN ?facM ?prodO ?prodE ?prodZ ?prodS ?prodF ?sumO ?sumE ?sumZ ?sumS ?sumF ?comE ?comX ?comF ?comO ?tB ?tO ?tE ?tN ?tC ?bX ?bO ?bE ?bC ?bF ?parO ?parE ?parZ ?parS ?parF ?conO ?conE ?conZ ?conS ?conF
  case facB =>
    intro o S S1 h1 h2 _ h4 ih
    intro S' hr hp; cases hr
    have a := ih _ rfl (tx_in h1 (by decide))
    have b := tx_in h4 (by decide)
    have c := a.2.2.2 (by decide)
    simp only [St.adv_p, St.adv_k] at *
    exact ⟨by omega, by omega, by omega, fun _ => ⟨by omega, by omega⟩⟩
  case facL =>
    intro o S h1 h2
    intro S' hr hp; cases hr
    have b := fx_in h2
    simp only [St.adv_p, St.adv_k, St.put_p, St.put_k]
    exact ⟨by omega, by omega, by omega, fun _ => ⟨by omega, by omega⟩⟩
  case facN =>
    intro o S p' v h1 h2 h3
    intro S' hr hp; cases hr
    have b := numR_in h3
    simp only [St.goto_p, St.goto_k, St.put_p, St.put_k]
    exact ⟨by omega, by omega, by omega, fun _ => ⟨by omega, by omega⟩⟩
  case prodO =>
    intro o S S1 r _ _ i1 i2
    intro S' hr hp
    have a := i1 _ rfl hp
    have b := i2 _ hr a.1
    have c := a.2.2.2 (by decide)
    exact ⟨by omega, by omega, by omega, fun _ => ⟨by omega, by omega⟩⟩
  case sumO =>
    intro o S S1 r _ _ i1 i2
    intro S' hr hp
    have a := i1 _ rfl hp
    have b := i2 _ hr a.1
    have c := a.2.2.2 (by decide)
    exact ⟨by omega, by omega, by omega, fun _ => ⟨by omega, by omega⟩⟩
  case parO =>
    intro o S S1 r _ _ i1 i2
    intro S' hr hp
    have a := i1 _ rfl hp
    have b := i2 _ hr a.1
    have c := a.2.2.2 (by decide)
    exact ⟨by omega, by omega, by omega, fun _ => ⟨by omega, by omega⟩⟩
  case conO =>
    intro o S S1 r _ _ i1 i2
    intro S' hr hp
    have a := i1 _ rfl hp
    have b := i2 _ hr a.1
    have c := a.2.2.2 (by decide)
    exact ⟨by omega, by omega, by omega, fun _ => ⟨by omega, by omega⟩⟩
  case prodZ =>
    intro o S _
    intro S' hr hp; cases hr
    exact ⟨by omega, by omega, by omega, fun z => absurd z (by decide)⟩
  case sumZ =>
    intro o S _
    intro S' hr hp; cases hr
    exact ⟨by omega, by omega, by omega, fun z => absurd z (by decide)⟩
  case parZ =>
    intro o S j _
    intro S' hr hp; cases hr
    simp only [St.land_p, St.land_k]
    exact ⟨by omega, by omega, by omega, fun z => absurd z (by decide)⟩
  case conZ =>
    intro o S j _
    intro S' hr hp; cases hr
    simp only [St.land_p, St.land_k]
    exact ⟨by omega, by omega, by omega, fun z => absurd z (by decide)⟩
  case prodS =>
    intro o S S1 r h1 _ _ i1 i2
    intro S' hr hp
    have q := tx_in (c := tx t n _) rfl (fun z => by rw [z] at h1; revert h1; decide)
    have a := i1 _ rfl q
    simp only [St.adv_p, St.adv_k] at a
    have b := i2 _ hr a.1
    simp only [St.put_p, St.put_k] at b
    exact ⟨by omega, by omega, by omega, fun z => absurd z (by decide)⟩
  case sumS =>
    intro o S S1 r h1 _ _ i1 i2
    intro S' hr hp
    have q := tx_in (c := tx t n _) rfl (fun z => by rw [z] at h1; revert h1; decide)
    have a := i1 _ rfl q
    simp only [St.adv_p, St.adv_k] at a
    have b := i2 _ hr a.1
    simp only [St.put_p, St.put_k] at b
    exact ⟨by omega, by omega, by omega, fun z => absurd z (by decide)⟩
  case parS =>
    intro o S S1 j r h1 _ _ i1 i2
    intro S' hr hp
    have q := tx_in h1 (by decide)
    have a := i1 _ rfl (by simp only [St.adv_p, St.put_p, St.land_p]; omega)
    simp only [St.adv_p, St.adv_k, St.put_p, St.put_k, St.land_p, St.land_k] at a
    have b := i2 _ hr a.1
    exact ⟨by omega, by omega, by omega, fun z => absurd z (by decide)⟩
  case conS =>
    intro o S S1 j r h1 _ _ i1 i2
    intro S' hr hp
    have q := tx_in h1 (by decide)
    have a := i1 _ rfl (by simp only [St.adv_p, St.put_p, St.land_p]; omega)
    simp only [St.adv_p, St.adv_k, St.put_p, St.put_k, St.land_p, St.land_k] at a
    have b := i2 _ hr a.1
    exact ⟨by omega, by omega, by omega, fun z => absurd z (by decide)⟩
  case comO =>
    intro o S S1 S2 _ h2 _ i1 i2
    intro S' hr hp; cases hr
    have a := i1 _ rfl hp
    have q := tx_in (c := tx t n _) rfl (fun z => by rw [z] at h2; revert h2; decide)
    have b := i2 _ rfl q
    have c := b.2.2.2 (by decide)
    simp only [St.adv_p, St.adv_k, St.put_p, St.put_k] at *
    exact ⟨by omega, by omega, by omega, fun _ => ⟨by omega, by omega⟩⟩
  case tB =>
    intro o S r _ _ ih
    intro S' hr hp
    have a := ih S' hr hp
    exact ⟨a.1, a.2.1, a.2.2.1, fun _ => a.2.2.2 (by decide)⟩
  case tC =>
    intro o S r _ _ _ ih
    intro S' hr hp
    have a := ih S' hr hp
    exact ⟨a.1, a.2.1, a.2.2.1, fun _ => a.2.2.2 (by decide)⟩
  case tN =>
    intro o S S1 h1 _ _ ih
    intro S' hr hp; cases hr
    have a := ih _ rfl (tx_in h1 (by decide))
    simp only [St.adv_p, St.adv_k, St.put_p, St.put_k] at *
    exact ⟨by omega, by omega, by omega, fun _ => ⟨by omega, by omega⟩⟩
  case bC =>
    intro o S S1 h1 _ _ h4 ih
    intro S' hr hp; cases hr
    have a := ih _ rfl (tx_in h1 (by decide))
    have b := tx_in h4 (by decide)
    have c := a.2.2.2 (by decide)
    simp only [St.adv_p, St.adv_k] at *
    exact ⟨by omega, by omega, by omega, fun _ => ⟨by omega, by omega⟩⟩
  case facX => intros; contradiction
  case facE => intros; contradiction
  case facO => intros; contradiction
  case facM => intros; contradiction
  case prodE => intros; contradiction
  case prodF => intros; contradiction
  case sumE => intros; contradiction
  case sumF => intros; contradiction
  case comE => intros; contradiction
  case comX => intros; contradiction
  case comF => intros; contradiction
  case tO => intros; contradiction
  case tE => intros; contradiction
  case bX => intros; contradiction
  case bO => intros; contradiction
  case bE => intros; contradiction
  case bF => intros; contradiction
  case parE => intros; contradiction
  case parF => intros; contradiction
  case conE => intros; contradiction
  case conF => intros; contradiction
/-- every text is read, or has a fault -/
theorem PL.ex {t : Nat → Int32} {n : Nat} : ∀ (m : Nat) (K : Nat) (J : Option Nat) (o : Nat) (S : St), K < 12 → (K ≠ 8 → K ≠ 10 → J = none) → S.p ≤ n → (n - S.p) * 16 + K ≤ m → ∃ r, PL t n K J o S r := by
  intro m
  induction m using Nat.strongRecOn with
  | _ m IH =>
    intro K J o S hK hJ hp hm
    have sub : ∀ (K' : Nat) (J' : Option Nat) (o' : Nat) (S' : St), K' < 12 → (K' ≠ 8 → K' ≠ 10 → J' = none) → S'.p ≤ n → (S.p < S'.p ∨ (S.p ≤ S'.p ∧ K' < K)) → ∃ r, PL t n K' J' o' S' r := by
      intro K' J' o' S' k1 k2 h1 h2
      exact IH ((n - S'.p) * 16 + K') (by omega) K' J' o' S' k1 k2 h1 (Nat.le_refl _)
    have hc : K = 0 ∨ K = 1 ∨ K = 2 ∨ K = 3 ∨ K = 4 ∨ K = 5 ∨ K = 6 ∨ K = 7 ∨ K = 9 ∨ K = 11 ∨ K = 8 ∨ K = 10 := by omega
    clear hm IH
    rcases hc with hc | hc | hc | hc | hc | hc | hc | hc | hc | hc | hc | hc
    · subst hc
      have hj : J = none := hJ (by decide) (by decide)
      subst hj
      by_cases h1 : tx t n S.p = 91
      · have q := tx_in h1 (by decide)
        by_cases h2 : o < 6
        · obtain ⟨r, hr⟩ := sub 4 none (o + 1) S.adv (by decide) (fun _ _ => rfl) q (Or.inl (Nat.lt_succ_self _))
          cases r with
          | error e => exact ⟨_, PL.facE h1 h2 hr⟩
          | ok S1 =>
            by_cases h4 : tx t n S1.p = 93
            · exact ⟨_, PL.facB h1 h2 hr h4⟩
            · exact ⟨_, PL.facX h1 h2 hr h4⟩
        · exact ⟨_, PL.facO h1 h2⟩
      · by_cases h2 : fx (tx t n S.p) = -1
        · cases h3 : numR t n S.p with
          | error e => exact ⟨_, PL.facM h1 h2 h3⟩
          | ok w => exact ⟨_, PL.facN (p' := w.1) (v := w.2) h1 h2 h3⟩
        · exact ⟨_, PL.facL h1 h2⟩
    · subst hc
      have hj : J = none := hJ (by decide) (by decide)
      subst hj
      by_cases h1 : isT (tx t n S.p)
      · have q := tx_in (c := tx t n S.p) rfl (fun z => by rw [z] at h1; revert h1; decide)
        obtain ⟨r, hr⟩ := sub 0 none o S.adv (by decide) (fun _ _ => rfl) q (Or.inl (Nat.lt_succ_self _))
        cases r with
        | error e => exact ⟨_, PL.prodF h1 hr⟩
        | ok S1 =>
          have l := hr.len _ rfl q
          simp only [St.adv_p, St.adv_k] at l
          have l2 := l.2.2.2 (by decide)
          obtain ⟨r2, hr2⟩ := sub 1 none o (S1.put (tx t n S.p) 0) (by decide) (fun _ _ => rfl) l.1 (Or.inl (by simp only [St.put_p]; omega))
          exact ⟨_, PL.prodS h1 hr hr2⟩
      · exact ⟨_, PL.prodZ h1⟩
    · subst hc
      have hj : J = none := hJ (by decide) (by decide)
      subst hj
      obtain ⟨r, hr⟩ := sub 0 none o S (by decide) (fun _ _ => rfl) hp (Or.inr ⟨Nat.le_refl _, by omega⟩)
      cases r with
      | error e => exact ⟨_, PL.prodE hr⟩
      | ok S1 =>
        have l := hr.len _ rfl hp
        obtain ⟨r2, hr2⟩ := sub 1 none o S1 (by decide) (fun _ _ => rfl) l.1 (Or.inl (l.2.2.2 (by decide)).1)
        exact ⟨_, PL.prodO hr hr2⟩
    · subst hc
      have hj : J = none := hJ (by decide) (by decide)
      subst hj
      by_cases h1 : isS (tx t n S.p)
      · have q := tx_in (c := tx t n S.p) rfl (fun z => by rw [z] at h1; revert h1; decide)
        obtain ⟨r, hr⟩ := sub 2 none o S.adv (by decide) (fun _ _ => rfl) q (Or.inl (Nat.lt_succ_self _))
        cases r with
        | error e => exact ⟨_, PL.sumF h1 hr⟩
        | ok S1 =>
          have l := hr.len _ rfl q
          simp only [St.adv_p, St.adv_k] at l
          have l2 := l.2.2.2 (by decide)
          obtain ⟨r2, hr2⟩ := sub 3 none o (S1.put (tx t n S.p) 0) (by decide) (fun _ _ => rfl) l.1 (Or.inl (by simp only [St.put_p]; omega))
          exact ⟨_, PL.sumS h1 hr hr2⟩
      · exact ⟨_, PL.sumZ h1⟩
    · subst hc
      have hj : J = none := hJ (by decide) (by decide)
      subst hj
      obtain ⟨r, hr⟩ := sub 2 none o S (by decide) (fun _ _ => rfl) hp (Or.inr ⟨Nat.le_refl _, by omega⟩)
      cases r with
      | error e => exact ⟨_, PL.sumE hr⟩
      | ok S1 =>
        have l := hr.len _ rfl hp
        obtain ⟨r2, hr2⟩ := sub 3 none o S1 (by decide) (fun _ _ => rfl) l.1 (Or.inl (l.2.2.2 (by decide)).1)
        exact ⟨_, PL.sumO hr hr2⟩
    · subst hc
      have hj : J = none := hJ (by decide) (by decide)
      subst hj
      obtain ⟨r, hr⟩ := sub 4 none o S (by decide) (fun _ _ => rfl) hp (Or.inr ⟨Nat.le_refl _, by omega⟩)
      cases r with
      | error e => exact ⟨_, PL.comE hr⟩
      | ok S1 =>
        have l := hr.len _ rfl hp
        have l2 := l.2.2.2 (by decide)
        by_cases h2 : isC (tx t n S1.p)
        · have q := tx_in (c := tx t n S1.p) rfl (fun z => by rw [z] at h2; revert h2; decide)
          obtain ⟨r2, hr2⟩ := sub 4 none o S1.adv (by decide) (fun _ _ => rfl) q (Or.inl (by simp only [St.adv_p]; omega))
          cases r2 with
          | error e => exact ⟨_, PL.comF hr h2 hr2⟩
          | ok S2 => exact ⟨_, PL.comO hr h2 hr2⟩
        · exact ⟨_, PL.comX hr h2⟩
    · subst hc
      have hj : J = none := hJ (by decide) (by decide)
      subst hj
      by_cases h1 : tx t n S.p = 40
      · have q := tx_in h1 (by decide)
        by_cases h2 : o < 6
        · obtain ⟨r, hr⟩ := sub 11 none (o + 1) S.adv (by decide) (fun _ _ => rfl) q (Or.inl (Nat.lt_succ_self _))
          cases r with
          | error e => exact ⟨_, PL.bE h1 h2 hr⟩
          | ok S1 =>
            by_cases h4 : tx t n S1.p = 41
            · exact ⟨_, PL.bC h1 h2 hr h4⟩
            · exact ⟨_, PL.bF h1 h2 hr h4⟩
        · exact ⟨_, PL.bO h1 h2⟩
      · exact ⟨_, PL.bX h1⟩
    · subst hc
      have hj : J = none := hJ (by decide) (by decide)
      subst hj
      by_cases h1 : tx t n S.p = 40
      · obtain ⟨r, hr⟩ := sub 6 none o S (by decide) (fun _ _ => rfl) hp (Or.inr ⟨Nat.le_refl _, by omega⟩)
        exact ⟨_, PL.tB h1 hr⟩
      · by_cases h2 : tx t n S.p = 33
        · have q := tx_in h2 (by decide)
          by_cases h3 : o < 6
          · obtain ⟨r, hr⟩ := sub 7 none (o + 1) S.adv (by decide) (fun _ _ => rfl) q (Or.inl (Nat.lt_succ_self _))
            cases r with
            | error e => exact ⟨_, PL.tE h2 h3 hr⟩
            | ok S1 => exact ⟨_, PL.tN h2 h3 hr⟩
          · exact ⟨_, PL.tO h2 h3⟩
        · obtain ⟨r, hr⟩ := sub 5 none o S (by decide) (fun _ _ => rfl) hp (Or.inr ⟨Nat.le_refl _, by omega⟩)
          exact ⟨_, PL.tC h1 h2 hr⟩
    · subst hc
      have hj : J = none := hJ (by decide) (by decide)
      subst hj
      obtain ⟨r, hr⟩ := sub 7 none o S (by decide) (fun _ _ => rfl) hp (Or.inr ⟨Nat.le_refl _, by omega⟩)
      cases r with
      | error e => exact ⟨_, PL.parE hr⟩
      | ok S1 =>
        have l := hr.len _ rfl hp
        obtain ⟨r2, hr2⟩ := sub 8 none o S1 (by decide) (fun _ _ => rfl) l.1 (Or.inl (l.2.2.2 (by decide)).1)
        exact ⟨_, PL.parO hr hr2⟩
    · subst hc
      have hj : J = none := hJ (by decide) (by decide)
      subst hj
      obtain ⟨r, hr⟩ := sub 9 none o S (by decide) (fun _ _ => rfl) hp (Or.inr ⟨Nat.le_refl _, by omega⟩)
      cases r with
      | error e => exact ⟨_, PL.conE hr⟩
      | ok S1 =>
        have l := hr.len _ rfl hp
        obtain ⟨r2, hr2⟩ := sub 10 none o S1 (by decide) (fun _ _ => rfl) l.1 (Or.inl (l.2.2.2 (by decide)).1)
        exact ⟨_, PL.conO hr hr2⟩
    · subst hc
      by_cases h1 : tx t n S.p = 38
      · have q := tx_in h1 (by decide)
        obtain ⟨r, hr⟩ := sub 7 none o ((S.adv.land J).put 38 0) (by decide) (fun _ _ => rfl) (by simp only [St.put_p, St.land_p, St.adv_p]; omega) (Or.inl (by simp only [St.put_p, St.land_p, St.adv_p]; omega))
        cases r with
        | error e => exact ⟨_, PL.parF h1 hr⟩
        | ok S1 =>
          have l := hr.len _ rfl (by simp only [St.put_p, St.land_p, St.adv_p]; omega)
          simp only [St.put_p, St.land_p, St.adv_p] at l
          obtain ⟨r2, hr2⟩ := sub 8 (some S.k) o S1 (by decide) (fun a b => by omega) l.1 (Or.inl (by have := (l.2.2.2 (by decide)).1; omega))
          exact ⟨_, PL.parS h1 hr hr2⟩
      · exact ⟨_, PL.parZ h1⟩
    · subst hc
      by_cases h1 : tx t n S.p = 124
      · have q := tx_in h1 (by decide)
        obtain ⟨r, hr⟩ := sub 9 none o ((S.adv.land J).put 124 0) (by decide) (fun _ _ => rfl) (by simp only [St.put_p, St.land_p, St.adv_p]; omega) (Or.inl (by simp only [St.put_p, St.land_p, St.adv_p]; omega))
        cases r with
        | error e => exact ⟨_, PL.conF h1 hr⟩
        | ok S1 =>
          have l := hr.len _ rfl (by simp only [St.put_p, St.land_p, St.adv_p]; omega)
          simp only [St.put_p, St.land_p, St.adv_p] at l
          obtain ⟨r2, hr2⟩ := sub 10 (some S.k) o S1 (by decide) (fun a b => by omega) l.1 (Or.inl (by have := (l.2.2.2 (by decide)).1; omega))
          exact ⟨_, PL.conS h1 hr hr2⟩
      · exact ⟨_, PL.conZ h1⟩
