/-- one call of the law: the class answers r, then the reference answers r, and the two stand together again -/
def OPC (G : GC) (RR : Bool → FF → Prop) (M1 M2 : MR) (a1 a2 : List Value) : Prop := ∀ (sw : Bool) (f : FF), RR sw f → XP G M1 999 0 a1 [] sw f (fun v sw1 f1 => ∃ r : Int32, v = some (.int r) ∧ XP G M2 999 0 a2 [] sw1 f1 (fun v2 sw2 f2 => v2 = some (.int r) ∧ RR sw2 f2))
abbrev OP0 (G : GC) (RR : Bool → FF → Prop) : Prop := ∀ a1 a2 a3 : Int32, OPC G RR mX10_trunk mX11_trunk [.ref 0, .int a1, .int a2, .int a3] [.ref 82, .int a1, .int a2, .int a3]
abbrev OP1 (G : GC) (RR : Bool → FF → Prop) : Prop := ∀ a1 a2 a3 : Int32, (a3 = 0 ∨ a3 = 1) → OPC G RR mX10_subscriber mX11_subscriber [.ref 0, .int a1, .int a2, .int a3] [.ref 82, .int a1, .int a2, .int a3]
abbrev OP2 (G : GC) (RR : Bool → FF → Prop) : Prop := ∀ a1 : Int32, OPC G RR mX10_fund mX11_fund [.ref 0, .int a1] [.ref 82, .int a1]
abbrev OP3 (G : GC) (RR : Bool → FF → Prop) : Prop := ∀ a1 a2 : Int32, OPC G RR mX10_rate mX11_rate [.ref 0, .int a1, .int a2] [.ref 82, .int a1, .int a2]
abbrev OP4 (G : GC) (RR : Bool → FF → Prop) : Prop := ∀ a1 a2 a3 a4 a5 : Int32, OPC G RR mX10_feed mX11_feed [.ref 0, .int a1, .int a2, .int a3, .int a4, .int a5] [.ref 82, .int a1, .int a2, .int a3, .int a4, .int a5]
abbrev OP5 (G : GC) (RR : Bool → FF → Prop) : Prop := ∀ a1 : Int32, OPC G RR mX10_law mX11_law [.ref 0, .int a1, .null, .null] [.ref 82, .int a1, .null, .null]
abbrev OP6 (G : GC) (RR : Bool → FF → Prop) : Prop := ∀ a1 : Int32, OPC G RR mX10_bill mX11_bill [.ref 0, .int a1, .null] [.ref 82, .int a1, .null]
abbrev OP7 (G : GC) (RR : Bool → FF → Prop) : Prop := ∀ a1 a2 : Int32, OPC G RR mX10_code mX11_code [.ref 0, .int a1, .int a2] [.ref 82, .int a1, .int a2, .null, .null]
abbrev OP8 (G : GC) (RR : Bool → FF → Prop) : Prop := ∀ a1 : Int32, OPC G RR mX10_minutes mX11_minutes [.ref 0, .int a1] [.ref 82, .int a1]
abbrev OP9 (G : GC) (RR : Bool → FF → Prop) : Prop := ∀ a1 a2 : Int32, OPC G RR mX10_tried mX11_tried [.ref 0, .int a1, .int a2, .null] [.ref 82, .int a1, .int a2, .null]
abbrev OP10 (G : GC) (RR : Bool → FF → Prop) : Prop := ∀ a1 a2 : Int32, OPC G RR mX10_subscriberIs mX11_subscriberIs [.ref 0, .int a1, .int a2, .null] [.ref 82, .int a1, .int a2]
abbrev OP11 (G : GC) (RR : Bool → FF → Prop) : Prop := ∀ a1 a2 : Int32, OPC G RR mX10_callIs mX11_callIs [.ref 0, .int a1, .int a2] [.ref 82, .int a1, .int a2]
abbrev OP12 (G : GC) (RR : Bool → FF → Prop) : Prop := ∀ a1 a2 a3 : Int32, OPC G RR mX10_circuits mX11_circuits [.ref 0, .int a1, .int a2, .int a3, .null] [.ref 82, .int a1, .int a2, .int a3]
abbrev OP13 (G : GC) (RR : Bool → FF → Prop) : Prop := ∀ a1 a2 a3 : Int32, OPC G RR mX10_route mX11_route [.ref 0, .int a1, .int a2, .int a3, .null] [.ref 82, .int a1, .int a2, .int a3, .null]
abbrev OP14 (G : GC) (RR : Bool → FF → Prop) : Prop := ∀ a1 : Int32, OPC G RR mX10_fundLasts mX11_fundLasts [.ref 0, .int a1] [.ref 82, .int a1, .null, .null]
abbrev OP15 (G : GC) (RR : Bool → FF → Prop) : Prop := ∀ a1 a2 : Int32, OPC G RR mX10_atOnce mX11_atOnce [.ref 0, .int a1, .int a2] [.ref 82, .int a1, .int a2]
abbrev OP16 (G : GC) (RR : Bool → FF → Prop) : Prop := ∀ a1 a2 : Int32, OPC G RR mX10_stops mX11_stops [.ref 0, .int a1, .int a2] [.ref 82, .int a1, .int a2]
abbrev OP17 (G : GC) (RR : Bool → FF → Prop) : Prop := OPC G RR mX10_inTheMiddle mX11_inTheMiddle [.ref 0] [.ref 82, .null, .null, .null, .null, .null, .null, .null]
abbrev OP18 (G : GC) (RR : Bool → FF → Prop) : Prop := ∀ a1 a2 a3 : Int32, OPC G RR mX10_cut mX11_cut [.ref 0, .int a1, .int a2, .int a3] [.ref 82, .int a1, .int a2, .int a3, .null, .null, .null, .null]
abbrev OP19 (G : GC) (RR : Bool → FF → Prop) : Prop := ∀ a1 a2 a3 : Int32, OPC G RR mX10_heir mX11_heir [.ref 0, .int a1, .int a2, .int a3] [.ref 82, .int a1, .int a2, .int a3, .null, .null, .null]
abbrev OP20 (G : GC) (RR : Bool → FF → Prop) : Prop := ∀ a1 a2 : Int32, OPC G RR mX10_busy mX11_busy [.ref 0, .int a1, .int a2, .null] [.ref 82, .int a1, .int a2, .null, .null, .null]
abbrev OP21 (G : GC) (RR : Bool → FF → Prop) : Prop := ∀ a1 a2 a3 : Int32, OPC G RR mX10_cheapest mX11_cheapest [.ref 0, .int a1, .int a2, .int a3, .null] [.ref 82, .int a1, .int a2, .int a3, .null, .null]
abbrev OP22 (G : GC) (RR : Bool → FF → Prop) : Prop := ∀ a1 a2 : Int32, OPC G RR mX10_told mX11_told [.ref 0, .int a1, .int a2] [.ref 82, .int a1, .int a2, .null, .null]
abbrev OP23 (G : GC) (RR : Bool → FF → Prop) : Prop := ∀ a1 a2 a3 a4 : Int32, (a3 = 0 ∨ a3 = 1) → OPC G RR mX10_epitaph mX11_epitaph [.ref 0, .int a1, .int a2, .int a3, .int a4] [.ref 82, .int a1, .int a2, .int a3, .int a4, .null, .null]
abbrev OP24 (G : GC) (RR : Bool → FF → Prop) : Prop := ∀ a1 a2 : Int32, OPC G RR mX10_dialled mX11_dialled [.ref 0, .int a1, .int a2, .null, .null] [.ref 82, .int a1, .int a2, .null, .null, .null]
abbrev OP25 (G : GC) (RR : Bool → FF → Prop) : Prop := OPC G RR mX10_clear mX11_clear [.ref 0] [.ref 82, .null, .null]
abbrev OP26 (G : GC) (RR : Bool → FF → Prop) : Prop := ∀ a1 : Int32, OPC G RR mX10_freeCode mX11_freeCode [.ref 0, .int a1] [.ref 82, .int a1, .null, .null, .null, .null]
abbrev OP27 (G : GC) (RR : Bool → FF → Prop) : Prop := ∀ a1 : Int32, OPC G RR mX10_seed mX11_seed [.ref 0, .int a1] [.ref 82, .int a1]
abbrev OP28 (G : GC) (RR : Bool → FF → Prop) : Prop := OPC G RR mX10_keep mX11_keep [.ref 0] [.ref 82]
abbrev OP29 (G : GC) (RR : Bool → FF → Prop) : Prop := OPC G RR mX10_undo mX11_undo [.ref 0] [.ref 82]
abbrev OP30 (G : GC) (RR : Bool → FF → Prop) : Prop := ∀ a1 : Int32, OPC G RR mX10_check mX11_check [.ref 0, .int a1, .null] [.ref 82, .int a1, .null]
abbrev OP31 (G : GC) (RR : Bool → FF → Prop) : Prop := ∀ a1 : Int32, OPC G RR mX10_count mX11_count [.ref 0, .int a1] [.ref 82, .int a1, .null, .null]
theorem vinL {L i k : Nat} (hL : L ≤ 3072) (h : i + 6 ≤ L) (hk : k < 6) : vp_in (nI i + nI k) L := by rw [nI_add]; exact vp_in_nI (by omega) (by omega)
theorem lim6 {L i : Nat} (hL : L ≤ 3072) (hi : i ≤ L + 6) (h : ¬ (Int32.ofNat L - 6) < nI i) : i + 6 ≤ L := by
  have e6 : (6 : Int32) = nI 6 := rfl
  have h1 := Int32.not_lt.mp h
  have h2 := Int32.le_iff_toInt_le.mp h1
  rw [e6] at h2
  have e := pk_sub_toInt (a := L) (b := 6) (by omega) (by omega)
  have e' : (Int32.ofNat L - nI 6).toInt = (L : Int) - 6 := e
  rw [e', nI_toInt (by omega)] at h2
  omega
set_option maxHeartbeats 4000000 in
theorem law_loop {G : GC} {RR : Bool → FF → Prop} (hL : gL G ≤ 3072) (h0 : OP0 G RR) (h1 : OP1 G RR) (h2 : OP2 G RR) (h3 : OP3 G RR) (h4 : OP4 G RR) (h5 : OP5 G RR) (h6 : OP6 G RR) (h7 : OP7 G RR) (h8 : OP8 G RR) (h9 : OP9 G RR) (h10 : OP10 G RR) (h11 : OP11 G RR) (h12 : OP12 G RR) (h13 : OP13 G RR) (h14 : OP14 G RR) (h15 : OP15 G RR) (h16 : OP16 G RR) (h17 : OP17 G RR) (h18 : OP18 G RR) (h19 : OP19 G RR) (h20 : OP20 G RR) (h21 : OP21 G RR) (h22 : OP22 G RR) (h23 : OP23 G RR) (h24 : OP24 G RR) (h25 : OP25 G RR) (h26 : OP26 G RR) (h27 : OP27 G RR) (h28 : OP28 G RR) (h29 : OP29 G RR) (h30 : OP30 G RR) (h31 : OP31 G RR) : ∀ (n i : Nat) (sw : Bool) (f : FF), i ≤ gL G + 6 → gL G + 7 ≤ i + 6 * n + 6 → RR sw f → XP G mL_law 1000 18 [.retAddr 0, .ref 0, .ref 82, .int (nI i)] [] sw f (fun v _ _ => v = some (.int 1)) := by
  intro n
  induction n with
  | zero =>
    intro i sw f hi hn hR
    refine bL_law_18 (d := 986) (fun _ => rfl) (fun c => absurd (lim6 hL hi c) (by omega)) (fun c _ => absurd (lim6 hL hi c) (by omega)) (fun c _ => absurd (lim6 hL hi c) (by omega)) (fun c _ => absurd (lim6 hL hi c) (by omega)) (fun c _ => absurd (lim6 hL hi c) (by omega)) (fun c _ => absurd (lim6 hL hi c) (by omega)) (fun c _ => absurd (lim6 hL hi c) (by omega)) (fun c _ => absurd (lim6 hL hi c) (by omega)) (fun c _ _ => absurd (lim6 hL hi c) (by omega)) (fun c _ _ => absurd (lim6 hL hi c) (by omega)) (fun c _ => absurd (lim6 hL hi c) (by omega)) (fun c _ => absurd (lim6 hL hi c) (by omega)) (fun c _ => absurd (lim6 hL hi c) (by omega)) (fun c _ => absurd (lim6 hL hi c) (by omega)) (fun c _ => absurd (lim6 hL hi c) (by omega)) (fun c _ => absurd (lim6 hL hi c) (by omega)) (fun c _ => absurd (lim6 hL hi c) (by omega)) (fun c _ => absurd (lim6 hL hi c) (by omega)) (fun c _ => absurd (lim6 hL hi c) (by omega)) (fun c _ => absurd (lim6 hL hi c) (by omega)) (fun c _ => absurd (lim6 hL hi c) (by omega)) (fun c _ => absurd (lim6 hL hi c) (by omega)) (fun c _ => absurd (lim6 hL hi c) (by omega)) (fun c _ => absurd (lim6 hL hi c) (by omega)) (fun c _ => absurd (lim6 hL hi c) (by omega)) (fun c _ => absurd (lim6 hL hi c) (by omega)) (fun c _ => absurd (lim6 hL hi c) (by omega)) (fun c _ => absurd (lim6 hL hi c) (by omega)) (fun c _ => absurd (lim6 hL hi c) (by omega)) (fun c _ => absurd (lim6 hL hi c) (by omega)) (fun c _ => absurd (lim6 hL hi c) (by omega)) (fun c _ => absurd (lim6 hL hi c) (by omega)) (fun c _ => absurd (lim6 hL hi c) (by omega)) (fun c _ => absurd (lim6 hL hi c) (by omega)) (fun c _ => absurd (lim6 hL hi c) (by omega)) (fun c _ => absurd (lim6 hL hi c) (by omega)) (fun c _ => absurd (lim6 hL hi c) (by omega)) (fun c _ => absurd (lim6 hL hi c) (by omega)) (fun c _ => absurd (lim6 hL hi c) (by omega)) (fun c _ => absurd (lim6 hL hi c) (by omega)) (fun c _ => absurd (lim6 hL hi c) (by omega)) (fun c _ => absurd (lim6 hL hi c) (by omega)) (fun c _ => absurd (lim6 hL hi c) (by omega)) (fun c _ => absurd (lim6 hL hi c) (by omega)) (fun c _ => absurd (lim6 hL hi c) (by omega)) (fun c _ => absurd (lim6 hL hi c) (by omega)) (fun c _ => absurd (lim6 hL hi c) (by omega)) (fun c _ => absurd (lim6 hL hi c) (by omega)) (fun c _ => absurd (lim6 hL hi c) (by omega)) (fun c _ => absurd (lim6 hL hi c) (by omega)) (fun c _ => absurd (lim6 hL hi c) (by omega)) (fun c _ => absurd (lim6 hL hi c) (by omega)) (fun c _ => absurd (lim6 hL hi c) (by omega)) (fun c _ => absurd (lim6 hL hi c) (by omega)) (fun c _ => absurd (lim6 hL hi c) (by omega)) (fun c _ => absurd (lim6 hL hi c) (by omega)) (fun c _ => absurd (lim6 hL hi c) (by omega)) (fun c _ => absurd (lim6 hL hi c) (by omega)) (fun c _ => absurd (lim6 hL hi c) (by omega)) (fun c _ => absurd (lim6 hL hi c) (by omega)) (fun c _ => absurd (lim6 hL hi c) (by omega)) (fun c _ => absurd (lim6 hL hi c) (by omega)) (fun c _ => absurd (lim6 hL hi c) (by omega)) (fun c _ => absurd (lim6 hL hi c) (by omega)) (fun c _ => absurd (lim6 hL hi c) (by omega)) (fun c _ => absurd (lim6 hL hi c) (by omega)) (fun c _ => absurd (lim6 hL hi c) (by omega)) (fun c _ => absurd (lim6 hL hi c) (by omega)) (fun c _ => absurd (lim6 hL hi c) (by omega)) (fun c _ => absurd (lim6 hL hi c) (by omega)) (fun c _ => absurd (lim6 hL hi c) (by omega)) (fun c _ => absurd (lim6 hL hi c) (by omega)) (fun c _ => absurd (lim6 hL hi c) (by omega)) (fun c _ => absurd (lim6 hL hi c) (by omega)) (fun c _ => absurd (lim6 hL hi c) (by omega)) (fun c _ => absurd (lim6 hL hi c) (by omega)) (fun c _ => absurd (lim6 hL hi c) (by omega)) (fun c _ _ => absurd (lim6 hL hi c) (by omega)) (fun c _ _ => absurd (lim6 hL hi c) (by omega)) (fun c _ _ => absurd (lim6 hL hi c) (by omega)) (fun c _ _ => absurd (lim6 hL hi c) (by omega)) (fun c _ => absurd (lim6 hL hi c) (by omega)) (fun c _ => absurd (lim6 hL hi c) (by omega)) (fun c _ => absurd (lim6 hL hi c) (by omega)) (fun c _ => absurd (lim6 hL hi c) (by omega)) (fun c _ => absurd (lim6 hL hi c) (by omega)) (fun c _ => absurd (lim6 hL hi c) (by omega)) (fun c _ => absurd (lim6 hL hi c) (by omega)) (fun c _ => absurd (lim6 hL hi c) (by omega)) (fun c _ => absurd (lim6 hL hi c) (by omega)) (fun c _ => absurd (lim6 hL hi c) (by omega)) (fun c _ => absurd (lim6 hL hi c) (by omega)) (fun c _ => absurd (lim6 hL hi c) (by omega)) (fun c _ => absurd (lim6 hL hi c) (by omega)) (fun c _ => absurd (lim6 hL hi c) (by omega)) (fun c _ _ _ _ _ _ _ _ _ _ _ _ _ _ _ _ _ _ _ _ _ _ _ _ _ _ _ _ _ _ _ _ => absurd (lim6 hL hi c) (by omega))
  | succ n ih =>
    intro i sw f hi hn hR
    have ih6 : ∀ (sw : Bool) (f : FF), i + 6 ≤ gL G → RR sw f → XP G mL_law 1000 1214 [.retAddr 0, .ref 0, .ref 82, .int (nI i)] [] sw f (fun v _ _ => v = some (.int 1)) := fun sw f h6 hR => bL_law_1214 (d := 986) (by rw [show (6 : Int32) = nI 6 from rfl, nI_add]; exact ih (i + 6) sw f (by omega) (by omega) hR)
    refine bL_law_18 (d := 986) (fun _ => rfl) ?_ ?_ ?_ ?_ ?_ ?_ ?_ ?_ ?_ ?_ ?_ ?_ ?_ ?_ ?_ ?_ ?_ ?_ ?_ ?_ ?_ ?_ ?_ ?_ ?_ ?_ ?_ ?_ ?_ ?_ ?_ ?_ ?_ ?_ ?_ ?_ ?_ ?_ ?_ ?_ ?_ ?_ ?_ ?_ ?_ ?_ ?_ ?_ ?_ ?_ ?_ ?_ ?_ ?_ ?_ ?_ ?_ ?_ ?_ ?_ ?_ ?_ ?_ ?_ ?_ ?_ ?_ ?_ ?_ ?_ ?_ ?_ ?_ ?_ ?_ ?_ ?_ ?_ ?_ ?_ ?_ ?_ ?_ ?_ ?_ ?_ ?_ ?_ ?_ ?_ ?_ ?_ ?_ ?_ ?_ ?_
    · exact fun c => vp_in_nI (by have := lim6 hL hi c; omega) (by omega)
    · exact fun c c1 => vinL (k := 1) hL (lim6 hL hi c) (by omega)
    · exact fun c c1 => vinL (k := 2) hL (lim6 hL hi c) (by omega)
    · exact fun c c1 => vinL (k := 3) hL (lim6 hL hi c) (by omega)
    · intro c c1
      refine XP.mono (fun v sw1 f1 hv => ?_) (h0 _ _ _ sw f hR)
      obtain ⟨r, hv, hm⟩ := hv
      subst hv
      exact bL_law_195 (d := 986) (vinL (k := 1) hL (lim6 hL hi c) (by omega)) (vinL (k := 2) hL (lim6 hL hi c) (by omega)) (vinL (k := 3) hL (lim6 hL hi c) (by omega)) (XP.mono (fun v2 sw2 f2 hv2 => by obtain ⟨hv2, hR2⟩ := hv2; subst hv2; exact bL_law_214 (d := 986) (fun _ => ih6 sw2 f2 (lim6 hL hi c) hR2) (fun hne => absurd rfl hne)) hm)
    · exact fun c c1 => vinL (k := 1) hL (lim6 hL hi c) (by omega)
    · exact fun c c1 => vinL (k := 2) hL (lim6 hL hi c) (by omega)
    · exact fun c c1 => vinL (k := 3) hL (lim6 hL hi c) (by omega)
    · intro c c1 c2
      refine XP.mono (fun v sw1 f1 hv => ?_) (h1 _ _ _ (Or.inl rfl) sw f hR)
      obtain ⟨r, hv, hm⟩ := hv
      subst hv
      exact bL_law_246 (d := 986) (vinL (k := 1) hL (lim6 hL hi c) (by omega)) (vinL (k := 2) hL (lim6 hL hi c) (by omega)) (vinL (k := 3) hL (lim6 hL hi c) (by omega)) (fun _ => (XP.mono (fun v2 sw2 f2 hv2 => by obtain ⟨hv2, hR2⟩ := hv2; subst hv2; exact bL_law_273 (d := 986) (fun _ => ih6 sw2 f2 (lim6 hL hi c) hR2) (fun hne => absurd rfl hne)) hm)) (fun q => absurd c2 q)
    · intro c c1 c2
      refine XP.mono (fun v sw1 f1 hv => ?_) (h1 _ _ _ (Or.inr rfl) sw f hR)
      obtain ⟨r, hv, hm⟩ := hv
      subst hv
      exact bL_law_246 (d := 986) (vinL (k := 1) hL (lim6 hL hi c) (by omega)) (vinL (k := 2) hL (lim6 hL hi c) (by omega)) (vinL (k := 3) hL (lim6 hL hi c) (by omega)) (fun q => absurd q c2) (fun _ => (XP.mono (fun v2 sw2 f2 hv2 => by obtain ⟨hv2, hR2⟩ := hv2; subst hv2; exact bL_law_273 (d := 986) (fun _ => ih6 sw2 f2 (lim6 hL hi c) hR2) (fun hne => absurd rfl hne)) hm))
    · exact fun c c1 => vinL (k := 1) hL (lim6 hL hi c) (by omega)
    · intro c c1
      refine XP.mono (fun v sw1 f1 hv => ?_) (h2 _ sw f hR)
      obtain ⟨r, hv, hm⟩ := hv
      subst hv
      exact bL_law_287 (d := 986) (vinL (k := 1) hL (lim6 hL hi c) (by omega)) (XP.mono (fun v2 sw2 f2 hv2 => by obtain ⟨hv2, hR2⟩ := hv2; subst hv2; exact bL_law_296 (d := 986) (fun _ => ih6 sw2 f2 (lim6 hL hi c) hR2) (fun hne => absurd rfl hne)) hm)
    · exact fun c c1 => vinL (k := 1) hL (lim6 hL hi c) (by omega)
    · exact fun c c1 => vinL (k := 2) hL (lim6 hL hi c) (by omega)
    · intro c c1
      refine XP.mono (fun v sw1 f1 hv => ?_) (h3 _ _ sw f hR)
      obtain ⟨r, hv, hm⟩ := hv
      subst hv
      exact bL_law_315 (d := 986) (vinL (k := 1) hL (lim6 hL hi c) (by omega)) (vinL (k := 2) hL (lim6 hL hi c) (by omega)) (XP.mono (fun v2 sw2 f2 hv2 => by obtain ⟨hv2, hR2⟩ := hv2; subst hv2; exact bL_law_329 (d := 986) (fun _ => ih6 sw2 f2 (lim6 hL hi c) hR2) (fun hne => absurd rfl hne)) hm)
    · exact fun c c1 => vinL (k := 1) hL (lim6 hL hi c) (by omega)
    · exact fun c c1 => vinL (k := 2) hL (lim6 hL hi c) (by omega)
    · exact fun c c1 => vinL (k := 3) hL (lim6 hL hi c) (by omega)
    · exact fun c c1 => vinL (k := 4) hL (lim6 hL hi c) (by omega)
    · exact fun c c1 => vinL (k := 5) hL (lim6 hL hi c) (by omega)
    · intro c c1
      refine XP.mono (fun v sw1 f1 hv => ?_) (h4 _ _ _ _ _ sw f hR)
      obtain ⟨r, hv, hm⟩ := hv
      subst hv
      exact bL_law_363 (d := 986) (vinL (k := 1) hL (lim6 hL hi c) (by omega)) (vinL (k := 2) hL (lim6 hL hi c) (by omega)) (vinL (k := 3) hL (lim6 hL hi c) (by omega)) (vinL (k := 4) hL (lim6 hL hi c) (by omega)) (vinL (k := 5) hL (lim6 hL hi c) (by omega)) (XP.mono (fun v2 sw2 f2 hv2 => by obtain ⟨hv2, hR2⟩ := hv2; subst hv2; exact bL_law_392 (d := 986) (fun _ => ih6 sw2 f2 (lim6 hL hi c) hR2) (fun hne => absurd rfl hne)) hm)
    · exact fun c c1 => vinL (k := 1) hL (lim6 hL hi c) (by omega)
    · intro c c1
      refine XP.mono (fun v sw1 f1 hv => ?_) (h5 _ sw f hR)
      obtain ⟨r, hv, hm⟩ := hv
      subst hv
      exact bL_law_406 (d := 986) (vinL (k := 1) hL (lim6 hL hi c) (by omega)) (XP.mono (fun v2 sw2 f2 hv2 => by obtain ⟨hv2, hR2⟩ := hv2; subst hv2; exact bL_law_415 (d := 986) (fun _ => ih6 sw2 f2 (lim6 hL hi c) hR2) (fun hne => absurd rfl hne)) hm)
    · exact fun c c1 => vinL (k := 1) hL (lim6 hL hi c) (by omega)
    · intro c c1
      refine XP.mono (fun v sw1 f1 hv => ?_) (h6 _ sw f hR)
      obtain ⟨r, hv, hm⟩ := hv
      subst hv
      exact bL_law_429 (d := 986) (vinL (k := 1) hL (lim6 hL hi c) (by omega)) (XP.mono (fun v2 sw2 f2 hv2 => by obtain ⟨hv2, hR2⟩ := hv2; subst hv2; exact bL_law_438 (d := 986) (fun _ => ih6 sw2 f2 (lim6 hL hi c) hR2) (fun hne => absurd rfl hne)) hm)
    · exact fun c c1 => vinL (k := 1) hL (lim6 hL hi c) (by omega)
    · exact fun c c1 => vinL (k := 2) hL (lim6 hL hi c) (by omega)
    · intro c c1
      refine XP.mono (fun v sw1 f1 hv => ?_) (h7 _ _ sw f hR)
      obtain ⟨r, hv, hm⟩ := hv
      subst hv
      exact bL_law_457 (d := 986) (vinL (k := 1) hL (lim6 hL hi c) (by omega)) (vinL (k := 2) hL (lim6 hL hi c) (by omega)) (XP.mono (fun v2 sw2 f2 hv2 => by obtain ⟨hv2, hR2⟩ := hv2; subst hv2; exact bL_law_471 (d := 986) (fun _ => ih6 sw2 f2 (lim6 hL hi c) hR2) (fun hne => absurd rfl hne)) hm)
    · exact fun c c1 => vinL (k := 1) hL (lim6 hL hi c) (by omega)
    · intro c c1
      refine XP.mono (fun v sw1 f1 hv => ?_) (h8 _ sw f hR)
      obtain ⟨r, hv, hm⟩ := hv
      subst hv
      exact bL_law_485 (d := 986) (vinL (k := 1) hL (lim6 hL hi c) (by omega)) (XP.mono (fun v2 sw2 f2 hv2 => by obtain ⟨hv2, hR2⟩ := hv2; subst hv2; exact bL_law_494 (d := 986) (fun _ => ih6 sw2 f2 (lim6 hL hi c) hR2) (fun hne => absurd rfl hne)) hm)
    · exact fun c c1 => vinL (k := 1) hL (lim6 hL hi c) (by omega)
    · exact fun c c1 => vinL (k := 2) hL (lim6 hL hi c) (by omega)
    · intro c c1
      refine XP.mono (fun v sw1 f1 hv => ?_) (h9 _ _ sw f hR)
      obtain ⟨r, hv, hm⟩ := hv
      subst hv
      exact bL_law_513 (d := 986) (vinL (k := 1) hL (lim6 hL hi c) (by omega)) (vinL (k := 2) hL (lim6 hL hi c) (by omega)) (XP.mono (fun v2 sw2 f2 hv2 => by obtain ⟨hv2, hR2⟩ := hv2; subst hv2; exact bL_law_527 (d := 986) (fun _ => ih6 sw2 f2 (lim6 hL hi c) hR2) (fun hne => absurd rfl hne)) hm)
    · exact fun c c1 => vinL (k := 1) hL (lim6 hL hi c) (by omega)
    · exact fun c c1 => vinL (k := 2) hL (lim6 hL hi c) (by omega)
    · intro c c1
      refine XP.mono (fun v sw1 f1 hv => ?_) (h10 _ _ sw f hR)
      obtain ⟨r, hv, hm⟩ := hv
      subst hv
      exact bL_law_546 (d := 986) (vinL (k := 1) hL (lim6 hL hi c) (by omega)) (vinL (k := 2) hL (lim6 hL hi c) (by omega)) (XP.mono (fun v2 sw2 f2 hv2 => by obtain ⟨hv2, hR2⟩ := hv2; subst hv2; exact bL_law_560 (d := 986) (fun _ => ih6 sw2 f2 (lim6 hL hi c) hR2) (fun hne => absurd rfl hne)) hm)
    · exact fun c c1 => vinL (k := 1) hL (lim6 hL hi c) (by omega)
    · exact fun c c1 => vinL (k := 2) hL (lim6 hL hi c) (by omega)
    · intro c c1
      refine XP.mono (fun v sw1 f1 hv => ?_) (h11 _ _ sw f hR)
      obtain ⟨r, hv, hm⟩ := hv
      subst hv
      exact bL_law_579 (d := 986) (vinL (k := 1) hL (lim6 hL hi c) (by omega)) (vinL (k := 2) hL (lim6 hL hi c) (by omega)) (XP.mono (fun v2 sw2 f2 hv2 => by obtain ⟨hv2, hR2⟩ := hv2; subst hv2; exact bL_law_593 (d := 986) (fun _ => ih6 sw2 f2 (lim6 hL hi c) hR2) (fun hne => absurd rfl hne)) hm)
    · exact fun c c1 => vinL (k := 1) hL (lim6 hL hi c) (by omega)
    · exact fun c c1 => vinL (k := 2) hL (lim6 hL hi c) (by omega)
    · exact fun c c1 => vinL (k := 3) hL (lim6 hL hi c) (by omega)
    · intro c c1
      refine XP.mono (fun v sw1 f1 hv => ?_) (h12 _ _ _ sw f hR)
      obtain ⟨r, hv, hm⟩ := hv
      subst hv
      exact bL_law_617 (d := 986) (vinL (k := 1) hL (lim6 hL hi c) (by omega)) (vinL (k := 2) hL (lim6 hL hi c) (by omega)) (vinL (k := 3) hL (lim6 hL hi c) (by omega)) (XP.mono (fun v2 sw2 f2 hv2 => by obtain ⟨hv2, hR2⟩ := hv2; subst hv2; exact bL_law_636 (d := 986) (fun _ => ih6 sw2 f2 (lim6 hL hi c) hR2) (fun hne => absurd rfl hne)) hm)
    · exact fun c c1 => vinL (k := 1) hL (lim6 hL hi c) (by omega)
    · exact fun c c1 => vinL (k := 2) hL (lim6 hL hi c) (by omega)
    · exact fun c c1 => vinL (k := 3) hL (lim6 hL hi c) (by omega)
    · intro c c1
      refine XP.mono (fun v sw1 f1 hv => ?_) (h13 _ _ _ sw f hR)
      obtain ⟨r, hv, hm⟩ := hv
      subst hv
      exact bL_law_660 (d := 986) (vinL (k := 1) hL (lim6 hL hi c) (by omega)) (vinL (k := 2) hL (lim6 hL hi c) (by omega)) (vinL (k := 3) hL (lim6 hL hi c) (by omega)) (XP.mono (fun v2 sw2 f2 hv2 => by obtain ⟨hv2, hR2⟩ := hv2; subst hv2; exact bL_law_679 (d := 986) (fun _ => ih6 sw2 f2 (lim6 hL hi c) hR2) (fun hne => absurd rfl hne)) hm)
    · exact fun c c1 => vinL (k := 1) hL (lim6 hL hi c) (by omega)
    · intro c c1
      refine XP.mono (fun v sw1 f1 hv => ?_) (h14 _ sw f hR)
      obtain ⟨r, hv, hm⟩ := hv
      subst hv
      exact bL_law_693 (d := 986) (vinL (k := 1) hL (lim6 hL hi c) (by omega)) (XP.mono (fun v2 sw2 f2 hv2 => by obtain ⟨hv2, hR2⟩ := hv2; subst hv2; exact bL_law_702 (d := 986) (fun _ => ih6 sw2 f2 (lim6 hL hi c) hR2) (fun hne => absurd rfl hne)) hm)
    · exact fun c c1 => vinL (k := 1) hL (lim6 hL hi c) (by omega)
    · exact fun c c1 => vinL (k := 2) hL (lim6 hL hi c) (by omega)
    · intro c c1
      refine XP.mono (fun v sw1 f1 hv => ?_) (h15 _ _ sw f hR)
      obtain ⟨r, hv, hm⟩ := hv
      subst hv
      exact bL_law_721 (d := 986) (vinL (k := 1) hL (lim6 hL hi c) (by omega)) (vinL (k := 2) hL (lim6 hL hi c) (by omega)) (XP.mono (fun v2 sw2 f2 hv2 => by obtain ⟨hv2, hR2⟩ := hv2; subst hv2; exact bL_law_735 (d := 986) (fun _ => ih6 sw2 f2 (lim6 hL hi c) hR2) (fun hne => absurd rfl hne)) hm)
    · exact fun c c1 => vinL (k := 1) hL (lim6 hL hi c) (by omega)
    · exact fun c c1 => vinL (k := 2) hL (lim6 hL hi c) (by omega)
    · intro c c1
      refine XP.mono (fun v sw1 f1 hv => ?_) (h16 _ _ sw f hR)
      obtain ⟨r, hv, hm⟩ := hv
      subst hv
      exact bL_law_754 (d := 986) (vinL (k := 1) hL (lim6 hL hi c) (by omega)) (vinL (k := 2) hL (lim6 hL hi c) (by omega)) (XP.mono (fun v2 sw2 f2 hv2 => by obtain ⟨hv2, hR2⟩ := hv2; subst hv2; exact bL_law_768 (d := 986) (fun _ => ih6 sw2 f2 (lim6 hL hi c) hR2) (fun hne => absurd rfl hne)) hm)
    · intro c c1
      refine XP.mono (fun v sw1 f1 hv => ?_) (h17 sw f hR)
      obtain ⟨r, hv, hm⟩ := hv
      subst hv
      exact bL_law_777 (d := 986) (XP.mono (fun v2 sw2 f2 hv2 => by obtain ⟨hv2, hR2⟩ := hv2; subst hv2; exact bL_law_781 (d := 986) (fun _ => ih6 sw2 f2 (lim6 hL hi c) hR2) (fun hne => absurd rfl hne)) hm)
    · exact fun c c1 => vinL (k := 1) hL (lim6 hL hi c) (by omega)
    · exact fun c c1 => vinL (k := 2) hL (lim6 hL hi c) (by omega)
    · exact fun c c1 => vinL (k := 3) hL (lim6 hL hi c) (by omega)
    · intro c c1
      refine XP.mono (fun v sw1 f1 hv => ?_) (h18 _ _ _ sw f hR)
      obtain ⟨r, hv, hm⟩ := hv
      subst hv
      exact bL_law_805 (d := 986) (vinL (k := 1) hL (lim6 hL hi c) (by omega)) (vinL (k := 2) hL (lim6 hL hi c) (by omega)) (vinL (k := 3) hL (lim6 hL hi c) (by omega)) (XP.mono (fun v2 sw2 f2 hv2 => by obtain ⟨hv2, hR2⟩ := hv2; subst hv2; exact bL_law_824 (d := 986) (fun _ => ih6 sw2 f2 (lim6 hL hi c) hR2) (fun hne => absurd rfl hne)) hm)
    · exact fun c c1 => vinL (k := 1) hL (lim6 hL hi c) (by omega)
    · exact fun c c1 => vinL (k := 2) hL (lim6 hL hi c) (by omega)
    · exact fun c c1 => vinL (k := 3) hL (lim6 hL hi c) (by omega)
    · intro c c1
      refine XP.mono (fun v sw1 f1 hv => ?_) (h19 _ _ _ sw f hR)
      obtain ⟨r, hv, hm⟩ := hv
      subst hv
      exact bL_law_848 (d := 986) (vinL (k := 1) hL (lim6 hL hi c) (by omega)) (vinL (k := 2) hL (lim6 hL hi c) (by omega)) (vinL (k := 3) hL (lim6 hL hi c) (by omega)) (XP.mono (fun v2 sw2 f2 hv2 => by obtain ⟨hv2, hR2⟩ := hv2; subst hv2; exact bL_law_867 (d := 986) (fun _ => ih6 sw2 f2 (lim6 hL hi c) hR2) (fun hne => absurd rfl hne)) hm)
    · exact fun c c1 => vinL (k := 1) hL (lim6 hL hi c) (by omega)
    · exact fun c c1 => vinL (k := 2) hL (lim6 hL hi c) (by omega)
    · intro c c1
      refine XP.mono (fun v sw1 f1 hv => ?_) (h20 _ _ sw f hR)
      obtain ⟨r, hv, hm⟩ := hv
      subst hv
      exact bL_law_886 (d := 986) (vinL (k := 1) hL (lim6 hL hi c) (by omega)) (vinL (k := 2) hL (lim6 hL hi c) (by omega)) (XP.mono (fun v2 sw2 f2 hv2 => by obtain ⟨hv2, hR2⟩ := hv2; subst hv2; exact bL_law_900 (d := 986) (fun _ => ih6 sw2 f2 (lim6 hL hi c) hR2) (fun hne => absurd rfl hne)) hm)
    · exact fun c c1 => vinL (k := 1) hL (lim6 hL hi c) (by omega)
    · exact fun c c1 => vinL (k := 2) hL (lim6 hL hi c) (by omega)
    · exact fun c c1 => vinL (k := 3) hL (lim6 hL hi c) (by omega)
    · intro c c1
      refine XP.mono (fun v sw1 f1 hv => ?_) (h21 _ _ _ sw f hR)
      obtain ⟨r, hv, hm⟩ := hv
      subst hv
      exact bL_law_924 (d := 986) (vinL (k := 1) hL (lim6 hL hi c) (by omega)) (vinL (k := 2) hL (lim6 hL hi c) (by omega)) (vinL (k := 3) hL (lim6 hL hi c) (by omega)) (XP.mono (fun v2 sw2 f2 hv2 => by obtain ⟨hv2, hR2⟩ := hv2; subst hv2; exact bL_law_943 (d := 986) (fun _ => ih6 sw2 f2 (lim6 hL hi c) hR2) (fun hne => absurd rfl hne)) hm)
    · exact fun c c1 => vinL (k := 1) hL (lim6 hL hi c) (by omega)
    · exact fun c c1 => vinL (k := 2) hL (lim6 hL hi c) (by omega)
    · intro c c1
      refine XP.mono (fun v sw1 f1 hv => ?_) (h22 _ _ sw f hR)
      obtain ⟨r, hv, hm⟩ := hv
      subst hv
      exact bL_law_962 (d := 986) (vinL (k := 1) hL (lim6 hL hi c) (by omega)) (vinL (k := 2) hL (lim6 hL hi c) (by omega)) (XP.mono (fun v2 sw2 f2 hv2 => by obtain ⟨hv2, hR2⟩ := hv2; subst hv2; exact bL_law_976 (d := 986) (fun _ => ih6 sw2 f2 (lim6 hL hi c) hR2) (fun hne => absurd rfl hne)) hm)
    · exact fun c c1 => vinL (k := 1) hL (lim6 hL hi c) (by omega)
    · exact fun c c1 => vinL (k := 2) hL (lim6 hL hi c) (by omega)
    · exact fun c c1 => vinL (k := 3) hL (lim6 hL hi c) (by omega)
    · exact fun c c1 c2 => vinL (k := 4) hL (lim6 hL hi c) (by omega)
    · intro c c1 c2
      refine XP.mono (fun v sw1 f1 hv => ?_) (h23 _ _ _ _ (Or.inl rfl) sw f hR)
      obtain ⟨r, hv, hm⟩ := hv
      subst hv
      exact bL_law_1013 (d := 986) (vinL (k := 1) hL (lim6 hL hi c) (by omega)) (vinL (k := 2) hL (lim6 hL hi c) (by omega)) (vinL (k := 3) hL (lim6 hL hi c) (by omega)) (fun _ => vinL (k := 4) hL (lim6 hL hi c) (by omega)) (fun _ => (XP.mono (fun v2 sw2 f2 hv2 => by obtain ⟨hv2, hR2⟩ := hv2; subst hv2; exact bL_law_1045 (d := 986) (fun _ => ih6 sw2 f2 (lim6 hL hi c) hR2) (fun hne => absurd rfl hne)) hm)) (fun _ => vinL (k := 4) hL (lim6 hL hi c) (by omega)) (fun q => absurd c2 q)
    · exact fun c c1 c2 => vinL (k := 4) hL (lim6 hL hi c) (by omega)
    · intro c c1 c2
      refine XP.mono (fun v sw1 f1 hv => ?_) (h23 _ _ _ _ (Or.inr rfl) sw f hR)
      obtain ⟨r, hv, hm⟩ := hv
      subst hv
      exact bL_law_1013 (d := 986) (vinL (k := 1) hL (lim6 hL hi c) (by omega)) (vinL (k := 2) hL (lim6 hL hi c) (by omega)) (vinL (k := 3) hL (lim6 hL hi c) (by omega)) (fun _ => vinL (k := 4) hL (lim6 hL hi c) (by omega)) (fun q => absurd q c2) (fun _ => vinL (k := 4) hL (lim6 hL hi c) (by omega)) (fun _ => (XP.mono (fun v2 sw2 f2 hv2 => by obtain ⟨hv2, hR2⟩ := hv2; subst hv2; exact bL_law_1045 (d := 986) (fun _ => ih6 sw2 f2 (lim6 hL hi c) hR2) (fun hne => absurd rfl hne)) hm))
    · exact fun c c1 => vinL (k := 1) hL (lim6 hL hi c) (by omega)
    · exact fun c c1 => vinL (k := 2) hL (lim6 hL hi c) (by omega)
    · intro c c1
      refine XP.mono (fun v sw1 f1 hv => ?_) (h24 _ _ sw f hR)
      obtain ⟨r, hv, hm⟩ := hv
      subst hv
      exact bL_law_1064 (d := 986) (vinL (k := 1) hL (lim6 hL hi c) (by omega)) (vinL (k := 2) hL (lim6 hL hi c) (by omega)) (XP.mono (fun v2 sw2 f2 hv2 => by obtain ⟨hv2, hR2⟩ := hv2; subst hv2; exact bL_law_1078 (d := 986) (fun _ => ih6 sw2 f2 (lim6 hL hi c) hR2) (fun hne => absurd rfl hne)) hm)
    · intro c c1
      refine XP.mono (fun v sw1 f1 hv => ?_) (h25 sw f hR)
      obtain ⟨r, hv, hm⟩ := hv
      subst hv
      exact bL_law_1087 (d := 986) (XP.mono (fun v2 sw2 f2 hv2 => by obtain ⟨hv2, hR2⟩ := hv2; subst hv2; exact bL_law_1091 (d := 986) (fun _ => ih6 sw2 f2 (lim6 hL hi c) hR2) (fun hne => absurd rfl hne)) hm)
    · exact fun c c1 => vinL (k := 1) hL (lim6 hL hi c) (by omega)
    · intro c c1
      refine XP.mono (fun v sw1 f1 hv => ?_) (h26 _ sw f hR)
      obtain ⟨r, hv, hm⟩ := hv
      subst hv
      exact bL_law_1105 (d := 986) (vinL (k := 1) hL (lim6 hL hi c) (by omega)) (XP.mono (fun v2 sw2 f2 hv2 => by obtain ⟨hv2, hR2⟩ := hv2; subst hv2; exact bL_law_1114 (d := 986) (fun _ => ih6 sw2 f2 (lim6 hL hi c) hR2) (fun hne => absurd rfl hne)) hm)
    · exact fun c c1 => vinL (k := 1) hL (lim6 hL hi c) (by omega)
    · intro c c1
      refine XP.mono (fun v sw1 f1 hv => ?_) (h27 _ sw f hR)
      obtain ⟨r, hv, hm⟩ := hv
      subst hv
      exact bL_law_1128 (d := 986) (vinL (k := 1) hL (lim6 hL hi c) (by omega)) (XP.mono (fun v2 sw2 f2 hv2 => by obtain ⟨hv2, hR2⟩ := hv2; subst hv2; exact bL_law_1137 (d := 986) (fun _ => ih6 sw2 f2 (lim6 hL hi c) hR2) (fun hne => absurd rfl hne)) hm)
    · intro c c1
      refine XP.mono (fun v sw1 f1 hv => ?_) (h28 sw f hR)
      obtain ⟨r, hv, hm⟩ := hv
      subst hv
      exact bL_law_1146 (d := 986) (XP.mono (fun v2 sw2 f2 hv2 => by obtain ⟨hv2, hR2⟩ := hv2; subst hv2; exact bL_law_1150 (d := 986) (fun _ => ih6 sw2 f2 (lim6 hL hi c) hR2) (fun hne => absurd rfl hne)) hm)
    · intro c c1
      refine XP.mono (fun v sw1 f1 hv => ?_) (h29 sw f hR)
      obtain ⟨r, hv, hm⟩ := hv
      subst hv
      exact bL_law_1159 (d := 986) (XP.mono (fun v2 sw2 f2 hv2 => by obtain ⟨hv2, hR2⟩ := hv2; subst hv2; exact bL_law_1163 (d := 986) (fun _ => ih6 sw2 f2 (lim6 hL hi c) hR2) (fun hne => absurd rfl hne)) hm)
    · exact fun c c1 => vinL (k := 1) hL (lim6 hL hi c) (by omega)
    · intro c c1
      refine XP.mono (fun v sw1 f1 hv => ?_) (h30 _ sw f hR)
      obtain ⟨r, hv, hm⟩ := hv
      subst hv
      exact bL_law_1177 (d := 986) (vinL (k := 1) hL (lim6 hL hi c) (by omega)) (XP.mono (fun v2 sw2 f2 hv2 => by obtain ⟨hv2, hR2⟩ := hv2; subst hv2; exact bL_law_1186 (d := 986) (fun _ => ih6 sw2 f2 (lim6 hL hi c) hR2) (fun hne => absurd rfl hne)) hm)
    · exact fun c c1 => vinL (k := 1) hL (lim6 hL hi c) (by omega)
    · intro c c1
      refine XP.mono (fun v sw1 f1 hv => ?_) (h31 _ sw f hR)
      obtain ⟨r, hv, hm⟩ := hv
      subst hv
      exact bL_law_1200 (d := 986) (vinL (k := 1) hL (lim6 hL hi c) (by omega)) (XP.mono (fun v2 sw2 f2 hv2 => by obtain ⟨hv2, hR2⟩ := hv2; subst hv2; exact bL_law_1209 (d := 986) (fun _ => ih6 sw2 f2 (lim6 hL hi c) hR2) (fun hne => absurd rfl hne)) hm)
    · exact fun c c1 c2 c3 c4 c5 c6 c7 c8 c9 c10 c11 c12 c13 c14 c15 c16 c17 c18 c19 c20 c21 c22 c23 c24 c25 c26 c27 c28 c29 c30 c31 c32 => ih6 sw f (lim6 hL hi c) hR
