/-! ===== a law: the reference's loop ===== -/
theorem LWz.ref {G : GC} {d : Nat} {sw : Bool} {Q : QQ} {n : Nat} {r : Except Int32 (St × LLs × Nat)} {x1 : Int32} {v3 : Value} (hn : n ≤ 240) : ∀ (m i : Nat) (S : St) (L : LLs) (f : FF) (Qr : QQ), m + i = 17 → i ≤ 16 → f 82 12 = nI n → LWz (f 90) n m i S L r → RLV f S L i → S.p ≤ n → S.k ≤ S.p → (∀ e, r = .error e → ∀ g, MOR f g → Q (some (.int e)) sw (upd2 g 82 10 0)) → (∀ S' L' k, r = .ok (S', L', k) → ∀ g, MOR f g → RLV g S' L' k → XP G mX11_law (d + 8) 95 [.ref 82, .int x1, .int 1, .int 0] [] sw (upd2 (upd2 g 82 10 0) 82 19 ((upd2 g 82 10 0) 82 18)) Q) → (∀ g, XP G mX11_law (d + 8) 31 [.ref 82, .int x1, .int 0, v3] [] sw g Q → Qr (some (.int 0)) sw g) → (∀ g, XP G mX11_law (d + 8) 31 [.ref 82, .int x1, .int 1, v3] [] sw g Q → Qr (some (.int 1)) sw g) → XP G mX11_readsRule (d + 7) 0 [.ref 82, .null] [] sw f Qr := by
  intro m
  induction m with
  | zero => intro i S L f Qr h1 h2; omega
  | succ m ih =>
    intro i S L f Qr h1 h2 h12 hw hc hp hk hE hO C0 C1
    obtain ⟨ru, hu, hr⟩ := hw
    have bad : ∀ (e : Int32) (g : FF), r = .error e → MOR f g → g 82 13 = e → XP G mX11_law (d + 8) 31 [.ref 82, .int x1, .int 0, v3] [] sw g Q := by
      intro e g he o5 h5
      refine bX11_law_31 (fun _ z => absurd rfl z) (fun _ _ => ?_) (fun z => absurd rfl z) (fun z => absurd rfl z) (fun z => absurd rfl z)
      rw [upd2_self, pk_un (by omega), h5]
      exact hE e he g o5
    refine hu.ref h12 hn h2 hc hp hk (fun e he g o2 h5 => ?_) (fun S' L' he g o2 hg => ?_)
    · subst he
      rcases hr with ⟨e', z1, z2⟩ | ⟨_, _, z1, _⟩
      · have := Except.error.inj z1
        subst this
        exact C0 g (bad _ g z2 o2 h5)
      · exact absurd z1 (by simp)
    · subst he
      have o := hu.ok hp hk
      rcases hr with ⟨e', z1, _⟩ | ⟨S1, L1, z1, z2⟩
      · exact absurd z1 (by simp)
      · have e1 := Except.ok.inj z1
        have e2 : S' = S1 := congrArg Prod.fst e1
        have e3 : L' = L1 := congrArg Prod.snd e1
        subst e2 e3
        have g12 := (o2.2 12 (by omega) (by omega) (by omega) (by omega) (by omega) (by omega) (by omega)).trans h12
        have g90 := o2.1 90 (by omega) (by omega)
        have mx : MX g n S'.p := ⟨g12, by omega, hg.1, o.2.2.1⟩
        refine C1 g ?_
        refine bX11_law_31 (fun z => absurd z (by decide)) (fun z => absurd z (by decide)) (fun _ z _ => ?_) (fun _ _ z => absurd z (by decide)) (fun _ z => ?_)
        · rw [g12, hg.1] at z
          have z' : n ≤ S'.p := by
            have := Int32.le_iff_toInt_le.mp z
            rw [nI_toInt (by omega), nI_toInt (by omega)] at this
            omega
          rcases z2 with ⟨_, y2⟩ | ⟨y2, _⟩ | ⟨y2, _⟩
          · exact hO _ _ _ y2 g o2 hg
          · omega
          · omega
        · have z' : S'.p < n := by
            rcases Nat.lt_or_ge S'.p n with y | y
            · exact y
            · exact absurd (Int32.le_iff_toInt_le.mpr (by rw [g12, hg.1, nI_toInt (by omega), nI_toInt (by omega)]; omega)) z
          refine sp_takes mx (by decide) (fun y g2 o3 m3 => ?_) (fun y g2 o3 h5 => ?_)
          · rw [g90] at y
            have o4 : MOR f g2 := o2.tr o3.mol.mor
            have hg2 : RLV g2 S'.adv L' (i + 1) := by
              obtain ⟨_, k2, k3, k4, k5, k6, k7, k8⟩ := hg
              exact ⟨m3.2.2.1, by rw [o3.2 16 (by omega) (by omega) (by omega)]; exact k2, by rw [o3.1 91 (by omega)]; exact k3, by rw [o3.1 93 (by omega)]; exact k4, by rw [o3.1 94 (by omega)]; exact k5, by rw [o3.1 95 (by omega)]; exact k6, by rw [o3.1 96 (by omega)]; exact k7, by rw [o3.2 18 (by omega) (by omega) (by omega)]; exact k8⟩
            rcases z2 with ⟨y2, _⟩ | ⟨_, y2, _⟩ | ⟨_, _, y2⟩
            · omega
            · exact absurd y y2
            · refine bX11_law_52 (fun z => absurd z (by decide)) (fun _ => ?_)
              exact ih (i + 1) S'.adv L' g2 _ (by omega) (by omega) m3.1 (by rw [o4.1 90 (by omega) (by omega)]; exact y2) hg2 z' (Nat.le_succ_of_le o.2.2.2) (fun e he g3 o5 => hE e he g3 (o4.tr o5)) (fun S2 L2 k2 he g3 o5 h6 => hO S2 L2 k2 he g3 (o4.tr o5) h6) (fun g3 h3 => bX11_law_59 (fun _ => h3) (fun z => absurd rfl z)) (fun g3 h3 => bX11_law_59 (fun z => absurd z (by decide)) (fun _ => h3))
          · rw [g90] at y
            refine bX11_law_52 (fun _ => ?_) (fun z => absurd rfl z)
            rcases z2 with ⟨y2, _⟩ | ⟨_, _, y2⟩ | ⟨_, y2, _⟩
            · omega
            · exact bad _ g2 y2 (o2.tr o3.mol.mor) h5
            · exact absurd y2 y
/-- the new law goes into force -/
theorem rt_copies {G : GC} {d : Nat} {sw : Bool} {Q : QQ} {f : FF} {x1 : Int32} {K R : Nat} (hK : K ≤ 240) (hR : R ≤ 16) (h16 : f 82 16 = nI K) (h18 : f 82 18 = nI R) (hQ : ∀ g : FF, (∀ c, ¬ (97 ≤ c ∧ c ≤ 101) → g c = f c) → (∀ t, t < K → g 97 t = f 91 t) → (∀ t, t < R → g 98 t = f 93 t ∧ g 99 t = f 94 t ∧ g 100 t = f 95 t ∧ g 101 t = f 96 t) → Q (some (.int (nI R))) sw g) : XP G mX11_law (d + 8) 95 [.ref 82, .int x1, .int 1, .int 0] [] sw f Q := by
  have l2 : ∀ (m j : Nat) (g : FF), j + m = R → (∀ c, ¬ (97 ≤ c ∧ c ≤ 101) → g c = f c) → (∀ t, t < K → g 97 t = f 91 t) → (∀ t, t < j → g 98 t = f 93 t ∧ g 99 t = f 94 t ∧ g 100 t = f 95 t ∧ g 101 t = f 96 t) → XP G mX11_law (d + 8) 123 [.ref 82, .int x1, .int 1, .int (nI j)] [] sw g Q := by
    intro m
    induction m with
    | zero =>
      intro j g hj h1 h2 h3
      have e : g 82 18 = nI j := by rw [h1 82 (by omega), h18]; congr 1; omega
      have le : g 82 18 ≤ nI j := by rw [e]; exact Int32.le_refl _
      refine bX11_law_123 (fun _ => ?_) (fun z => absurd le z) (fun z => absurd le z) (fun z => absurd le z) (fun z => absurd le z) (fun z => absurd le z) (fun z => absurd le z) (fun z => absurd le z) (fun z => absurd le z) (fun z => absurd le z)
      have ej : j = R := by omega
      subst ej
      rw [e]
      exact hQ g h1 h2 h3
    | succ m ih =>
      intro j g hj h1 h2 h3
      have e : g 82 18 = nI R := by rw [h1 82 (by omega), h18]
      have nle : ¬ g 82 18 ≤ nI j := by rw [e]; exact nI_ge (by omega) (by omega)
      have v : vp_in (nI j) 16 := vp_in_nI (by omega) (by omega)
      refine bX11_law_123 (fun z => absurd z nle) (fun _ => v) (fun _ => v) (fun _ => v) (fun _ => v) (fun _ => v) (fun _ => v) (fun _ => v) (fun _ => v) (fun _ => ?_)
      rw [nI_clamp (by omega), nI_1]
      refine ih (j + 1) _ (by omega) (fun c hc => ?_) (fun t ht => ?_) (fun t ht => ?_)
      · rw [upd2_ne _ _ _ (by omega), upd2_ne _ _ _ (by omega), upd2_ne _ _ _ (by omega), upd2_ne _ _ _ (by omega)]; exact h1 c hc
      · rw [upd2_ne _ _ _ (by omega), upd2_ne _ _ _ (by omega), upd2_ne _ _ _ (by omega), upd2_ne _ _ _ (by omega)]; exact h2 t ht
      · have a93 := h1 93 (by omega)
        have a94 := h1 94 (by omega)
        have a95 := h1 95 (by omega)
        have a96 := h1 96 (by omega)
        by_cases c : t = j
        · subst c
          simp [upd2, upd, a93, a94, a95, a96]
        · have b := h3 t (by omega)
          simp [upd2, upd, c]
          exact b
  have l1 : ∀ (m j : Nat) (g : FF), j + m = K → (∀ c, ¬ (97 ≤ c ∧ c ≤ 101) → g c = f c) → (∀ t, t < j → g 97 t = f 91 t) → XP G mX11_law (d + 8) 95 [.ref 82, .int x1, .int 1, .int (nI j)] [] sw g Q := by
    intro m
    induction m with
    | zero =>
      intro j g hj h1 h2
      have e : g 82 16 = nI j := by rw [h1 82 (by omega), h16]; congr 1; omega
      have le : g 82 16 ≤ nI j := by rw [e]; exact Int32.le_refl _
      have ej : j = K := by omega
      subst ej
      exact bX11_law_95 (fun _ => l2 R 0 g (by omega) h1 h2 (fun t ht => by omega)) (fun z => absurd le z) (fun z => absurd le z) (fun z => absurd le z)
    | succ m ih =>
      intro j g hj h1 h2
      have e : g 82 16 = nI K := by rw [h1 82 (by omega), h16]
      have nle : ¬ g 82 16 ≤ nI j := by rw [e]; exact nI_ge (by omega) (by omega)
      have v : vp_in (nI j) 260 := vp_in_nI (by omega) (by omega)
      refine bX11_law_95 (fun z => absurd z nle) (fun _ => v) (fun _ => v) (fun _ => ?_)
      rw [nI_clamp (by omega), nI_1]
      refine ih (j + 1) _ (by omega) (fun c hc => by rw [upd2_ne _ _ _ (by omega)]; exact h1 c hc) (fun t ht => ?_)
      rw [upd2_self]
      by_cases c : t = j
      · subst c; rw [pk_us, h1 91 (by omega)]
      · rw [pk_un c]; exact h2 t (by omega)
  exact l1 K 0 f (by omega) (fun _ _ => rfl) (fun t ht => by omega)
