/-! ===== L3, pure: of two plays of one program the looks are the same, or differ where both look ===== -/
section SIM2
variable {A : Sh} {H K : Hp} {P Q : Pl}
theorem lkR_pfx (x : Nat) : pfx (pLk P) (pLk (lkR H P x)) := by
  unfold lkR
  split
  · exact ⟨[0], rfl⟩
  · split
    · exact ⟨_, rfl⟩
    · exact ⟨_, rfl⟩
theorem notR_pfx (s x : Nat) : pfx (pLk P) (pLk (notR H P s x)) := by
  unfold notR
  split
  · exact pfx_r _
  · exact lkR_pfx (P := mrk P s) x
theorem notN_pfx (s x : Nat) : pfx (pLk P) (pLk (notN P s x)) := by
  unfold notN
  split
  · exact pfx_r _
  · exact ⟨[x], rfl⟩
theorem askP_pfx (v : Nat) : pfx (pLk P) (pLk (askP H P v)) := by
  unfold askP
  split
  · exact notR_pfx _ _
  · exact pfx_r _
theorem plS_pfx (p : Sp) : pfx (pLk P) (pLk (plS A H p P).2.2) := by
  unfold plS
  split
  · exact pfx_t (askP_pfx _) (askP_pfx _)
  · split
    · exact askP_pfx _
    · split
      · split
        · exact pfx_t (askP_pfx _) (notR_pfx _ _)
        · exact pfx_t (askP_pfx _) (notN_pfx _ _)
      · exact askP_pfx _
theorem plF_pfx {ps : List Sp} : ∀ (n pc dn : Nat) (P : Pl), pfx (pLk P) (pLk (plF A H ps n pc dn P).2.2) := by
  intro n
  induction n with
  | zero => intro pc dn P; exact pfx_r _
  | succ n ih =>
    intro pc dn P
    unfold plF
    split
    · exact pfx_r _
    · split
      · exact pfx_t (plS_pfx _) (ih _ _ _)
      · exact plS_pfx _
theorem lkR_cb {x o : Nat} (h : ¬ pCb P o = 0) : pCb (lkR H P x) o = pCb P o := by
  unfold lkR
  split
  · rfl
  · split
    · rename_i h2
      show upn (pCb P) (x - 1) (pCl P + 1) o = pCb P o
      exact upn_n (fun w => h (by rw [w]; exact h2))
    · rfl
theorem lkR_se (x : Nat) : pSe (lkR H P x) = pSe P := by
  unfold lkR
  split
  · rfl
  · split <;> rfl
theorem notR_se {s s' x : Nat} : pSe (notR H P s x) s = true ∧ (pSe P s' = true → pSe (notR H P s x) s' = true) := by
  unfold notR
  by_cases h : pSe P s = true
  · rw [if_pos h]; exact ⟨h, fun z => z⟩
  · rw [if_neg h, lkR_se]
    show upb (pSe P) s true s = true ∧ (_ → upb (pSe P) s true s' = true)
    refine ⟨upb_s _ _ _, fun z => ?_⟩
    by_cases e : s' = s
    · rw [e, upb_s]
    · rw [upb_n e]; exact z
theorem askP_se {v s : Nat} : (pIn P v = true → pSe (askP H P v) v = true) ∧ (pSe P s = true → pSe (askP H P v) s = true) := by
  unfold askP
  by_cases h : pIn P v = true
  · rw [if_pos h]
    exact ⟨fun _ => (notR_se (s' := s)).1, (notR_se (s' := s)).2⟩
  · rw [if_neg h]
    exact ⟨fun z => absurd z h, fun z => z⟩
theorem cor_inj (hP : nmO P) (hQ : nmO Q) {x y x' y' : Nat} (h : cor P Q x y) (h' : cor P Q x' y') : x = x' ↔ y = y' := by
  have key : ∀ (R : Pl) (a b : Nat), nmO R → ct (pCb R) a → ct (pCb R) b → nm (pCb R) a = nm (pCb R) b → a = b := by
    intro R a b hR ha hb e
    unfold nm at e
    unfold ct at ha hb
    by_cases ea : a = 0
    · by_cases eb : b = 0
      · omega
      · rw [if_pos ea, if_neg eb] at e
        rcases hb with z | z
        · exact absurd z eb
        · exact absurd e.symm z
    · by_cases eb : b = 0
      · rw [if_neg ea, if_pos eb] at e
        rcases ha with z | z
        · exact absurd z ea
        · exact absurd e z
      · rw [if_neg ea, if_neg eb] at e
        rcases ha with z | z
        · exact absurd z ea
        · have := hR.1 _ _ z e
          omega
  constructor
  · intro e
    exact key Q y y' hQ h.2.1 h'.2.1 (by rw [← h.2.2, ← h'.2.2, e])
  · intro e
    exact key P x x' hP h.1 h'.1 (by rw [h.2.2, h'.2.2, e])
/-- a variable that was asked -/
theorem Sm_cor (h : Sm A H K P Q) {v : Nat} (hv : pIn P v = true → v < 2 ∧ pSe P v = true ∧ pVa P v = H.2.2 v ∧ pVa Q v = K.2.2 v) : cor P Q (pVa P v) (pVa Q v) := by
  cases e : pIn P v with
  | false => exact h.2.2.2.1 v e
  | true =>
    obtain ⟨h1, h2, h3, h4⟩ := hv e
    rw [h3, h4]
    exact (h.2.2.2.2.1 v h1).2 h2
theorem Sm_ask (hA : okA A) (hH : okH A H) {dn dn' v : Nat} (oP : okP A H dn P) (oQ : okP A K dn' Q) (h : Sm A H K P Q) : Sm A H K (askP H P v) (askP K Q v) ∨ Df (pLk (askP H P v)) (pLk (askP K Q v)) := by
  unfold askP
  rw [← h.2.2.1]
  by_cases e : pIn P v = true
  · rw [if_pos e, if_pos e]
    have h2 : v < 2 := by have := (oP.2.1 v e).1; have := hA.2.1; omega
    have hs := (h.2.2.2.2.1 v h2).1
    unfold notR
    rw [← hs]
    by_cases es : pSe P v = true
    · rw [if_pos es, if_pos es]; exact Or.inl h
    · rw [if_neg es, if_neg es, lkR_cm, lkR_cm]
      have hK := hA.1
      rcases Sm_lkR (x := H.2.2 v) (y := K.2.2 v) (fun c hc => by have := hH.2.1 c hc; omega) h (okP_cl hH oP) with ⟨g1, g2⟩ | g
      · exact Or.inl (Sm_mrkI h2 g1 g2)
      · exact Or.inr g
  · rw [if_neg e, if_neg e]; exact Or.inl h
/-- a field's REF is looked at -/
theorem Sm_fR (hA : okA A) (hH : okH A H) {dn o u f : Nat} (hf : f < 4) (oP : okP A H dn P) (h : Sm A H K P Q) (ho : ¬ pCb P o = 0) (hu : pCb P o = pCb Q u) (hc : f < shC A (H.1.getD o 0)) (ht : shT A (H.1.getD o 0) f < 4) : (Sm A H K (notR H P (2 + 4 * o + f) (H.2.1 o f)) (notR K Q (2 + 4 * u + f) (K.2.1 u f)) ∧ cor (notR H P (2 + 4 * o + f) (H.2.1 o f)) (notR K Q (2 + 4 * u + f) (K.2.1 u f)) (H.2.1 o f) (K.2.1 u f)) ∨ Df (pLk (notR H P (2 + 4 * o + f) (H.2.1 o f))) (pLk (notR K Q (2 + 4 * u + f) (K.2.1 u f))) := by
  obtain ⟨g1, g2⟩ := h.2.2.2.2.2.1 o u ho hu
  obtain ⟨g3, g4⟩ := g2 f hf
  unfold notR
  rw [← g3]
  by_cases es : pSe P (2 + 4 * o + f) = true
  · rw [if_pos es, if_pos es]
    exact Or.inl ⟨h, (g4 es hc).1 ht⟩
  · rw [if_neg es, if_neg es, lkR_cm, lkR_cm]
    have hK := hA.1
    rcases Sm_lkR (x := H.2.1 o f) (y := K.2.1 u f) (fun c hc => by have := hH.2.1 c hc; omega) h (okP_cl hH oP) with ⟨k1, k2⟩ | k
    · refine Or.inl ⟨Sm_mrkF hf k1 (by rw [lkR_cb ho]; exact ho) (by rw [lkR_cb ho, lkR_cb (by rw [← hu]; exact ho)]; exact hu) (fun _ => ⟨fun _ => k2, fun z => absurd ht z⟩), k2⟩
    · exact Or.inr k
theorem Sm_fN {o u f : Nat} (hf : f < 4) (h : Sm A H K P Q) (ho : ¬ pCb P o = 0) (hu : pCb P o = pCb Q u) (hc : f < shC A (H.1.getD o 0)) (ht : ¬ shT A (H.1.getD o 0) f < 4) : (Sm A H K (notN P (2 + 4 * o + f) (H.2.1 o f)) (notN Q (2 + 4 * u + f) (K.2.1 u f)) ∧ H.2.1 o f = K.2.1 u f) ∨ Df (pLk (notN P (2 + 4 * o + f) (H.2.1 o f))) (pLk (notN Q (2 + 4 * u + f) (K.2.1 u f))) := by
  obtain ⟨g1, g2⟩ := h.2.2.2.2.2.1 o u ho hu
  obtain ⟨g3, g4⟩ := g2 f hf
  unfold notN
  rw [← g3]
  by_cases es : pSe P (2 + 4 * o + f) = true
  · rw [if_pos es, if_pos es]
    exact Or.inl ⟨h, (g4 es hc).2 ht⟩
  · rw [if_neg es, if_neg es]
    by_cases e : H.2.1 o f = K.2.1 u f
    · left
      refine ⟨?_, e⟩
      rw [← e]
      exact Sm_lkC (Sm_mrkF hf h ho hu (fun _ => ⟨fun z => absurd z ht, fun _ => e⟩))
    · right
      show Df (pLk P ++ [H.2.1 o f]) (pLk Q ++ [K.2.1 u f])
      rw [h.1]
      exact Df_one e
theorem Sm_var (h : Sm A H K P Q) {n x y : Nat} (hc : cor P Q x y) : Sm A H K (upn (pVa P) n x, upb (pIn P) n false, P.2.2) (upn (pVa Q) n y, upb (pIn Q) n false, Q.2.2) := by
  obtain ⟨h1, h2, h3, h4, h5⟩ := h
  refine ⟨h1, h2, by show upb (pIn P) n false = upb (pIn Q) n false; rw [h3], fun v hv => ?_, h5⟩
  have hv : upb (pIn P) n false v = false := hv
  show cor P Q (upn (pVa P) n x v) (upn (pVa Q) n y v)
  by_cases e : v = n
  · rw [e, upn_s, upn_s]; exact hc
  · rw [upn_n e, upn_n e]
    rw [upb_n e] at hv
    exact h4 v hv
theorem Sm_plS (hA : okA A) (hH : okH A H) (hK : okH A K) {dn dn' : Nat} {p : Sp} (hp : okS p) (oP : okP A H dn P) (oQ : okP A K dn' Q) (h : Sm A H K P Q) : (Sm A H K (plS A H p P).2.2 (plS A K p Q).2.2 ∧ (plS A H p P).1 = (plS A K p Q).1 ∧ (plS A H p P).2.1 = (plS A K p Q).2.1) ∨ Df (pLk (plS A H p P).2.2) (pLk (plS A K p Q).2.2) := by
  have hI := hA.2.1
  have oP1 := askP_ok hA hH (v := p.2.1) oP
  have oQ1 := askP_ok hA hK (v := p.2.1) oQ
  have vaP : pVa (askP H P p.2.1) = pVa P := (askP_va P p.2.1).1
  have vaQ : pVa (askP K Q p.2.1) = pVa Q := (askP_va Q p.2.1).1
  have inP : pIn (askP H P p.2.1) = pIn P := (askP_va P p.2.1).2
  have inQ : pIn (askP K Q p.2.1) = pIn Q := (askP_va Q p.2.1).2
  rcases Sm_ask hA hH (v := p.2.1) oP oQ h with g | g
  · have c1 : cor (askP H P p.2.1) (askP K Q p.2.1) (pVa P p.2.1) (pVa Q p.2.1) := by
      have := Sm_cor g (v := p.2.1) (fun z => by
        rw [inP] at z
        obtain ⟨a1, a2⟩ := oP.2.1 _ z
        have z2 : pIn Q p.2.1 = true := by rw [← h.2.2.1]; exact z
        obtain ⟨b1, b2⟩ := oQ.2.1 _ z2
        exact ⟨by omega, (askP_se (s := 0)).1 z, by rw [vaP]; exact a2, by rw [vaQ]; exact b2⟩)
      rw [vaP, vaQ] at this
      exact this
    unfold plS
    by_cases e2 : p.1 = 2
    · rw [if_pos e2, if_pos e2]
      rcases Sm_ask hA hH (v := p.2.2.1) oP1 oQ1 g with k | k
      · left
        have vaP2 : pVa (askP H (askP H P p.2.1) p.2.2.1) = pVa P := by rw [(askP_va _ _).1, vaP]
        have vaQ2 : pVa (askP K (askP K Q p.2.1) p.2.2.1) = pVa Q := by rw [(askP_va _ _).1, vaQ]
        have inP2 : pIn (askP H (askP H P p.2.1) p.2.2.1) = pIn P := by rw [(askP_va _ _).2, inP]
        have cc : ∀ v, (v = p.2.1 ∨ v = p.2.2.1) → cor (askP H (askP H P p.2.1) p.2.2.1) (askP K (askP K Q p.2.1) p.2.2.1) (pVa P v) (pVa Q v) := by
          intro v hv
          have := Sm_cor k (v := v) (fun z => by
            rw [inP2] at z
            obtain ⟨a1, a2⟩ := oP.2.1 _ z
            have z2 : pIn Q v = true := by rw [← h.2.2.1]; exact z
            obtain ⟨b1, b2⟩ := oQ.2.1 _ z2
            refine ⟨by omega, ?_, by rw [vaP2]; exact a2, by rw [vaQ2]; exact b2⟩
            rcases hv with w | w
            · subst w
              exact (askP_se (v := p.2.2.1)).2 ((askP_se (s := 0)).1 z)
            · subst w
              exact (askP_se (s := 0)).1 (by rw [inP]; exact z))
          rw [vaP2, vaQ2] at this
          exact this
        refine ⟨k, rfl, ?_⟩
        have ci := cor_inj k.2.2.2.2.2.2.1 k.2.2.2.2.2.2.2 (cc _ (Or.inl rfl)) (cc _ (Or.inr rfl))
        show (if pVa P p.2.1 = pVa P p.2.2.1 then p.2.2.2.2 else 0) = (if pVa Q p.2.1 = pVa Q p.2.2.1 then p.2.2.2.2 else 0)
        by_cases e : pVa P p.2.1 = pVa P p.2.2.1
        · rw [if_pos e, if_pos (ci.mp e)]
        · rw [if_neg e, if_neg (fun w => e (ci.mpr w))]
      · exact Or.inr k
    · rw [if_neg e2, if_neg e2]
      by_cases e0 : pVa P p.2.1 = 0
      · rw [if_pos e0, if_pos ((cor_0 c1).mp e0)]
        exact Or.inl ⟨g, rfl, rfl⟩
      · have e0' : ¬ pVa Q p.2.1 = 0 := fun w => e0 ((cor_0 c1).mpr w)
        rw [if_neg e0, if_neg e0']
        obtain ⟨o, ho⟩ : ∃ o, pVa P p.2.1 = o + 1 := ⟨pVa P p.2.1 - 1, by omega⟩
        obtain ⟨u, hu⟩ : ∃ u, pVa Q p.2.1 = u + 1 := ⟨pVa Q p.2.1 - 1, by omega⟩
        rw [ho, hu] at c1 ⊢
        rw [show o + 1 - 1 = o from rfl, show u + 1 - 1 = u from rfl]
        obtain ⟨d1, d2⟩ := cor_s c1
        have dk := (g.2.2.2.2.2.1 o u d1 d2).1
        rw [← dk]
        by_cases ef : p.2.2.1 < shC A (H.1.getD o 0) ∧ (p.1 = 0 ↔ shT A (H.1.getD o 0) p.2.2.1 < 4)
        · rw [if_pos ef, if_pos ef]
          by_cases er : p.1 = 0
          · rw [if_pos er, if_pos er]
            rcases Sm_fR hA hH hp.2.2.1 oP1 g d1 d2 ef.1 (ef.2.mp er) with ⟨k1, k2⟩ | k
            · exact Or.inl ⟨Sm_var k1 k2, rfl, rfl⟩
            · exact Or.inr k
          · rw [if_neg er, if_neg er]
            rcases Sm_fN hp.2.2.1 g d1 d2 ef.1 (fun w => er (ef.2.mpr w)) with ⟨k1, k2⟩ | k
            · exact Or.inl ⟨k1, rfl, by show (if H.2.1 o p.2.2.1 = p.2.2.2.1 then p.2.2.2.2 else 0) = (if K.2.1 u p.2.2.1 = p.2.2.2.1 then p.2.2.2.2 else 0); rw [k2]⟩
            · exact Or.inr k
        · rw [if_neg ef, if_neg ef]
          exact Or.inl ⟨g, rfl, rfl⟩
  · right
    unfold plS
    by_cases e2 : p.1 = 2
    · rw [if_pos e2, if_pos e2]
      exact Df_pfx g (askP_pfx _) (askP_pfx _)
    · rw [if_neg e2, if_neg e2]
      have w : ∀ (B : Sh) (L : Hp) (R : Pl), pfx (pLk (askP L R p.2.1)) (pLk ((if pVa R p.2.1 = 0 then (1, 0, askP L R p.2.1) else if p.2.2.1 < shC B (L.1.getD (pVa R p.2.1 - 1) 0) ∧ (p.1 = 0 ↔ shT B (L.1.getD (pVa R p.2.1 - 1) 0) p.2.2.1 < 4) then (if p.1 = 0 then (0, 0, plR L (askP L R p.2.1) (pVa R p.2.1 - 1) p.2.2.1 p.2.2.2.1) else (0, (if L.2.1 (pVa R p.2.1 - 1) p.2.2.1 = p.2.2.2.1 then p.2.2.2.2 else 0), notN (askP L R p.2.1) (2 + 4 * (pVa R p.2.1 - 1) + p.2.2.1) (L.2.1 (pVa R p.2.1 - 1) p.2.2.1))) else (2, 0, askP L R p.2.1)) : Nat × Nat × Pl).2.2) := by
        intro B L R
        split
        · exact pfx_r _
        · split
          · split
            · exact notR_pfx _ _
            · exact notN_pfx _ _
          · exact pfx_r _
      exact Df_pfx g (w A H P) (w A K Q)
theorem Sm_plF (hA : okA A) (hH : okH A H) (hK : okH A K) {ps : List Sp} (hO : ∀ p ∈ ps, okS p) : ∀ (n pc dn : Nat) (P Q : Pl), okP A H dn P → okP A K dn Q → Sm A H K P Q → pLk (plF A H ps n pc dn P).2.2 = pLk (plF A K ps n pc dn Q).2.2 ∨ Df (pLk (plF A H ps n pc dn P).2.2) (pLk (plF A K ps n pc dn Q).2.2) := by
  intro n
  induction n with
  | zero => intro pc dn P Q oP oQ h; exact Or.inl h.1
  | succ n ih =>
    intro pc dn P Q oP oQ h
    unfold plF
    by_cases e : ps.length ≤ pc
    · rw [if_pos e, if_pos e]; exact Or.inl h.1
    · rw [if_neg e, if_neg e]
      have hp := hO (ps.getD pc s0) (by rw [gD_g (show pc < ps.length by omega)]; exact List.getElem_mem _)
      rcases Sm_plS hA hH hK hp oP oQ h with ⟨g1, g2, g3⟩ | g
      · rw [← g2, ← g3]
        by_cases e0 : (plS A H (ps.getD pc s0) P).1 = 0
        · rw [if_pos e0, if_pos e0]
          exact ih _ _ _ _ (plS_ok hA hH oP) (plS_ok hA hK oQ) g1
        · rw [if_neg e0, if_neg e0]
          exact Or.inl g1.1
      · right
        have w : ∀ (L : Hp) (R : Pl), pfx (pLk (plS A L (ps.getD pc s0) R).2.2) (pLk ((if (plS A L (ps.getD pc s0) R).1 = 0 then plF A L ps n (pc + 1 + (plS A L (ps.getD pc s0) R).2.1) (dn + 1) (plS A L (ps.getD pc s0) R).2.2 else ((plS A L (ps.getD pc s0) R).1, dn + 1, (plS A L (ps.getD pc s0) R).2.2)) : Nat × Nat × Pl).2.2) := by
          intro L R
          split
          · exact plF_pfx _ _ _ _
          · exact pfx_r _
        exact Df_pfx g (w H P) (w K Q)
theorem Sm_plB : Sm A H K (plB A H) (plB A K) := by
  have hO : ∀ L : Hp, nmO (plB A L) := fun L => ⟨fun o u ho _ => absurd rfl ho, fun _ => Nat.le_refl _, fun _ _ _ _ => rfl⟩
  refine ⟨rfl, rfl, rfl, fun v hv => ?_, fun i hi => ⟨rfl, fun z => (by cases z)⟩, fun o u ho _ => absurd rfl ho, hO H, hO K⟩
  have hv : decide (v < shI A) = false := hv
  have hv := of_decide_eq_false hv
  have e : ∀ L : Hp, pVa (plB A L) v = 0 := fun L => if_neg hv
  rw [e H, e K]
  exact ⟨Or.inl rfl, Or.inl rfl, rfl⟩
/-- of two plays of one program the looks are the same, or differ where both look -/
theorem pl_pf (hA : okA A) (hH : okH A H) (hK : okH A K) {ps : List Sp} (hO : ∀ p ∈ ps, okS p) : pLk (plH A H ps).2.2 = pLk (plH A K ps).2.2 ∨ Df (pLk (plH A H ps).2.2) (pLk (plH A K ps).2.2) := Sm_plF hA hH hK hO 17 0 0 _ _ (plB_ok hA hH) (plB_ok hA hK) Sm_plB
end SIM2
