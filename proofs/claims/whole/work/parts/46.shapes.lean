/-! ===== L3, pure: how the state changes ===== -/
def kC (A : Sh) : Option Nat → Nat
  | none => 0
  | some j => shC A j
def kT (A : Sh) : Option Nat → Nat → Nat
  | none, _ => 0
  | some j, f => shT A j f
def kU (A : Sh) : Option Nat → Nat → Bool
  | none, _ => false
  | some j, t => shU A j t
def addK (A : Sh) (j : Option Nat) : Sh := (shK A + 1, shI A, shB A, fun k => if k = shK A then kC A j else shC A k, fun k f => if k = shK A then kT A j f else shT A k f, fun k t => if k = shK A then (decide (k = t) || kU A j t) else shU A k t, shN A)
def addF (A : Sh) (k t : Nat) : Sh := (shK A, shI A, shB A, upn (shC A) k (shC A k + 1), fun k' f => if k' = k ∧ f = shC A k then t else shT A k' f, shU A, shN A)
def addI (A : Sh) (k : Nat) : Sh := (shK A, shI A + 1, shB A, shC A, shT A, shU A, upn (shN A) (shI A) k)
def setB (A : Sh) (n : Nat) : Sh := (shK A, shI A, n, shC A, shT A, shU A, shN A)
/-- a kind is a SUPER -/
def supB (A : Sh) (k : Nat) : Bool := (List.range (shK A)).any (fun t => decide (¬ t = k) && shU A t k)
theorem supB_t {A : Sh} {k : Nat} : supB A k = true ↔ ∃ t, t < shK A ∧ ¬ t = k ∧ shU A t k = true := by
  unfold supB
  simp only [List.any_eq_true, List.mem_range, Bool.and_eq_true, decide_eq_true_eq]
theorem addK_ok {A : Sh} {j : Option Nat} (h : okV A) (hK : shK A < 4) (hj : ∀ i, j = some i → i < shK A) : okV (addK A j) := by
  obtain ⟨⟨a1, a2, a3, a4, a5, a6, a7⟩, b, c⟩ := h
  refine ⟨⟨by show shK A + 1 ≤ 4; omega, a2, a3, a4, fun k hk => ?_, fun k f hk hf => ?_, fun i hi => ?_⟩, fun k hk => ?_, fun k t hk ht => ?_⟩
  · show (if k = shK A then _ else _) ≤ 4
    by_cases e : k = shK A
    · rw [if_pos e]
      cases j with
      | none => exact Nat.zero_le _
      | some i => exact a5 i (by have := hj i rfl; omega)
    · rw [if_neg e]; exact a5 k hk
  · have hf : f < (if k = shK A then kC A j else shC A k) := hf
    have hk : k < shK A + 1 := hk
    show (if k = shK A then _ else _) < shK A + 1 ∨ (5 ≤ (if k = shK A then _ else _) ∧ (if k = shK A then _ else _) ≤ 7)
    by_cases e : k = shK A
    · rw [if_pos e] at hf ⊢
      cases j with
      | none => exact absurd hf (Nat.not_lt_zero _)
      | some i =>
        have := a6 i f (hj i rfl) hf
        show shT A i f < shK A + 1 ∨ _
        show shT A i f < shK A + 1 ∨ (5 ≤ shT A i f ∧ shT A i f ≤ 7)
        omega
    · rw [if_neg e] at hf ⊢
      have := a6 k f (by omega) hf
      omega
  · have := a7 i hi
    show shN A i < shK A + 1
    omega
  · have hk : k < shK A + 1 := hk
    show (if k = shK A then _ else _) = true
    by_cases e : k = shK A
    · rw [if_pos e]; simp
    · rw [if_neg e]; exact b k (by omega)
  · have hk : k < shK A + 1 := hk
    have ht : (if k = shK A then (decide (k = t) || kU A j t) else shU A k t) = true := ht
    show t ≤ k ∧ (if t = shK A then _ else _) ≤ (if k = shK A then _ else _) ∧ ∀ f, f < (if t = shK A then _ else _) → (if k = shK A then _ else _) = (if t = shK A then _ else _)
    by_cases e : k = shK A
    · rw [if_pos e] at ht
      by_cases et : k = t
      · subst et
        exact ⟨Nat.le_refl _, Nat.le_refl _, fun f _ => rfl⟩
      · rw [decide_eq_false et, Bool.false_or] at ht
        cases j with
        | none => cases ht
        | some i =>
          have hi := hj i rfl
          obtain ⟨g1, g2, g3⟩ := c i t hi ht
          have nt : ¬ t = shK A := by omega
          simp only [if_pos e, if_neg nt]
          exact ⟨by omega, g2, g3⟩
    · rw [if_neg e] at ht
      obtain ⟨g1, g2, g3⟩ := c k t (by omega) ht
      have nt : ¬ t = shK A := by omega
      simp only [if_neg e, if_neg nt]
      exact ⟨g1, g2, g3⟩
theorem addF_ok {A : Sh} {k t : Nat} (h : okV A) (hk : k < shK A) (hC : shC A k < 4) (ht : t < shK A ∨ (5 ≤ t ∧ t ≤ 7)) (hs : ¬ supB A k = true) : okV (addF A k t) := by
  obtain ⟨⟨a1, a2, a3, a4, a5, a6, a7⟩, b, c⟩ := h
  have hsup : ∀ k', k' < shK A → shU A k' k = true → k' = k := fun k' h1 h2 => by
    by_cases e : k' = k
    · exact e
    · exact absurd (supB_t.mpr ⟨k', h1, e, h2⟩) hs
  refine ⟨⟨a1, a2, a3, a4, fun k' hk' => ?_, fun k' f hk' hf => ?_, a7⟩, b, fun k' t' hk' ht' => ?_⟩
  · show upn (shC A) k (shC A k + 1) k' ≤ 4
    by_cases e : k' = k
    · rw [e, upn_s]; omega
    · rw [upn_n e]; exact a5 k' hk'
  · have hf : f < upn (shC A) k (shC A k + 1) k' := hf
    show (if k' = k ∧ f = shC A k then t else shT A k' f) < shK A ∨ (5 ≤ (if k' = k ∧ f = shC A k then t else shT A k' f) ∧ (if k' = k ∧ f = shC A k then t else shT A k' f) ≤ 7)
    by_cases e : k' = k ∧ f = shC A k
    · rw [if_pos e]; exact ht
    · rw [if_neg e]
      refine a6 k' f hk' ?_
      by_cases e2 : k' = k
      · subst e2
        rw [upn_s] at hf
        have : ¬ f = shC A k' := fun w => e ⟨rfl, w⟩
        omega
      · rw [upn_n e2] at hf; exact hf
  · have hk' : k' < shK A := hk'
    have ht' : shU A k' t' = true := ht'
    obtain ⟨g1, g2, g3⟩ := c k' t' hk' ht'
    show t' ≤ k' ∧ upn (shC A) k (shC A k + 1) t' ≤ upn (shC A) k (shC A k + 1) k' ∧ ∀ f, f < upn (shC A) k (shC A k + 1) t' → (if k' = k ∧ f = shC A k then t else shT A k' f) = (if t' = k ∧ f = shC A k then t else shT A t' f)
    by_cases e : t' = k
    · have ek : k' = k := hsup k' hk' (by rw [← e]; exact ht')
      subst e; subst ek
      exact ⟨Nat.le_refl _, Nat.le_refl _, fun f _ => rfl⟩
    · rw [upn_n e]
      refine ⟨g1, ?_, fun f hf => ?_⟩
      · by_cases ek : k' = k
        · subst ek; rw [upn_s]; omega
        · rw [upn_n ek]; exact g2
      · rw [if_neg (show ¬ (t' = k ∧ f = shC A k) from fun w => e w.1)]
        by_cases ek : k' = k ∧ f = shC A k
        · obtain ⟨e1, e2⟩ := ek
          subst e1
          omega
        · rw [if_neg ek]; exact g3 f hf
theorem addI_ok {A : Sh} {k : Nat} (h : okV A) (hk : k < shK A) (hI : shI A < 2) : okV (addI A k) := by
  obtain ⟨⟨a1, a2, a3, a4, a5, a6, a7⟩, b, c⟩ := h
  refine ⟨⟨a1, by show shI A + 1 ≤ 2; omega, a3, a4, a5, a6, fun i hi => ?_⟩, b, c⟩
  have hi : i < shI A + 1 := hi
  show upn (shN A) (shI A) k i < shK A
  by_cases e : i = shI A
  · rw [e, upn_s]; exact hk
  · rw [upn_n e]; exact a7 i (by omega)
theorem setB_ok {A : Sh} {n : Nat} (h : okV A) (h1 : 1 ≤ n) (h5 : n ≤ 5) : okV (setB A n) := by
  obtain ⟨⟨a1, a2, a3, a4, a5, a6, a7⟩, b, c⟩ := h
  exact ⟨⟨a1, a2, h1, h5, a5, a6, a7⟩, b, c⟩
/-- rules stay rules -/
theorem okQ_mono {A B : Sh} {q : Ru} (hK : shK A ≤ shK B) (hC : ∀ k, k < shK A → shC A k ≤ shC B k) (hT : ∀ k f, k < shK A → f < shC A k → shT B k f = shT A k f) (h : okQ A q) : okQ B q := by
  rcases h with h | ⟨h1, h2, h3, h4⟩
  · exact Or.inl h
  · refine Or.inr ⟨by omega, by have := hC _ h1; omega, by rw [hT _ _ h1 h2]; exact h3, ?_⟩
    rcases h4 with h4 | ⟨g1, g2⟩ | ⟨g1, g2, g3, g4⟩ | ⟨g1, g2, g3, g4⟩
    · exact Or.inl h4
    · refine Or.inr (Or.inl ⟨g1, ?_⟩)
      rcases g2 with g2 | ⟨k1, k2, k3⟩
      · exact Or.inl g2
      · exact Or.inr ⟨k1, by have := hC _ h1; omega, by rw [hT _ _ h1 k2]; exact k3⟩
    · exact Or.inr (Or.inr (Or.inl ⟨g1, g2, by have := hC _ h1; omega, by rw [hT _ _ h1 g3]; exact g4⟩))
    · exact Or.inr (Or.inr (Or.inr ⟨g1, g2, by have := hC _ h1; omega, by rw [hT _ _ h1 g3]; exact g4⟩))
theorem okQ_addK {A : Sh} {j : Option Nat} {q : Ru} (h : okQ A q) : okQ (addK A j) q := okQ_mono (A := A) (Nat.le_succ _) (fun k hk => by show _ ≤ (if k = shK A then _ else _); rw [if_neg (by omega)]; exact Nat.le_refl _) (fun k f hk hf => by show (if k = shK A then _ else _) = _; rw [if_neg (by omega)]) h
theorem okQ_addF {A : Sh} {k t : Nat} {q : Ru} (h : okQ A q) : okQ (addF A k t) q := okQ_mono (A := A) (Nat.le_refl _) (fun k' hk => by
    show _ ≤ upn (shC A) k (shC A k + 1) k'
    by_cases e : k' = k
    · rw [e, upn_s]; omega
    · rw [upn_n e]; exact Nat.le_refl _) (fun k' f hk hf => by
    show (if k' = k ∧ f = shC A k then t else shT A k' f) = _
    exact if_neg (fun w => by obtain ⟨e1, e2⟩ := w; subst e1; omega)) h
def spKind (A : Sh) (x : Int32) : Int32 × Sh :=
  if x = -1 then (if shK A = 4 then (-104, A) else (nI (shK A), addK A none))
  else if x < 0 ∨ shK A ≤ x.toNatClampNeg then (-101, A)
  else if shK A = 4 then (-104, A) else (nI (shK A), addK A (some x.toNatClampNeg))
def spField (A : Sh) (x y z : Int32) : Int32 × Sh :=
  if x < 0 ∨ shK A ≤ x.toNatClampNeg then (-101, A)
  else if y = 0 ∧ (z < 0 ∨ shK A ≤ z.toNatClampNeg) then (-101, A)
  else if y < 0 ∨ 1 < y.toNatClampNeg then (-102, A)
  else if y = 1 ∧ (z < 1 ∨ 3 < z) then (-102, A)
  else if supB A x.toNatClampNeg = true then (-103, A)
  else if shC A x.toNatClampNeg = 4 then (-104, A)
  else (nI (shC A x.toNatClampNeg), addF A x.toNatClampNeg (if y = 0 then z.toNatClampNeg else 4 + z.toNatClampNeg))
def spInput (A : Sh) (x : Int32) : Int32 × Sh :=
  if x < 0 ∨ shK A ≤ x.toNatClampNeg then (-101, A)
  else if shI A = 2 then (-104, A)
  else (nI (shI A), addI A x.toNatClampNeg)
def spBound (A : Sh) (x : Int32) : Int32 × Sh :=
  if x < 1 ∨ 5 < x then (-102, A) else (nI (shB A), setB A x.toNatClampNeg)
/-- no field of the kind -/
def noF (A : Sh) (k : Nat) (x : Int32) : Prop := x < 0 ∨ shC A k ≤ x.toNatClampNeg
def spAbout (A : Sh) (qs : List Ru) (ps : List Sp) (tw : List Int32) (x : Int32) : Int32 :=
  if x = 0 then nI (shK A) else if x = 1 then nI (shI A) else if x = 2 then nI (shB A) else if x = 3 then nI qs.length else if x = 4 then nI ps.length else if x = 5 then nI tw.length
  else if x < 10 ∨ 10 + shK A ≤ x.toNatClampNeg then -102 else nI (shC A (x.toNatClampNeg - 10))
def spStep (ps : List Sp) (x y z u v : Int32) : Int32 × List Sp :=
  if x < 0 ∨ 2 < x.toNatClampNeg then (-102, ps)
  else if y < 0 ∨ 3 < y.toNatClampNeg then (-102, ps)
  else if z < 0 ∨ 3 < z.toNatClampNeg then (-102, ps)
  else if ¬ x = 2 ∧ (u < 0 ∨ 3 < u.toNatClampNeg) then (-102, ps)
  else if ¬ x = 0 ∧ (v < 0 ∨ 16 < v.toNatClampNeg) then (-102, ps)
  else if ps.length = 16 then (-104, ps)
  else (nI ps.length, ps ++ [(x.toNatClampNeg, y.toNatClampNeg, z.toNatClampNeg, (if x = 2 then 0 else u.toNatClampNeg), (if x = 0 then 0 else v.toNatClampNeg))])
