/-! ===== L3, pure: what the rows of a shape are, by lists of numbers. A shape: (kinds, inputs, bound, how many fields, a field's type (a REF's kind, 4 + n of a NUMBER 0 .. n), under, an input's kind) ===== -/
abbrev Sh : Type := Nat × Nat × Nat × (Nat → Nat) × (Nat → Nat → Nat) × (Nat → Nat → Bool) × (Nat → Nat)
abbrev shK (A : Sh) : Nat := A.1
abbrev shI (A : Sh) : Nat := A.2.1
abbrev shB (A : Sh) : Nat := A.2.2.1
abbrev shC (A : Sh) : Nat → Nat := A.2.2.2.1
abbrev shT (A : Sh) : Nat → Nat → Nat := A.2.2.2.2.1
abbrev shU (A : Sh) : Nat → Nat → Bool := A.2.2.2.2.2.1
abbrev shN (A : Sh) : Nat → Nat := A.2.2.2.2.2.2
/-- the kinds of the objects that the choices meet -/
def obs (cs : List Nat) : List Nat := (cs.filter (fun c => decide (10 ≤ c))).map (fun c => c - 10)
/-- the type of field number q of these objects, one behind the other -/
def tyF (A : Sh) : List Nat → Nat → Option Nat
  | [], _ => none
  | k :: ks, q => if q < shC A k then some (shT A k q) else tyF A ks (q - shC A k)
/-- the type of the slot that waits behind these choices -/
def tyS (A : Sh) (cs : List Nat) : Option Nat := if cs.length < shI A then some (shN A cs.length) else tyF A (obs cs) (cs.length - shI A)
/-- a choice can be there -/
def alw (A : Sh) (cs : List Nat) (c : Nat) : Bool := match tyS A cs with
  | none => false
  | some t => if t < 4 then (c == 0 || (decide (1 ≤ c ∧ c ≤ (obs cs).length) && shU A ((obs cs).getD (c - 1) 0) t) || (decide (10 ≤ c ∧ c < 10 + shK A ∧ (obs cs).length < shB A) && shU A (c - 10) t)) else decide (c ≤ t - 4)
def fil (A : Sh) : Nat → List Nat → List Nat
  | 0, cs => cs
  | n + 1, cs => match tyS A cs with
    | none => cs
    | some _ => fil A n (cs ++ [0])
def nxc (A : Sh) (cs : List Nat) (c : Nat) : Option Nat := (List.range 14).find? (fun d => decide (c < d) && alw A cs d)
def rasR (A : Sh) : List Nat → Option (List Nat)
  | [] => none
  | c :: r => match nxc A r.reverse c with
    | some d => some (r.reverse ++ [d])
    | none => rasR A r
def ras (A : Sh) (cs : List Nat) : Option (List Nat) := rasR A cs.reverse
def rowsF (A : Sh) : Nat → List Nat → List (List Nat)
  | 0, _ => []
  | n + 1, r => r :: (match ras A r with
    | none => []
    | some s => rowsF A n (fil A 22 s))
/-- all rows in order; one more than 4000 tells that there are too many -/
def allR (A : Sh) : List (List Nat) := rowsF A 4001 (fil A 22 [])
/-- a shape within the document's bounds -/
def okA (A : Sh) : Prop := shK A ≤ 4 ∧ shI A ≤ 2 ∧ 1 ≤ shB A ∧ shB A ≤ 5 ∧ (∀ k, k < 4 → shC A k ≤ 4) ∧ (∀ k f, k < shK A → f < shC A k → shT A k f < shK A ∨ (5 ≤ shT A k f ∧ shT A k f ≤ 7)) ∧ ∀ i, i < shI A → shN A i < shK A
theorem obs_snoc (cs : List Nat) (c : Nat) : obs (cs ++ [c]) = obs cs ++ (if 10 ≤ c then [c - 10] else []) := by
  unfold obs
  rw [List.filter_append, List.map_append]
  by_cases h : 10 ≤ c <;> simp [h]
theorem obs_len_le (cs : List Nat) : (obs cs).length ≤ cs.length := by
  unfold obs
  rw [List.length_map]
  exact List.length_filter_le _ _
/-- behind all fields of the objects there is no slot -/
theorem tyF_none {A : Sh} (hA : okA A) : ∀ (ks : List Nat) (q : Nat), (∀ k ∈ ks, k < shK A) → 4 * ks.length ≤ q → tyF A ks q = none := by
  intro ks
  induction ks with
  | nil => intro q _ _; rfl
  | cons k ks ih =>
    intro q hk hq
    have h1 : shC A k ≤ 4 := hA.2.2.2.2.1 k (by have := hk k (List.mem_cons_self ..); have := hA.1; omega)
    rw [List.length_cons] at hq
    unfold tyF
    rw [if_neg (by omega)]
    exact ih _ (fun x hx => hk x (List.mem_cons_of_mem _ hx)) (by omega)
/-- choices that came by 'alw', one after the other -/
def okR (A : Sh) : List Nat → Prop
  | [] => True
  | c :: r => okR A r ∧ alw A r.reverse c = true
theorem tyF_in {A : Sh} (hA : okA A) : ∀ (ks : List Nat) (q t : Nat), (∀ k ∈ ks, k < shK A) → tyF A ks q = some t → t < shK A ∨ (5 ≤ t ∧ t ≤ 7) := by
  intro ks
  induction ks with
  | nil => intro q t _ h; cases h
  | cons k ks ih =>
    intro q t hk h
    unfold tyF at h
    by_cases hq : q < shC A k
    · rw [if_pos hq] at h
      cases h
      exact hA.2.2.2.2.2.1 k q (hk k (List.mem_cons_self ..)) hq
    · rw [if_neg hq] at h
      exact ih _ t (fun x hx => hk x (List.mem_cons_of_mem _ hx)) h
theorem tyS_in {A : Sh} (hA : okA A) {cs : List Nat} (ho : ∀ k ∈ obs cs, k < shK A) {t : Nat} (h : tyS A cs = some t) : t < shK A ∨ (5 ≤ t ∧ t ≤ 7) := by
  unfold tyS at h
  by_cases hl : cs.length < shI A
  · rw [if_pos hl] at h
    cases h
    exact Or.inl (hA.2.2.2.2.2.2 _ hl)
  · rw [if_neg hl] at h
    exact tyF_in hA _ _ _ ho h
/-- what a choice may be -/
theorem alw_in {A : Sh} (hA : okA A) {cs : List Nat} (hl : (obs cs).length ≤ shB A) (ho : ∀ k ∈ obs cs, k < shK A) {c : Nat} (h : alw A cs c = true) : (c ≤ 5 ∨ (10 ≤ c ∧ c < 10 + shK A ∧ (obs cs).length < shB A)) := by
  unfold alw at h
  cases ht : tyS A cs with
  | none => rw [ht] at h; cases h
  | some t =>
    rw [ht] at h
    dsimp only at h
    have h5 := hA.2.2.2.1
    by_cases h4 : t < 4
    · rw [if_pos h4] at h
      simp only [Bool.or_eq_true, Bool.and_eq_true, decide_eq_true_eq, beq_iff_eq] at h
      rcases h with (h | h) | h
      · omega
      · have := h.1.2
        omega
      · exact Or.inr ⟨h.1.1, h.1.2.1, h.1.2.2⟩
    · rw [if_neg h4] at h
      have h1 := of_decide_eq_true h
      have h2 := tyS_in hA ho ht
      have := hA.1
      omega
theorem okR_obs {A : Sh} (hA : okA A) : ∀ r : List Nat, okR A r → (obs r.reverse).length ≤ shB A ∧ ∀ k ∈ obs r.reverse, k < shK A := by
  intro r
  induction r with
  | nil => intro _; exact ⟨Nat.zero_le _, fun k hk => by simp [obs] at hk⟩
  | cons c r ih =>
    intro h
    obtain ⟨i1, i2⟩ := ih h.1
    have ha := alw_in hA i1 i2 h.2
    rw [List.reverse_cons, obs_snoc]
    by_cases hc : 10 ≤ c
    · rw [if_pos hc]
      refine ⟨by rw [List.length_append]; simp; omega, fun k hk => ?_⟩
      rcases List.mem_append.mp hk with h' | h'
      · exact i2 k h'
      · simp at h'; omega
    · rw [if_neg hc, List.append_nil]
      exact ⟨i1, i2⟩
/-- a slot waits only where fewer than 22 choices stand -/
theorem tyS_lt {A : Sh} (hA : okA A) {cs : List Nat} (hl : (obs cs).length ≤ shB A) (ho : ∀ k ∈ obs cs, k < shK A) {t : Nat} (h : tyS A cs = some t) : cs.length < 22 := by
  rcases Nat.lt_or_ge cs.length 22 with q | q
  · exact q
  · unfold tyS at h
    have h1 := hA.2.1
    have h2 := hA.2.2.2.1
    rw [if_neg (by omega), tyF_none hA _ _ ho (by omega)] at h
    cases h
/-- null, or the NUMBER 0, can always be there -/
theorem alw_0 {A : Sh} {cs : List Nat} {t : Nat} (h : tyS A cs = some t) : alw A cs 0 = true := by
  unfold alw
  rw [h]
  dsimp only
  by_cases h4 : t < 4
  · rw [if_pos h4]; simp
  · rw [if_neg h4]; simp
/-- a row is filled to its end -/
theorem fil_ok {A : Sh} (hA : okA A) : ∀ (n : Nat) (r : List Nat), okR A r → 22 ≤ r.length + n → (∃ r', fil A n r.reverse = List.reverse r' ∧ okR A r' ∧ tyS A r'.reverse = none ∧ r'.length ≤ 22) ∨ 22 < r.length := by
  intro n
  induction n with
  | zero =>
    intro r hr hn
    by_cases h22 : 22 < r.length
    · exact Or.inr h22
    · refine Or.inl ⟨r, rfl, hr, ?_, by omega⟩
      obtain ⟨i1, i2⟩ := okR_obs hA r hr
      cases ht : tyS A r.reverse with
      | none => rfl
      | some t => have := tyS_lt hA i1 i2 ht; rw [List.length_reverse] at this; omega
  | succ n ih =>
    intro r hr hn
    by_cases h22 : 22 < r.length
    · exact Or.inr h22
    · obtain ⟨i1, i2⟩ := okR_obs hA r hr
      unfold fil
      cases ht : tyS A r.reverse with
      | none => exact Or.inl ⟨r, rfl, hr, ht, by omega⟩
      | some t =>
        dsimp only
        have hlt := tyS_lt hA i1 i2 ht
        rw [List.length_reverse] at hlt
        have hr' : okR A (0 :: r) := ⟨hr, alw_0 ht⟩
        have h1 := ih (0 :: r) hr' (by rw [List.length_cons]; omega)
        rw [List.reverse_cons] at h1
        rcases h1 with h1 | h1
        · exact Or.inl h1
        · rw [List.length_cons] at h1; omega
