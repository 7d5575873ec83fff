/-! ===== L3, pure: rows of a shape. A shape: (kinds, inputs, bound, how many fields, a field's type (a REF's kind, 4 + n of a NUMBER 0 .. n), under, an input's kind). A row: how many choices, and the choices by their places. Slots have numbers: inputs 0 1, then four for each object ===== -/
abbrev Sh : Type := Nat × Nat × Nat × (Nat → Nat) × (Nat → Nat → Nat) × (Nat → Nat → Bool) × (Nat → Nat)
abbrev shK (A : Sh) : Nat := A.1
abbrev shI (A : Sh) : Nat := A.2.1
abbrev shB (A : Sh) : Nat := A.2.2.1
abbrev shC (A : Sh) : Nat → Nat := A.2.2.2.1
abbrev shT (A : Sh) : Nat → Nat → Nat := A.2.2.2.2.1
abbrev shU (A : Sh) : Nat → Nat → Bool := A.2.2.2.2.2.1
abbrev shN (A : Sh) : Nat → Nat := A.2.2.2.2.2.2
/-- a shape within the document's bounds -/
def okA (A : Sh) : Prop := shK A ≤ 4 ∧ shI A ≤ 2 ∧ 1 ≤ shB A ∧ shB A ≤ 5 ∧ (∀ k, k < 4 → shC A k ≤ 4) ∧ (∀ k f, k < shK A → f < shC A k → shT A k f < shK A ∨ (5 ≤ shT A k f ∧ shT A k f ≤ 7)) ∧ ∀ i, i < shI A → shN A i < shK A
/-- the type of a slot, with objects of the kinds ks -/
def typ (A : Sh) (ks : List Nat) (s : Nat) : Option Nat :=
  if s < 2 then (if s < shI A then some (shN A s) else none)
  else if (s - 2) / 4 < ks.length ∧ (s - 2) % 4 < shC A (ks.getD ((s - 2) / 4) 0) then some (shT A (ks.getD ((s - 2) / 4) 0) ((s - 2) % 4)) else none
def waiF (A : Sh) (ks : List Nat) : Nat → Nat → Option Nat
  | 0, _ => none
  | n + 1, s => if (typ A ks s).isSome = true then some s else waiF A ks n (s + 1)
/-- the first slot from s on that is there -/
def wai (A : Sh) (ks : List Nat) (s : Nat) : Option Nat := waiF A ks (22 - s) s
theorem wai_hit {A : Sh} {ks : List Nat} {s t : Nat} (h : s < 22) (ht : typ A ks s = some t) : wai A ks s = some s := by
  unfold wai
  obtain ⟨n, e⟩ : ∃ n, 22 - s = n + 1 := ⟨21 - s, by omega⟩
  rw [e]
  unfold waiF
  rw [ht]
  rfl
theorem wai_end {A : Sh} {ks : List Nat} {s : Nat} (h : 22 ≤ s) : wai A ks s = none := by
  unfold wai
  rw [show 22 - s = 0 by omega]
  rfl
theorem wai_skip {A : Sh} {ks : List Nat} {s : Nat} (ht : typ A ks s = none) : wai A ks s = wai A ks (s + 1) := by
  rcases Nat.lt_or_ge s 22 with h | h
  · unfold wai
    obtain ⟨n, e⟩ : ∃ n, 22 - s = n + 1 := ⟨21 - s, by omega⟩
    rw [e, show 22 - (s + 1) = n by omega]
    show (if (typ A ks s).isSome = true then some s else waiF A ks n (s + 1)) = _
    rw [ht]
    rfl
  · rw [wai_end h, wai_end (by omega)]
theorem wai_skips {A : Sh} {ks : List Nat} : ∀ (d s : Nat), (∀ j, s ≤ j → j < s + d → typ A ks j = none) → wai A ks s = wai A ks (s + d) := by
  intro d
  induction d with
  | zero => intro s _; rfl
  | succ d ih =>
    intro s h
    rw [wai_skip (h s (Nat.le_refl _) (by omega)), ih (s + 1) (fun j h1 h2 => h j (by omega) (by omega))]
    congr 1
    omega
theorem wai_none {A : Sh} {ks : List Nat} {s : Nat} (h : ∀ j, s ≤ j → typ A ks j = none) : wai A ks s = none := by
  rw [wai_skips 22 s (fun j h1 _ => h j h1), wai_end (by omega)]
theorem wai_some {A : Sh} {ks : List Nat} : ∀ (n s w : Nat), 22 - s = n → wai A ks s = some w → s ≤ w ∧ w < 22 ∧ (∃ t, typ A ks w = some t) ∧ ∀ j, s ≤ j → j < w → typ A ks j = none := by
  intro n
  induction n with
  | zero => intro s w e h; rw [wai_end (by omega)] at h; cases h
  | succ n ih =>
    intro s w e h
    cases ht : typ A ks s with
    | some t =>
      rw [wai_hit (by omega) ht] at h
      cases h
      exact ⟨Nat.le_refl _, by omega, ⟨t, ht⟩, fun j h1 h2 => by omega⟩
    | none =>
      rw [wai_skip ht] at h
      obtain ⟨h1, h2, h3, h4⟩ := ih (s + 1) w (by omega) h
      refine ⟨by omega, h2, h3, fun j j1 j2 => ?_⟩
      rcases Nat.lt_or_ge s j with q | q
      · exact h4 j q j2
      · rw [show j = s by omega]; exact ht
theorem wai_noneE {A : Sh} {ks : List Nat} : ∀ (n s : Nat), 22 - s = n → wai A ks s = none → ∀ j, s ≤ j → j < 22 → typ A ks j = none := by
  intro n
  induction n with
  | zero => intro s e h j h1 h2; omega
  | succ n ih =>
    intro s e h j h1 h2
    cases ht : typ A ks s with
    | some t => rw [wai_hit (by omega) ht] at h; cases h
    | none =>
      rw [wai_skip ht] at h
      rcases Nat.lt_or_ge s j with q | q
      · exact ih (s + 1) (by omega) h j q h2
      · rw [show j = s by omega]; exact ht
/-- a slot that is there stands before the end of the objects -/
theorem typ_lt {A : Sh} {ks : List Nat} {s t : Nat} (hA : okA A) (hk : ∀ k ∈ ks, k < shK A) (h : typ A ks s = some t) : s < 2 + 4 * ks.length := by
  unfold typ at h
  by_cases h2 : s < 2
  · omega
  · rw [if_neg h2] at h
    by_cases h3 : (s - 2) / 4 < ks.length ∧ (s - 2) % 4 < shC A (ks.getD ((s - 2) / 4) 0)
    · omega
    · rw [if_neg h3] at h; cases h
theorem typ_old {A : Sh} {ks l : List Nat} {s : Nat} (h : s < 2 + 4 * ks.length) : typ A (ks ++ l) s = typ A ks s := by
  unfold typ
  by_cases h2 : s < 2
  · rw [if_pos h2, if_pos h2]
  · rw [if_neg h2, if_neg h2]
    have h3 : (s - 2) / 4 < ks.length := by omega
    have e : (ks ++ l).getD ((s - 2) / 4) 0 = ks.getD ((s - 2) / 4) 0 := by
      rw [List.getD_eq_getElem?_getD, List.getD_eq_getElem?_getD, List.getElem?_append_left h3]
    rw [e]
    by_cases h4 : (s - 2) % 4 < shC A (ks.getD ((s - 2) / 4) 0)
    · rw [if_pos ⟨by rw [List.length_append]; omega, h4⟩, if_pos ⟨h3, h4⟩]
    · rw [if_neg (fun q => h4 q.2), if_neg (fun q => h4 q.2)]
theorem typ_in {A : Sh} {ks : List Nat} {s t : Nat} (hA : okA A) (hk : ∀ k ∈ ks, k < shK A) (h : typ A ks s = some t) : t < shK A ∨ (5 ≤ t ∧ t ≤ 7) := by
  unfold typ at h
  by_cases h2 : s < 2
  · rw [if_pos h2] at h
    by_cases h3 : s < shI A
    · rw [if_pos h3] at h
      cases h
      exact Or.inl (hA.2.2.2.2.2.2 _ h3)
    · rw [if_neg h3] at h; cases h
  · rw [if_neg h2] at h
    by_cases h3 : (s - 2) / 4 < ks.length ∧ (s - 2) % 4 < shC A (ks.getD ((s - 2) / 4) 0)
    · rw [if_pos h3] at h
      cases h
      refine hA.2.2.2.2.2.1 _ _ (hk _ ?_) h3.2
      rw [List.getD_eq_getElem?_getD, List.getElem?_eq_getElem h3.1]
      exact List.getElem_mem h3.1
    · rw [if_neg h3] at h; cases h
/-- the kinds of the objects that the first n choices meet -/
def ob (a : Nat → Nat) : Nat → List Nat
  | 0 => []
  | n + 1 => ob a n ++ (if 10 ≤ a n then [a n - 10] else [])
/-- the slot that waits behind n choices -/
def sl (A : Sh) (a : Nat → Nat) : Nat → Option Nat
  | 0 => wai A [] 0
  | n + 1 => match sl A a n with
    | none => none
    | some s => wai A (ob a (n + 1)) (s + 1)
/-- what n choices tell of a slot: an object's number and 1, 0 for null; or the NUMBER -/
def td (A : Sh) (a : Nat → Nat) : Nat → Nat → Nat
  | 0, _ => 0
  | n + 1, s => if sl A a n = some s then (if 10 ≤ a n then (ob a n).length + 1 else a n) else td A a n s
/-- a choice can be there, with objects of the kinds ks, in a slot of type t -/
def alw (A : Sh) (ks : List Nat) (t c : Nat) : Bool := if t < 4 then (c == 0 || (decide (1 ≤ c ∧ c ≤ ks.length) && shU A (ks.getD (c - 1) 0) t) || (decide (10 ≤ c ∧ c < 10 + shK A ∧ ks.length < shB A) && shU A (c - 10) t)) else decide (c ≤ t - 4)
/-- the first n choices can be there -/
def okR (A : Sh) (a : Nat → Nat) (n : Nat) : Prop := ∀ p, p < n → ∃ s t, sl A a p = some s ∧ typ A (ob a p) s = some t ∧ alw A (ob a p) t (a p) = true
theorem okR_le {A : Sh} {a : Nat → Nat} {n m : Nat} (h : okR A a n) (hm : m ≤ n) : okR A a m := fun p hp => h p (Nat.lt_of_lt_of_le hp hm)
theorem ob_eq {a b : Nat → Nat} : ∀ n, (∀ p, p < n → a p = b p) → ob a n = ob b n := by
  intro n
  induction n with
  | zero => intro _; rfl
  | succ n ih =>
    intro h
    show ob a n ++ _ = ob b n ++ _
    rw [ih (fun p hp => h p (by omega)), h n (by omega)]
theorem sl_eq {A : Sh} {a b : Nat → Nat} : ∀ n, (∀ p, p < n → a p = b p) → sl A a n = sl A b n := by
  intro n
  induction n with
  | zero => intro _; rfl
  | succ n ih =>
    intro h
    unfold sl
    rw [ih (fun p hp => h p (by omega)), ob_eq (n + 1) h]
theorem td_eq {A : Sh} {a b : Nat → Nat} : ∀ n, (∀ p, p < n → a p = b p) → td A a n = td A b n := by
  intro n
  induction n with
  | zero => intro _; rfl
  | succ n ih =>
    intro h
    funext s
    unfold td
    rw [ih (fun p hp => h p (by omega)), sl_eq n (fun p hp => h p (by omega)), ob_eq n (fun p hp => h p (by omega)), h n (by omega)]
theorem okR_eq {A : Sh} {a b : Nat → Nat} {n : Nat} (e : ∀ p, p < n → a p = b p) (h : okR A a n) : okR A b n := by
  intro p hp
  obtain ⟨s, t, h1, h2, h3⟩ := h p hp
  have ep : ∀ q, q < p → a q = b q := fun q hq => e q (by omega)
  exact ⟨s, t, by rw [← sl_eq p ep]; exact h1, by rw [← ob_eq p ep]; exact h2, by rw [← ob_eq p ep, ← e p hp]; exact h3⟩
theorem ob_len_le (a : Nat → Nat) : ∀ n, (ob a n).length ≤ n := by
  intro n
  induction n with
  | zero => exact Nat.le_refl _
  | succ n ih =>
    show (ob a n ++ _).length ≤ _
    rw [List.length_append]
    by_cases h : 10 ≤ a n
    · rw [if_pos h]; simp; omega
    · rw [if_neg h]; simp; omega
theorem alw_in {A : Sh} {ks : List Nat} {t c : Nat} (hA : okA A) (hl : ks.length ≤ shB A) (ht : t < shK A ∨ (5 ≤ t ∧ t ≤ 7)) (h : alw A ks t c = true) : c ≤ 5 ∨ (10 ≤ c ∧ c < 10 + shK A ∧ ks.length < shB A) := by
  unfold alw at h
  have h5 := hA.2.2.2.1
  by_cases h4 : t < 4
  · rw [if_pos h4] at h
    simp only [Bool.or_eq_true, Bool.and_eq_true, decide_eq_true_eq, beq_iff_eq] at h
    rcases h with (h | h) | h
    · omega
    · have := h.1.2
      omega
    · exact Or.inr ⟨h.1.1, h.1.2.1, h.1.2.2⟩
  · rw [if_neg h4] at h
    have h1 := of_decide_eq_true h
    have := hA.1
    omega
theorem ob_ok {A : Sh} {a : Nat → Nat} (hA : okA A) : ∀ n, okR A a n → (ob a n).length ≤ shB A ∧ ∀ k ∈ ob a n, k < shK A := by
  intro n
  induction n with
  | zero => intro _; exact ⟨Nat.zero_le _, fun k hk => by simp [ob] at hk⟩
  | succ n ih =>
    intro h
    obtain ⟨i1, i2⟩ := ih (okR_le h (by omega))
    obtain ⟨s, t, h1, h2, h3⟩ := h n (by omega)
    have ha := alw_in hA i1 (typ_in hA i2 h2) h3
    show (ob a n ++ _).length ≤ _ ∧ ∀ k ∈ ob a n ++ _, _
    by_cases hc : 10 ≤ a n
    · rw [if_pos hc]
      refine ⟨by rw [List.length_append]; simp; omega, fun k hk => ?_⟩
      rcases List.mem_append.mp hk with h' | h'
      · exact i2 k h'
      · simp at h'; omega
    · rw [if_neg hc, List.append_nil]
      exact ⟨i1, i2⟩
theorem sl_some {A : Sh} {a : Nat → Nat} : ∀ n s, sl A a n = some s → n ≤ s ∧ s < 22 ∧ ∃ t, typ A (ob a n) s = some t := by
  intro n
  induction n with
  | zero =>
    intro s h
    obtain ⟨h1, h2, h3, -⟩ := wai_some _ 0 s rfl h
    exact ⟨h1, h2, h3⟩
  | succ n ih =>
    intro s h
    unfold sl at h
    cases e : sl A a n with
    | none => rw [e] at h; cases h
    | some w =>
      rw [e] at h
      obtain ⟨h1, h2, h3, -⟩ := wai_some _ (w + 1) s rfl h
      have := (ih w e).1
      exact ⟨by omega, h2, h3⟩
theorem okR_22 {A : Sh} {a : Nat → Nat} {n : Nat} (h : okR A a n) : n ≤ 22 := by
  rcases Nat.lt_or_ge 22 n with q | q
  · obtain ⟨s, t, h1, -, -⟩ := h 22 q
    have := sl_some 22 s h1
    omega
  · exact q
theorem okR_lt {A : Sh} {a : Nat → Nat} {n s : Nat} (h : sl A a n = some s) : n < 22 := by
  have := sl_some n s h
  omega
theorem okR_c {A : Sh} {a : Nat → Nat} (hA : okA A) {n p : Nat} (h : okR A a n) (hp : p < n) : a p ≤ 5 ∨ (10 ≤ a p ∧ a p < 10 + shK A ∧ (ob a p).length < shB A) := by
  obtain ⟨s, t, h1, h2, h3⟩ := h p hp
  obtain ⟨i1, i2⟩ := ob_ok hA p (okR_le h (by omega))
  exact alw_in hA i1 (typ_in hA i2 h2) h3
theorem alw_0 (A : Sh) (ks : List Nat) (t : Nat) : alw A ks t 0 = true := by
  unfold alw
  by_cases h4 : t < 4
  · rw [if_pos h4]; simp
  · rw [if_neg h4]; simp
theorem okR_s {A : Sh} {a : Nat → Nat} {n s t : Nat} (h : okR A a n) (h1 : sl A a n = some s) (h2 : typ A (ob a n) s = some t) (h3 : alw A (ob a n) t (a n) = true) : okR A a (n + 1) := by
  intro p hp
  rcases Nat.lt_or_ge p n with q | q
  · exact h p q
  · rw [show p = n by omega]
    exact ⟨s, t, h1, h2, h3⟩
/-- slots rise along the row -/
theorem sl_lt {A : Sh} {a : Nat → Nat} : ∀ (d p : Nat) (s w : Nat), sl A a p = some s → sl A a (p + d + 1) = some w → s < w := by
  intro d
  induction d with
  | zero =>
    intro p s w h1 h2
    unfold sl at h2
    rw [h1] at h2
    have := (wai_some _ (s + 1) w rfl h2).1
    omega
  | succ d ih =>
    intro p s w h1 h2
    rw [show p + (d + 1) + 1 = (p + d + 1) + 1 by omega] at h2
    unfold sl at h2
    cases e : sl A a (p + d + 1) with
    | none => rw [e] at h2; cases h2
    | some m =>
      rw [e] at h2
      have h3 := (wai_some _ (m + 1) w rfl h2).1
      have := ih p s m h1 e
      omega
theorem sl_ltn {A : Sh} {a : Nat → Nat} {p n s w : Nat} (h : p < n) (h1 : sl A a p = some s) (h2 : sl A a n = some w) : s < w :=
  sl_lt (n - p - 1) p s w h1 (by rw [show p + (n - p - 1) + 1 = n by omega]; exact h2)
/-- what is told of a slot stays -/
theorem td_keep {A : Sh} {a : Nat → Nat} {n s : Nat} (h : ∀ w, sl A a n = some w → s < w) : td A a (n + 1) s = td A a n s := by
  show (if sl A a n = some s then (if 10 ≤ a n then (ob a n).length + 1 else a n) else td A a n s) = td A a n s
  exact if_neg (fun e => by have := h s e; omega)
theorem td_new {A : Sh} {a : Nat → Nat} {n s : Nat} (h : sl A a n = some s) : td A a (n + 1) s = if 10 ≤ a n then (ob a n).length + 1 else a n := by
  conv => lhs; unfold td
  rw [if_pos h]
/-- from here on nothing waits any more -/
theorem sl_none {A : Sh} {a : Nat → Nat} {n : Nat} (h : sl A a n = none) : ∀ d, sl A a (n + d) = none := by
  intro d
  induction d with
  | zero => exact h
  | succ d ih =>
    show sl A a ((n + d) + 1) = none
    unfold sl
    rw [ih]
def upn (a : Nat → Nat) (n c : Nat) : Nat → Nat := fun p => if p = n then c else a p
theorem upn_s (a : Nat → Nat) (n c : Nat) : upn a n c n = c := if_pos rfl
theorem upn_n {a : Nat → Nat} {n c p : Nat} (h : p ≠ n) : upn a n c p = a p := if_neg h
theorem upn_lt {a : Nat → Nat} {n c : Nat} : ∀ p, p < n → a p = upn a n c p := fun p hp => (upn_n (by omega)).symm
/-- a row is filled to its end -/
def fil (A : Sh) : Nat → Nat → (Nat → Nat) → Nat × (Nat → Nat)
  | 0, n, a => (n, a)
  | m + 1, n, a => match sl A a n with
    | none => (n, a)
    | some _ => fil A m (n + 1) (upn a n 0)
/-- the next choice that can be there, from c on -/
def nx (A : Sh) (ks : List Nat) (t : Nat) : Nat → Nat → Option Nat
  | 0, _ => none
  | m + 1, c => if alw A ks t c = true then some c else nx A ks t m (c + 1)
/-- the type of the slot that waits behind n choices (no matter what, if none does) -/
def tyW (A : Sh) (a : Nat → Nat) (n : Nat) : Nat := match sl A a n with
  | none => 0
  | some s => (typ A (ob a n) s).getD 0
def nxc (A : Sh) (a : Nat → Nat) (p : Nat) : Option Nat := nx A (ob a p) (tyW A a p) (13 - a p) (a p + 1)
def ras (A : Sh) (a : Nat → Nat) : Nat → Option (Nat × (Nat → Nat))
  | 0 => none
  | p + 1 => match nxc A a p with
    | some d => some (p + 1, upn a p d)
    | none => ras A a p
def nxt (A : Sh) (r : Nat × (Nat → Nat)) : Option (Nat × (Nat → Nat)) := match ras A r.2 r.1 with
  | none => none
  | some s => some (fil A 22 s.1 s.2)
def rwF (A : Sh) : Nat → Nat × (Nat → Nat) → List (Nat × (Nat → Nat))
  | 0, _ => []
  | n + 1, r => r :: (match nxt A r with
    | none => []
    | some s => rwF A n s)
/-- the first row -/
def row0 (A : Sh) : Nat × (Nat → Nat) := fil A 22 0 (fun _ => 0)
/-- all rows in order; one more than 4000 tells that there are too many -/
def allR (A : Sh) : List (Nat × (Nat → Nat)) := rwF A 4001 (row0 A)
/-- a row from its first choice to its end -/
def okW (A : Sh) (r : Nat × (Nat → Nat)) : Prop := okR A r.2 r.1 ∧ sl A r.2 r.1 = none
theorem fil_ok {A : Sh} : ∀ (m n : Nat) (a : Nat → Nat), okR A a n → 22 ≤ n + m → okW A (fil A m n a) ∧ (∀ p, p < n → (fil A m n a).2 p = a p) ∧ n ≤ (fil A m n a).1 := by
  intro m
  induction m with
  | zero =>
    intro n a h hn
    refine ⟨⟨h, ?_⟩, fun p _ => rfl, Nat.le_refl _⟩
    cases e : sl A a n with
    | none => exact e
    | some s => have := okR_lt e; omega
  | succ m ih =>
    intro n a h hn
    unfold fil
    cases e : sl A a n with
    | none => exact ⟨⟨h, e⟩, fun p _ => rfl, Nat.le_refl _⟩
    | some s =>
      dsimp only
      obtain ⟨-, -, t, ht⟩ := sl_some n s e
      have e1 := sl_eq (A := A) n (upn_lt (a := a) (n := n) (c := 0))
      have e2 := ob_eq n (upn_lt (a := a) (n := n) (c := 0))
      have h1 : okR A (upn a n 0) (n + 1) := okR_s (okR_eq upn_lt h) (by rw [← e1]; exact e) (by rw [← e2]; exact ht) (by rw [upn_s]; exact alw_0 ..)
      obtain ⟨j1, j2, j3⟩ := ih (n + 1) (upn a n 0) h1 (by omega)
      exact ⟨j1, fun p hp => by rw [j2 p (by omega), upn_n (by omega)], by omega⟩
theorem nx_some {A : Sh} {ks : List Nat} {t : Nat} : ∀ (m c d : Nat), nx A ks t m c = some d → c ≤ d ∧ d < c + m ∧ alw A ks t d = true := by
  intro m
  induction m with
  | zero => intro c d h; cases h
  | succ m ih =>
    intro c d h
    unfold nx at h
    by_cases q : alw A ks t c = true
    · rw [if_pos q] at h
      cases h
      exact ⟨Nat.le_refl _, by omega, q⟩
    · rw [if_neg q] at h
      obtain ⟨h1, h2, h3⟩ := ih _ _ h
      exact ⟨by omega, by omega, h3⟩
/-- the one row stands before the other -/
def lxt (r s : Nat × (Nat → Nat)) : Prop := ∃ p, p < r.1 ∧ p < s.1 ∧ (∀ j, j < p → r.2 j = s.2 j) ∧ r.2 p < s.2 p
theorem lxt_tr {r s q : Nat × (Nat → Nat)} (h1 : lxt r s) (h2 : lxt s q) : lxt r q := by
  obtain ⟨p, a1, a2, a3, a4⟩ := h1
  obtain ⟨w, b1, b2, b3, b4⟩ := h2
  rcases Nat.lt_trichotomy p w with h | h | h
  · exact ⟨p, a1, by omega, fun j hj => by rw [a3 j hj, b3 j (by omega)], by rw [← b3 p h]; exact a4⟩
  · subst h
    exact ⟨p, a1, b2, fun j hj => by rw [a3 j hj, b3 j hj], by omega⟩
  · exact ⟨w, by omega, b2, fun j hj => by rw [a3 j (by omega), b3 j hj], by rw [a3 w h]; exact b4⟩
theorem ras_ok {A : Sh} {a : Nat → Nat} {n : Nat} (h : okR A a n) : ∀ (p : Nat), p ≤ n → ∀ s, ras A a p = some s → okR A s.2 s.1 ∧ 1 ≤ s.1 ∧ s.1 ≤ p ∧ (∀ j, j < s.1 - 1 → s.2 j = a j) ∧ a (s.1 - 1) < s.2 (s.1 - 1) := by
  intro p
  induction p with
  | zero => intro _ s e; cases e
  | succ p ih =>
    intro hp s e
    unfold ras at e
    cases q : nxc A a p with
    | none =>
      rw [q] at e
      obtain ⟨h1, h2, h3, h4⟩ := ih (by omega) s e
      exact ⟨h1, h2, by omega, h4⟩
    | some d =>
      rw [q] at e
      cases e
      obtain ⟨w, t, g1, g2, g3⟩ := h p (by omega)
      obtain ⟨j1, j2, j3⟩ := nx_some _ _ _ q
      have et : tyW A a p = t := by unfold tyW; rw [g1]; dsimp only; rw [g2]; rfl
      rw [et] at j3
      have e1 := sl_eq (A := A) p (upn_lt (a := a) (n := p) (c := d))
      have e2 := ob_eq p (upn_lt (a := a) (n := p) (c := d))
      refine ⟨okR_s (okR_eq upn_lt (okR_le h (by omega))) (by rw [← e1]; exact g1) (by rw [← e2]; exact g2) ?_, by simp, by simp, ?_, ?_⟩
      · rw [← e2]
        show alw A _ _ (upn a p d p) = true
        rw [upn_s]
        exact j3
      · intro j hj
        show upn a p d j = a j
        exact upn_n (by simp at hj; omega)
      · show a (p + 1 - 1) < upn a p d (p + 1 - 1)
        rw [show p + 1 - 1 = p from rfl, upn_s]
        omega
theorem nxt_ok {A : Sh} {r s : Nat × (Nat → Nat)} (h : okW A r) (e : nxt A r = some s) : okW A s ∧ lxt r s := by
  unfold nxt at e
  cases q : ras A r.2 r.1 with
  | none => rw [q] at e; cases e
  | some w =>
    rw [q] at e
    cases e
    obtain ⟨h1, h2, h3, h4, h5⟩ := ras_ok h.1 r.1 (Nat.le_refl _) w q
    obtain ⟨j1, j2, j3⟩ := fil_ok 22 w.1 w.2 h1 (by omega)
    refine ⟨j1, w.1 - 1, by omega, by omega, fun j hj => ?_, ?_⟩
    · rw [j2 j (by omega), h4 j hj]
    · rw [j2 _ (by omega)]
      exact h5
theorem row0_ok (A : Sh) : okW A (row0 A) := (fil_ok 22 0 (fun _ => 0) (fun p hp => by omega) (by omega)).1
theorem rwF_ok {A : Sh} : ∀ (n : Nat) (r : Nat × (Nat → Nat)), okW A r → (∀ s ∈ rwF A n r, okW A s ∧ (s = r ∨ lxt r s)) ∧ (rwF A n r).Pairwise lxt := by
  intro n
  induction n with
  | zero => intro r h; exact ⟨fun s hs => by simp [rwF] at hs, List.Pairwise.nil⟩
  | succ n ih =>
    intro r h
    unfold rwF
    cases e : nxt A r with
    | none =>
      refine ⟨fun s hs => ?_, ?_⟩
      · simp at hs
        rw [hs]
        exact ⟨h, Or.inl rfl⟩
      · simp
    | some w =>
      dsimp only
      obtain ⟨w1, w2⟩ := nxt_ok h e
      obtain ⟨i1, i2⟩ := ih w w1
      refine ⟨fun s hs => ?_, ?_⟩
      · rcases List.mem_cons.mp hs with q | q
        · rw [q]; exact ⟨h, Or.inl rfl⟩
        · obtain ⟨q1, q2⟩ := i1 s q
          refine ⟨q1, Or.inr ?_⟩
          rcases q2 with q2 | q2
          · rw [q2]; exact w2
          · exact lxt_tr w2 q2
      · refine List.Pairwise.cons (fun s hs => ?_) i2
        obtain ⟨q1, q2⟩ := i1 s hs
        rcases q2 with q2 | q2
        · rw [q2]; exact w2
        · exact lxt_tr w2 q2
theorem allR_ok (A : Sh) : ∀ s ∈ allR A, okW A s := fun s hs => ((rwF_ok 4001 _ (row0_ok A)).1 s hs).1
theorem allR_lt (A : Sh) : (allR A).Pairwise lxt := (rwF_ok 4001 _ (row0_ok A)).2
theorem rwF_len {A : Sh} : ∀ (n : Nat) (r : Nat × (Nat → Nat)), (rwF A n r).length ≤ n := by
  intro n
  induction n with
  | zero => intro r; exact Nat.le_refl _
  | succ n ih =>
    intro r
    unfold rwF
    cases e : nxt A r with
    | none => simp
    | some w => dsimp only; rw [List.length_cons]; have := ih w; omega
theorem allR_len (A : Sh) : (allR A).length ≤ 4001 := rwF_len _ _
/-- how a value stands in a register: of a REF one less -/
def mv (t x : Nat) : Int32 := if t < 4 then nI x - 1 else nI x
