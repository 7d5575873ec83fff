/-! ===== L3, pure: what a row tells; the rules ===== -/
theorem slot_0 {A : Sh} {a : Nat → Nat} {s t : Nat} (hA : okA A) (ht : typ A [] s = some t) (h : ∀ w, sl A a 0 = some w → s < w) : False := by
  have hs := typ_lt hA (by simp) ht
  cases e : wai A [] 0 with
  | none => rw [wai_noneE _ 0 rfl e s (Nat.zero_le _) (by simp at hs; omega)] at ht; cases ht
  | some w =>
    have h1 := h w e
    rw [(wai_some _ 0 w rfl e).2.2.2 s (Nat.zero_le _) h1] at ht
    cases ht
theorem slot_split {A : Sh} {a : Nat → Nat} {n s t w : Nat} (hA : okA A) (hok : okR A a (n + 1)) (hw : sl A a n = some w) (ht : typ A (ob a (n + 1)) s = some t) (h : ∀ w', sl A a (n + 1) = some w' → s < w') : (s = w ∨ s < w) ∧ typ A (ob a n) s = some t := by
  obtain ⟨i1, i2⟩ := ob_ok hA _ hok
  obtain ⟨k1, k2⟩ := ob_ok hA n (okR_le hok (by omega))
  obtain ⟨-, -, tw, htw⟩ := sl_some n w hw
  have hB := hA.2.2.2.1
  have hs := typ_lt hA i2 ht
  have hwl := typ_lt hA k2 htw
  have e : sl A a (n + 1) = wai A (ob a (n + 1)) (w + 1) := by
    show (match sl A a n with
      | none => none
      | some s => wai A (ob a (n + 1)) (s + 1)) = _
    rw [hw]
  have hle : s ≤ w := by
    rcases Nat.lt_or_ge w s with q | q
    · exfalso
      cases e' : wai A (ob a (n + 1)) (w + 1) with
      | none => rw [wai_noneE _ (w + 1) rfl e' s q (by omega)] at ht; cases ht
      | some w' =>
        have h1 := h w' (by rw [e, e'])
        rw [(wai_some _ (w + 1) w' rfl e').2.2.2 s q h1] at ht
        cases ht
    · exact q
  refine ⟨by omega, ?_⟩
  rw [← ht]
  exact (typ_old (l := if 10 ≤ a n then [a n - 10] else []) (by omega)).symm
theorem td_ok {A : Sh} {a : Nat → Nat} (hA : okA A) : ∀ n, okR A a n → ∀ s t, typ A (ob a n) s = some t → (∀ w, sl A a n = some w → s < w) → (t < 4 → td A a n s ≤ (ob a n).length) ∧ (¬ t < 4 → td A a n s ≤ 3) := by
  intro n
  induction n with
  | zero => intro _ s t h1 h2; exact (slot_0 hA h1 h2).elim
  | succ n ih =>
    intro hok s t h1 h2
    obtain ⟨w, tw, g1, g2, g3⟩ := hok n (by omega)
    obtain ⟨q1, q2⟩ := slot_split hA hok g1 h1 h2
    have hle : (ob a n).length ≤ (ob a (n + 1)).length := by show _ ≤ (ob a n ++ _).length; rw [List.length_append]; omega
    rcases q1 with q1 | q1
    · subst q1
      rw [g2] at q2
      cases q2
      rw [td_new g1]
      obtain ⟨i1, i2⟩ := ob_ok hA n (okR_le hok (by omega))
      have hin := typ_in hA i2 g2
      have hK := hA.1
      unfold alw at g3
      by_cases h4 : t < 4
      · rw [if_pos h4] at g3
        refine ⟨fun _ => ?_, fun q => absurd h4 q⟩
        by_cases h10 : 10 ≤ a n
        · rw [if_pos h10]
          show _ ≤ (ob a n ++ _).length
          rw [if_pos h10, List.length_append]
          simp
        · rw [if_neg h10]
          simp only [Bool.or_eq_true, Bool.and_eq_true, decide_eq_true_eq, beq_iff_eq] at g3
          rcases g3 with (g3 | g3) | g3
          · omega
          · have := g3.1.2; omega
          · have := g3.1.1; omega
      · rw [if_neg h4] at g3
        have := of_decide_eq_true g3
        refine ⟨fun q => absurd q h4, fun _ => ?_⟩
        rw [if_neg (by omega)]
        omega
    · have := ih (okR_le hok (by omega)) s t q2 (fun w' hw' => by rw [g1] at hw'; cases hw'; exact q1)
      rw [td_keep (fun w' hw' => by rw [g1] at hw'; cases hw'; exact q1)]
      exact ⟨fun q => Nat.le_trans (this.1 q) hle, this.2⟩
/-- a heap: the kinds of its objects, what field f of object o tells, what input i tells (objects one more, null 0) -/
abbrev Hp : Type := List Nat × (Nat → Nat → Nat) × (Nat → Nat)
def hpR (A : Sh) (r : Nat × (Nat → Nat)) : Hp := (ob r.2 r.1, fun o f => td A r.2 r.1 (2 + 4 * o + f), fun i => td A r.2 r.1 i)
/-- a heap's values stay within it -/
def okH (A : Sh) (H : Hp) : Prop := H.1.length ≤ 5 ∧ (∀ k ∈ H.1, k < shK A) ∧ (∀ o f, o < H.1.length → f < shC A (H.1.getD o 0) → (shT A (H.1.getD o 0) f < 4 → H.2.1 o f ≤ H.1.length) ∧ (¬ shT A (H.1.getD o 0) f < 4 → H.2.1 o f ≤ 3)) ∧ ∀ i, i < shI A → H.2.2 i ≤ H.1.length
theorem hpR_ok {A : Sh} {r : Nat × (Nat → Nat)} (hA : okA A) (h : okW A r) : okH A (hpR A r) := by
  obtain ⟨i1, i2⟩ := ob_ok hA r.1 h.1
  have hB := hA.2.2.2.1
  have hno : ∀ s w, sl A r.2 r.1 = some w → s < w := fun s w e => by rw [h.2] at e; cases e
  refine ⟨by show (ob r.2 r.1).length ≤ 5; omega, i2, fun o f ho hf => ?_, fun i hi => ?_⟩
  · have ho : o < (ob r.2 r.1).length := ho
    have hf : f < shC A ((ob r.2 r.1).getD o 0) := hf
    have hk : (ob r.2 r.1).getD o 0 < shK A := i2 _ (getD_mem ho)
    have hK := hA.1
    have hf4 : f < 4 := Nat.lt_of_lt_of_le hf (hA.2.2.2.2.1 _ (by omega))
    exact td_ok hA r.1 h.1 (2 + 4 * o + f) _ (by rw [typ_f ho hf4, if_pos hf]; rfl) (hno _)
  · have h2 := hA.2.1
    have hN := hA.2.2.2.2.2.2 i hi
    have hK := hA.1
    exact (td_ok hA r.1 h.1 i _ (by rw [typ_i (by omega), if_pos hi]) (hno _)).1 (by omega)
/-- kinds that are UNDER others have their fields -/
def okV (A : Sh) : Prop := okA A ∧ (∀ k, k < shK A → shU A k k = true) ∧ ∀ k t, k < shK A → shU A k t = true → t ≤ k ∧ shC A t ≤ shC A k ∧ ∀ f, f < shC A t → shT A k f = shT A t f
/-- a rule: (sort, kind, f, g and 1 or 0 for NONE) -/
abbrev Ru : Type := Nat × Nat × Nat × Nat
def okQ (A : Sh) (q : Ru) : Prop := q.1 = 6 ∨ (q.2.1 < shK A ∧ q.2.2.1 < shC A q.2.1 ∧ shT A q.2.1 q.2.2.1 < 4 ∧ (q.1 = 0 ∨ ((q.1 = 1 ∨ q.1 = 2) ∧ (q.2.2.2 = 0 ∨ (0 < q.2.2.2 ∧ q.2.2.2 - 1 < shC A q.2.1 ∧ shT A q.2.1 (q.2.2.2 - 1) < 4))) ∨ (q.1 = 3 ∧ 0 < q.2.2.2 ∧ q.2.2.2 - 1 < shC A q.2.1 ∧ shT A q.2.1 (q.2.2.2 - 1) < 4) ∨ ((q.1 = 4 ∨ q.1 = 5) ∧ 0 < q.2.2.2 ∧ q.2.2.2 - 1 < shC A q.2.1 ∧ ¬ shT A q.2.1 (q.2.2.2 - 1) < 4)))
def suc (A : Sh) (q : Ru) (H : Hp) (o : Nat) : Bool := shU A (H.1.getD o 0) q.2.1
/-- of sorts 0, 3, 4, 5, at an object -/
def hAt (A : Sh) (q : Ru) (H : Hp) (o : Nat) : Bool :=
  if q.1 = 0 then !decide (H.2.1 o q.2.2.1 = 0)
  else if q.1 = 3 then (decide (H.2.1 o q.2.2.1 = 0) || (suc A q H (H.2.1 o q.2.2.1 - 1) && decide (H.2.1 (H.2.1 o q.2.2.1 - 1) (q.2.2.2 - 1) = o + 1)))
  else if q.1 = 4 then (decide (H.2.1 o q.2.2.1 = 0) || (!suc A q H (H.2.1 o q.2.2.1 - 1) || decide (H.2.1 o (q.2.2.2 - 1) ≤ H.2.1 (H.2.1 o q.2.2.1 - 1) (q.2.2.2 - 1))))
  else (decide (H.2.1 o q.2.2.1 = 0) == decide (H.2.1 o (q.2.2.2 - 1) = 0))
/-- x leads to y by the REFS of a rule of sort 1 -/
def edg (A : Sh) (q : Ru) (H : Hp) (x y : Nat) : Bool := suc A q H x && (decide (H.2.1 x q.2.2.1 = y + 1) || (decide (0 < q.2.2.2) && decide (H.2.1 x (q.2.2.2 - 1) = y + 1)))
/-- some objects each lead to one of them -/
def cyc (E : Nat → Nat → Bool) (n : Nat) : Prop := ∃ L : Nat → Prop, (∃ x, x < n ∧ L x) ∧ ∀ x, x < n → L x → ∃ y, y < n ∧ L y ∧ E x y = true
/-- how often the REFS of a rule of sort 2 of the first m objects tell the object y -/
def cnt (A : Sh) (q : Ru) (H : Hp) (y : Nat) : Nat → Nat
  | 0 => 0
  | m + 1 => cnt A q H y m + (if suc A q H m = true then ((if H.2.1 m q.2.2.1 = y + 1 then 1 else 0) + (if 0 < q.2.2.2 ∧ ¬ q.2.2.2 = q.2.2.1 + 1 ∧ H.2.1 m (q.2.2.2 - 1) = y + 1 then 1 else 0)) else 0)
def holP (A : Sh) (q : Ru) (H : Hp) : Prop :=
  if q.1 = 1 then ¬ cyc (edg A q H) H.1.length
  else if q.1 = 2 then ∀ y, y < H.1.length → cnt A q H y H.1.length < 2
  else if q.1 = 6 then shI A < 2 ∨ H.2.2 0 = 0 ∨ ¬ H.2.2 0 = H.2.2 1
  else ∀ o, o < H.1.length → suc A q H o = true → hAt A q H o = true
noncomputable def hol (A : Sh) (q : Ru) (H : Hp) : Bool := @decide (holP A q H) (Classical.propDecidable _)
theorem hol_t {A : Sh} {q : Ru} {H : Hp} : hol A q H = true ↔ holP A q H := by
  unfold hol
  exact @decide_eq_true_iff _ (Classical.propDecidable _)
theorem hol_f {A : Sh} {q : Ru} {H : Hp} (h : ¬ holP A q H) : hol A q H = false := by
  cases e : hol A q H with
  | false => rfl
  | true => exact absurd (hol_t.mp e) h
/-- paths -/
def pth (E : Nat → Nat → Bool) (n : Nat) : Nat → Nat → Nat → Prop
  | 0, x, y => E x y = true
  | m + 1, x, y => ∃ z, z < n ∧ E x z = true ∧ pth E n m z y
theorem pth_app {E : Nat → Nat → Bool} {n : Nat} : ∀ (m k x y z : Nat), y < n → pth E n m x y → pth E n k y z → pth E n (m + k + 1) x z := by
  intro m
  induction m with
  | zero =>
    intro k x y z hy h1 h2
    rw [show 0 + k + 1 = k + 1 by omega]
    exact ⟨y, hy, h1, h2⟩
  | succ m ih =>
    intro k x y z hy h1 h2
    obtain ⟨w, hw, e1, e2⟩ := h1
    rw [show m + 1 + k + 1 = (m + k + 1) + 1 by omega]
    exact ⟨w, hw, e1, ih k w y z hy e2 h2⟩
theorem cyc_of_pth {E : Nat → Nat → Bool} {n m o : Nat} (ho : o < n) (h : pth E n m o o) : cyc E n := by
  refine ⟨fun x => ∃ k, pth E n k x o, ⟨o, ho, m, h⟩, fun x hx hL => ?_⟩
  obtain ⟨k, hk⟩ := hL
  cases k with
  | zero => exact ⟨o, ho, ⟨m, h⟩, hk⟩
  | succ k => obtain ⟨z, hz, e1, e2⟩ := hk; exact ⟨z, hz, ⟨k, e2⟩, e1⟩
/-- a relation that is closed, has no object that comes to itself, and holds the steps: no circle -/
theorem ncyc_of {E R : Nat → Nat → Bool} {n : Nat} (hE : ∀ x y, x < n → y < n → E x y = true → R x y = true) (hT : ∀ x y z, x < n → y < n → z < n → R x y = true → R y z = true → R x z = true) (hI : ∀ x, x < n → R x x = false) : ¬ cyc E n := by
  rintro ⟨L, ⟨x0, h0, hx0⟩, hL⟩
  have key : ∀ k, k ≤ n → ∃ x, x < n ∧ L x ∧ ∀ y, y < k → L y → R x y = false := by
    intro k
    induction k with
    | zero => intro _; exact ⟨x0, h0, hx0, fun y hy => absurd hy (Nat.not_lt_zero _)⟩
    | succ k ih =>
      intro hk
      obtain ⟨x, h1, h2, h3⟩ := ih (by omega)
      by_cases hr : L k ∧ R x k = true
      · refine ⟨k, by omega, hr.1, fun y hy hl => ?_⟩
        by_cases e : y = k
        · rw [e]; exact hI k (by omega)
        · cases e' : R k y with
          | false => rfl
          | true =>
            have := hT x k y h1 (by omega) (by omega) hr.2 e'
            rw [h3 y (by omega) hl] at this
            cases this
      · refine ⟨x, h1, h2, fun y hy hl => ?_⟩
        by_cases e : y = k
        · subst e
          cases e' : R x y with
          | false => rfl
          | true => exact absurd ⟨hl, e'⟩ hr
        · exact h3 y (by omega) hl
  obtain ⟨x, h1, h2, h3⟩ := key n (Nat.le_refl _)
  obtain ⟨y, g1, g2, g3⟩ := hL x h1 h2
  have := hE x y h1 g1 g3
  rw [h3 y g1 g2] at this
  cases this
/-- a turn of Warshall's -/
def wsh (R : Nat → Nat → Bool) (m : Nat) : Nat → Nat → Bool := fun x y => R x y || (R x m && R m y)
def wshN (R : Nat → Nat → Bool) : Nat → Nat → Nat → Bool
  | 0 => R
  | m + 1 => wsh (wshN R m) m
theorem wshN_ok {E : Nat → Nat → Bool} {n : Nat} : ∀ m, m ≤ n → (∀ x y, x < n → y < n → wshN E m x y = true → ∃ k, pth E n k x y) ∧ (∀ x y, E x y = true → wshN E m x y = true) ∧ ∀ x j z, j < m → wshN E m x j = true → wshN E m j z = true → wshN E m x z = true := by
  intro m
  induction m with
  | zero => intro _; exact ⟨fun x y _ _ h => ⟨0, h⟩, fun x y h => h, fun x j z h => absurd h (Nat.not_lt_zero _)⟩
  | succ m ih =>
    intro hm
    obtain ⟨i1, i2, i3⟩ := ih (by omega)
    refine ⟨fun x y hx hy h => ?_, fun x y h => ?_, fun x j z hj h1 h2 => ?_⟩
    · simp only [wshN, wsh, Bool.or_eq_true, Bool.and_eq_true] at h
      rcases h with h | ⟨h1, h2⟩
      · exact i1 x y hx hy h
      · obtain ⟨k1, g1⟩ := i1 x m hx (by omega) h1
        obtain ⟨k2, g2⟩ := i1 m y (by omega) hy h2
        exact ⟨_, pth_app k1 k2 x m y (by omega) g1 g2⟩
    · simp only [wshN, wsh, Bool.or_eq_true, Bool.and_eq_true]
      exact Or.inl (i2 x y h)
    · simp only [wshN, wsh, Bool.or_eq_true, Bool.and_eq_true] at h1 h2 ⊢
      rcases Nat.lt_or_ge j m with q | q
      · rcases h1 with h1 | ⟨h1, h1'⟩
        · rcases h2 with h2 | ⟨h2, h2'⟩
          · exact Or.inl (i3 x j z q h1 h2)
          · exact Or.inr ⟨i3 x j m q h1 h2, h2'⟩
        · rcases h2 with h2 | ⟨h2, h2'⟩
          · exact Or.inr ⟨h1, i3 m j z q h1' h2⟩
          · exact Or.inr ⟨h1, h2'⟩
      · have e : j = m := by omega
        subst e
        have g1 : wshN E j x j = true := by rcases h1 with h1 | ⟨h1, -⟩ <;> exact h1
        have g2 : wshN E j j z = true := by rcases h2 with h2 | ⟨-, h2⟩ <;> exact h2
        exact Or.inr ⟨g1, g2⟩
theorem wsh_cyc {E : Nat → Nat → Bool} {n : Nat} : cyc E n ↔ ∃ o, o < n ∧ wshN E n o o = true := by
  obtain ⟨h1, h2, h3⟩ := wshN_ok (E := E) n (Nat.le_refl _)
  constructor
  · intro hc
    by_cases q : ∃ o, o < n ∧ wshN E n o o = true
    · exact q
    · exfalso
      refine ncyc_of (R := wshN E n) (fun x y _ _ h => h2 x y h) (fun x y z _ hy _ g1 g2 => h3 x y z hy g1 g2) (fun x hx => ?_) hc
      cases e : wshN E n x x with
      | false => rfl
      | true => exact absurd ⟨x, hx, e⟩ q
  · rintro ⟨o, ho, h⟩
    obtain ⟨k, hk⟩ := h1 o o ho ho h
    exact cyc_of_pth ho hk
