/-! ===== L3, pure: rows and looks as numbers; the ends ===== -/
def cod (c : Nat) : Nat := if c < 10 then c else c - 4
def okC (c : Nat) : Prop := c ≤ 5 ∨ (10 ≤ c ∧ c < 14)
theorem cod_lt {c d : Nat} (hc : okC c) (hd : okC d) (h : c < d) : cod c < cod d := by
  unfold cod
  unfold okC at hc hd
  split <;> split <;> omega
theorem cod_16 {c : Nat} (hc : okC c) : cod c < 16 := by
  unfold cod
  unfold okC at hc
  split <;> omega
/-- n digits to the base 16 -/
def nuF (a : Nat → Nat) : Nat → Nat
  | 0 => 0
  | n + 1 => nuF a n * 16 + cod (a n)
theorem nuF_eq {a b : Nat → Nat} : ∀ n, (∀ p, p < n → a p = b p) → nuF a n = nuF b n := by
  intro n
  induction n with
  | zero => intro _; rfl
  | succ n ih => intro h; unfold nuF; rw [ih (fun p hp => h p (by omega)), h n (by omega)]
theorem nuF_lt {a b : Nat → Nat} (ha : ∀ p, okC (a p)) (hb : ∀ p, okC (b p)) {p : Nat} (he : ∀ j, j < p → a j = b j) (h : a p < b p) : ∀ n, p < n → nuF a n < nuF b n := by
  intro n
  induction n with
  | zero => intro hp; omega
  | succ n ih =>
    intro hp
    unfold nuF
    by_cases e : p = n
    · subst e
      rw [nuF_eq p he]
      have := cod_lt (ha p) (hb p) h
      omega
    · have h1 := ih (by omega)
      have h2 := cod_16 (ha n)
      have h3 := cod_16 (hb n)
      omega
/-- of two lists: the same, or they differ where both have something -/
def Df (l m : List Nat) : Prop := ∃ p, p < l.length ∧ p < m.length ∧ (∀ j, j < p → l.getD j 0 = m.getD j 0) ∧ ¬ l.getD p 0 = m.getD p 0
def okL (l : List Nat) : Prop := l.length ≤ 22 ∧ ∀ c ∈ l, okC c
theorem okL_get {l : List Nat} (h : okL l) (p : Nat) : okC (l.getD p 0) := by
  rcases Nat.lt_or_ge p l.length with z | z
  · exact h.2 _ (getD_mem z)
  · rw [List.getD_eq_getElem?_getD, List.getElem?_eq_none z]
    exact Or.inl (Nat.zero_le _)
/-- a look's key -/
def keyL (l : List Nat) : Nat := nuF (fun p => l.getD p 0) 22
theorem keyL_lt {l m : List Nat} (hl : okL l) (hm : okL m) {p : Nat} (h1 : p < l.length) (he : ∀ j, j < p → l.getD j 0 = m.getD j 0) (h : l.getD p 0 < m.getD p 0) : keyL l < keyL m := nuF_lt (fun p => okL_get hl p) (fun p => okL_get hm p) he h 22 (by have := hl.1; omega)
theorem keyL_df {l m : List Nat} (hl : okL l) (hm : okL m) (h : Df l m) : ¬ keyL l = keyL m := by
  obtain ⟨p, h1, h2, h3, h4⟩ := h
  rcases Nat.lt_or_ge (l.getD p 0) (m.getD p 0) with z | z
  · have := keyL_lt hl hm h1 h3 z; omega
  · have := keyL_lt hm hl h2 (fun j hj => (h3 j hj).symm) (by omega); omega
theorem ext_L {l m : List Nat} (e : l.length = m.length) (h : ∀ j, j < l.length → l.getD j 0 = m.getD j 0) : l = m := by
  refine List.ext_getElem e (fun i h1 h2 => ?_)
  have := h i h1
  rw [gD_g h1, gD_g h2] at this
  exact this
/-- E: the first row of each key, by rising keys -/
def isE (ky : Nat → Nat) (n : Nat) (E : List Nat) : Prop := (∀ e ∈ E, e < n ∧ ∀ i, i < n → ky i = ky e → e ≤ i) ∧ E.Pairwise (fun a b => ky a < ky b) ∧ ∀ i, i < n → ∃ e ∈ E, ky e = ky i
theorem srt_eq {ky : Nat → Nat} : ∀ (l m : List Nat), l.Pairwise (fun a b => ky a < ky b) → m.Pairwise (fun a b => ky a < ky b) → (∀ x, x ∈ l ↔ x ∈ m) → l = m := by
  intro l
  induction l with
  | nil =>
    intro m _ _ h
    cases m with
    | nil => rfl
    | cons b t => exact absurd ((h b).mpr (List.mem_cons_self ..)) (by simp)
  | cons a t ih =>
    intro m hl hm h
    cases m with
    | nil => exact absurd ((h a).mp (List.mem_cons_self ..)) (by simp)
    | cons b s =>
      obtain ⟨l1, l2⟩ := List.pairwise_cons.mp hl
      obtain ⟨m1, m2⟩ := List.pairwise_cons.mp hm
      have e : a = b := by
        rcases List.mem_cons.mp ((h a).mp (List.mem_cons_self ..)) with z | z
        · exact z
        · rcases List.mem_cons.mp ((h b).mpr (List.mem_cons_self ..)) with w | w
          · exact w.symm
          · have := m1 a z
            have := l1 b w
            omega
      subst e
      congr 1
      refine ih s l2 m2 (fun x => ⟨fun hx => ?_, fun hx => ?_⟩)
      · rcases List.mem_cons.mp ((h x).mp (List.mem_cons_of_mem _ hx)) with z | z
        · have := l1 x hx; rw [z] at this; omega
        · exact z
      · rcases List.mem_cons.mp ((h x).mpr (List.mem_cons_of_mem _ hx)) with z | z
        · have := m1 x hx; rw [z] at this; omega
        · exact z
theorem isE_eq {ky : Nat → Nat} {n : Nat} {E F : List Nat} (hE : isE ky n E) (hF : isE ky n F) : E = F := by
  obtain ⟨e1, e2, e3⟩ := hE
  obtain ⟨f1, f2, f3⟩ := hF
  refine srt_eq E F e2 f2 (fun x => ⟨fun hx => ?_, fun hx => ?_⟩)
  · obtain ⟨h1, h2⟩ := e1 x hx
    obtain ⟨y, hy, k⟩ := f3 x h1
    obtain ⟨g1, g2⟩ := f1 y hy
    have := h2 y g1 k
    have := g2 x h1 k.symm
    rw [show x = y by omega]
    exact hy
  · obtain ⟨h1, h2⟩ := f1 x hx
    obtain ⟨y, hy, k⟩ := e3 x h1
    obtain ⟨g1, g2⟩ := e1 y hy
    have := h2 y g1 k
    have := g2 x h1 k.symm
    rw [show x = y by omega]
    exact hy
theorem isE_0 (ky : Nat → Nat) : isE ky 0 [] := ⟨fun e h => absurd h (by simp), List.Pairwise.nil, fun i hi => absurd hi (Nat.not_lt_zero _)⟩
/-- a row whose key is there -/
theorem isE_old {ky : Nat → Nat} {n : Nat} {E : List Nat} (h : isE ky n E) {e : Nat} (he : e ∈ E) (k : ky e = ky n) : isE ky (n + 1) E := by
  obtain ⟨h1, h2, h3⟩ := h
  refine ⟨fun x hx => ⟨by have := (h1 x hx).1; omega, fun i hi hk => ?_⟩, h2, fun i hi => ?_⟩
  · by_cases z : i = n
    · have := (h1 x hx).1; omega
    · exact (h1 x hx).2 i (by omega) hk
  · by_cases z : i = n
    · exact ⟨e, he, by rw [z]; exact k⟩
    · exact h3 i (by omega)
/-- a row with a new key -/
theorem isE_new {ky : Nat → Nat} {n : Nat} {l m : List Nat} (h : isE ky n (l ++ m)) (hl : ∀ e ∈ l, ky e < ky n) (hm : ∀ e ∈ m, ky n < ky e) : isE ky (n + 1) (l ++ n :: m) := by
  obtain ⟨h1, h2, h3⟩ := h
  have hne : ∀ e ∈ l ++ m, ¬ ky e = ky n := fun e he => by
    rcases List.mem_append.mp he with z | z
    · have := hl e z; omega
    · have := hm e z; omega
  have hin : ∀ x, x ∈ l ++ n :: m ↔ x = n ∨ x ∈ l ++ m := fun x => by
    simp only [List.mem_append, List.mem_cons]
    constructor
    · rintro (z | z | z)
      · exact Or.inr (Or.inl z)
      · exact Or.inl z
      · exact Or.inr (Or.inr z)
    · rintro (z | z | z)
      · exact Or.inr (Or.inl z)
      · exact Or.inl z
      · exact Or.inr (Or.inr z)
  refine ⟨fun x hx => ?_, ?_, fun i hi => ?_⟩
  · rcases (hin x).mp hx with z | z
    · subst z
      refine ⟨by omega, fun i hi hk => ?_⟩
      by_cases w : i = x
      · omega
      · obtain ⟨e, he, k⟩ := h3 i (by omega)
        exact absurd (k.trans hk) (hne e he)
    · obtain ⟨g1, g2⟩ := h1 x z
      refine ⟨by omega, fun i hi hk => ?_⟩
      by_cases w : i = n
      · omega
      · exact g2 i (by omega) hk
  · rw [List.pairwise_append] at h2 ⊢
    obtain ⟨p1, p2, p3⟩ := h2
    refine ⟨p1, List.pairwise_cons.mpr ⟨hm, p2⟩, fun a ha b hb => ?_⟩
    rcases List.mem_cons.mp hb with z | z
    · rw [z]; exact hl a ha
    · exact p3 a ha b z
  · by_cases z : i = n
    · exact ⟨n, (hin n).mpr (Or.inl rfl), by rw [z]⟩
    · obtain ⟨e, he, k⟩ := h3 i (by omega)
      exact ⟨e, (hin e).mpr (Or.inr he), k⟩
theorem pw_get {ky : Nat → Nat} : ∀ (E : List Nat), E.Pairwise (fun a b => ky a < ky b) → ∀ i j, i < j → j < E.length → ky (E.getD i 0) < ky (E.getD j 0) := by
  intro E h i j hij hj
  rw [gD_g (show i < E.length by omega), gD_g hj]
  exact List.pairwise_iff_getElem.mp h i j (by omega) hj hij
theorem nd_len : ∀ (n : Nat) (l : List Nat), l.Nodup → (∀ x ∈ l, x < n) → l.length ≤ n := by
  intro n
  induction n with
  | zero =>
    intro l _ h
    cases l with
    | nil => exact Nat.le_refl _
    | cons a t => exact absurd (h a (List.mem_cons_self ..)) (Nat.not_lt_zero _)
  | succ n ih =>
    intro l hn h
    have h1 := ih (l.erase n) (hn.erase n) (fun x hx => by
      obtain ⟨a, b⟩ := (List.Nodup.mem_erase_iff hn).mp hx
      have := h x b
      omega)
    have h2 : l.length ≤ (l.erase n).length + 1 := by
      rw [List.length_erase]
      split <;> omega
    omega
/-- at most as many as rows -/
theorem isE_len {ky : Nat → Nat} {n : Nat} {E : List Nat} (h : isE ky n E) : E.length ≤ n := by
  have hn : E.Nodup := by
    have := h.2.1
    exact this.imp (fun {a b} z w => by rw [w] at z; omega)
  exact nd_len n E hn (fun x hx => (h.1 x hx).1)
