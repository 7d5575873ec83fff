/-! ===== L3: the class: its shape ===== -/
/-- only these registers and rows changed, no long row, no length -/
def frX (is as : List Nat) (S S' : rr_T) : Prop := frM is as S S' ∧ S'.2.2 = S.2.2
theorem frX_r (is as : List Nat) (S : rr_T) : frX is as S S := ⟨frM_r _ _ _, rfl⟩
theorem frX_t {is as : List Nat} {S S' S'' : rr_T} (h : frX is as S S') (g : frX is as S' S'') : frX is as S S'' := ⟨frM_t h.1 g.1, by rw [g.2, h.2]⟩
theorem frX_w {is as js bs : List Nat} {S S' : rr_T} (h : frX is as S S') (h1 : ∀ k ∈ is, k ∈ js) (h2 : ∀ n ∈ as, n ∈ bs) : frX js bs S S' := ⟨frM_w h.1 h1 h2, h.2⟩
theorem frX_pI {is as : List Nat} {S S' : rr_T} (h : frX is as S S') {k : Nat} {v : Int32} (hk : k ∈ is) : frX is as S (pI S' k v) := ⟨frM_pI h.1 hk, h.2⟩
theorem frX_pA {is as : List Nat} {S S' : rr_T} (h : frX is as S S') {n : Nat} {i v : Int32} (hn : n ∈ as) : frX is as S (pA S' n i v) := ⟨frM_pA h.1 hn, h.2⟩
theorem frX_1 {is as : List Nat} {S S' : rr_T} (h : frX is as S S') {k : Nat} (hk : k ∉ is) : S'.1 k = S.1 k := h.1.1 k hk
theorem frX_2 {is as : List Nat} {S S' : rr_T} (h : frX is as S S') {n : Nat} (hn : n ∉ as) : S'.2.1 n = S.2.1 n := h.1.2 n hn
/-- X's registers tell the shape A -/
def shX (S : rr_T) (A : Sh) : Prop := S.1 20 = nI (shK A) ∧ S.1 21 = nI (shI A) ∧ S.1 22 = nI (shB A) ∧ (∀ k, k < shK A → S.2.1 3 k = nI (shC A k)) ∧ (∀ k f, k < shK A → f < shC A k → S.2.1 4 (4 * k + f) = nI (shT A k f)) ∧ (∀ k, k < shK A → ∃ b, b < 16 ∧ S.2.1 2 k = nI b ∧ ∀ t, t < 4 → shU A k t = decide (b / 2 ^ t % 2 = 1)) ∧ ∀ i, i < shI A → S.2.1 5 i = nI (shN A i)
theorem shX_fr {is as : List Nat} {S S' : rr_T} {A : Sh} (f : frX is as S S') (h1 : ∀ n ∈ [20, 21, 22], n ∉ is) (h2 : ∀ n ∈ [2, 3, 4, 5], n ∉ as) (h : shX S A) : shX S' A := by
  unfold shX
  rw [f.1.1 20 (h1 20 (by simp)), f.1.1 21 (h1 21 (by simp)), f.1.1 22 (h1 22 (by simp)), f.1.2 2 (h2 2 (by simp)), f.1.2 3 (h2 3 (by simp)), f.1.2 4 (h2 4 (by simp)), f.1.2 5 (h2 5 (by simp))]
  exact h
theorem bit_t : ∀ b, b < 16 → ∀ t, t < 4 → ((nI b >>> (nI t &&& 31)) &&& 1 = 1 ↔ b / 2 ^ t % 2 = 1) := by decide
theorem bit_p : ∀ k, k < 4 → (1 : Int32) <<< (nI k &&& 31) = nI (2 ^ k) := by decide
theorem bit_o : ∀ k, k < 4 → ∀ b, b < 16 → nI (2 ^ k) ||| nI b = nI (2 ^ k ||| b) := by decide
theorem bit_q : ∀ k, k < 4 → ∀ b, b < 16 → (2 ^ k ||| b) < 16 ∧ ∀ t, t < 4 → ((2 ^ k ||| b) / 2 ^ t % 2 = 1 ↔ (k = t ∨ b / 2 ^ t % 2 = 1)) := by decide
theorem bit_1 : ∀ k, k < 4 → ∀ t, t < 4 → (2 ^ k / 2 ^ t % 2 = 1 ↔ k = t) := by decide
/-- not from 0 to below n -/
def out (x : Int32) (n : Nat) : Prop := x < 0 ∨ n ≤ x.toNatClampNeg
theorem out_of {x : Int32} {n : Nat} (h : ¬ out x n) : ∃ j, j < n ∧ x = nI j ∧ j < 2 ^ 31 := by
  obtain ⟨j, hj, rfl⟩ := nI_of (fun w => h (Or.inl w))
  refine ⟨j, ?_, rfl, hj⟩
  have : ¬ n ≤ (nI j).toNatClampNeg := fun w => h (Or.inr w)
  rw [nI_clamp hj] at this
  omega
theorem out_nI {j n : Nat} (hj : j < 2 ^ 31) : out (nI j) n ↔ n ≤ j := by
  unfold out
  rw [nI_clamp hj]
  constructor
  · rintro (w | w)
    · exact absurd w (nI_pos hj)
    · exact w
  · exact Or.inr
theorem not_out {j n : Nat} (hn : n ≤ 2 ^ 31) (h : j < n) : ¬ out (nI j) n := fun w => by
  have := (out_nI (show j < 2 ^ 31 by omega)).mp w
  omega
/-- the test x < 0, n <= x -/
theorem tst_o {α : Type} {x : Int32} {n : Nat} (hn : n < 2 ^ 31) {a b : α} : (if x < 0 then a else if nI n ≤ x then a else b) = @ite _ (out x n) (Classical.propDecidable _) a b := by
  by_cases h : x < 0
  · rw [if_pos h, if_pos (show out x n from Or.inl h)]
  · rw [if_neg h]
    obtain ⟨j, hj, rfl⟩ := nI_of h
    by_cases e : n ≤ j
    · rw [if_pos (nI_le e hj), if_pos ((out_nI hj).mpr e)]
    · rw [if_neg (nI_ge (by omega) hn), if_neg (fun w => e ((out_nI hj).mp w))]
section XSHAPE
variable {A : Sh} {P S : rr_T}
theorem pX_isKind (hA : okA A) (hS : shX S A) (x : Int32) : (out x (shK A) → fX8_isKind P S x = some 0) ∧ (¬ out x (shK A) → fX8_isKind P S x = some 1) := by
  have hK := hA.1
  rw [fX8_isKind, hS.1, tst_o (by omega)]
  exact ⟨fun h => if_pos h, fun h => if_neg h⟩
theorem pX_isUnder (hA : okA A) (hS : shX S A) {k t : Nat} (hk : k < shK A) (ht : t < shK A) : fX8_isUnder P S (nI k) (nI t) = some (if shU A k t = true then 1 else 0) := by
  have hK := hA.1
  obtain ⟨b, b1, b2, b3⟩ := hS.2.2.2.2.2.1 k hk
  rw [fX8_isUnder, hS.1, if_neg (nI_pos (by omega)), if_neg (nI_ge hk (by omega)), if_neg (nI_pos (by omega)), if_neg (nI_ge ht (by omega)), if_pos (inb_nI (by omega) (by decide)), nI_clamp (by omega), b2, b3 t (by omega)]
  by_cases e : b / 2 ^ t % 2 = 1
  · rw [if_pos ((bit_t b b1 t (by omega)).mpr e), if_pos (decide_eq_true e)]
  · rw [if_neg (fun w => e ((bit_t b b1 t (by omega)).mp w)), if_neg (fun w => e (of_decide_eq_true w))]
/-- out of range: no -/
theorem pX_isUnderO (hA : okA A) (hS : shX S A) {x y : Int32} (h : out x (shK A) ∨ out y (shK A)) : fX8_isUnder P S x y = some 0 := by
  have hK := hA.1
  have e : fX8_isUnder P S x y = if x < 0 then some 0 else if nI (shK A) ≤ x then some 0 else (if y < 0 then some 0 else if nI (shK A) ≤ y then some 0 else if inb x 4 = true then (if ((S.2.1 2 x.toNatClampNeg) >>> (y &&& 31)) &&& 1 = 1 then some 1 else some 0) else none) := by
    rw [fX8_isUnder, hS.1]
  rw [e, tst_o (by omega), tst_o (by omega)]
  by_cases hx : out x (shK A)
  · exact if_pos hx
  · rw [if_neg hx]
    rcases h with h | h
    · exact absurd h hx
    · exact if_pos h
theorem pX_isUnderI (hA : okA A) (hS : shX S A) {t : Nat} (ht : t < shK A) (x : Int32) : fX8_isUnder P S x (nI t) = some (if ¬ x < 0 ∧ x.toNatClampNeg < shK A ∧ shU A x.toNatClampNeg t = true then 1 else 0) := by
  have hK := hA.1
  by_cases h : out x (shK A)
  · rw [pX_isUnderO hA hS (Or.inl h), if_neg]
    rintro ⟨w1, w2, -⟩
    rcases h with h | h
    · exact w1 h
    · omega
  · obtain ⟨j, hj, rfl, hj31⟩ := out_of h
    rw [pX_isUnder hA hS hj ht, nI_clamp hj31]
    by_cases e : shU A j t = true
    · rw [if_pos e, if_pos ⟨nI_pos hj31, hj, e⟩]
    · rw [if_neg e, if_neg (fun w => e w.2.2)]
theorem uX_isSuper (hA : okA A) (hS : shX S A) {k : Nat} (hk : k < shK A) : ∀ (m t f : Nat), t + m = shK A → m + 1 ≤ f → ((∃ s, t ≤ s ∧ s < shK A ∧ shU A s k = true) → rr_loop f (LX8_isSuper_4 P S (nI k)) (nI t) = some 1) ∧ ((¬ ∃ s, t ≤ s ∧ s < shK A ∧ shU A s k = true) → rr_loop f (LX8_isSuper_4 P S (nI k)) (nI t) = some 0) := by
  have hK := hA.1
  intro m
  induction m with
  | zero =>
    intro t f ht hf
    obtain ⟨f, rfl⟩ : ∃ g, f = g + 1 := ⟨f - 1, by omega⟩
    refine ⟨fun ⟨s, s1, s2, _⟩ => by omega, fun _ => ?_⟩
    rw [loop_s, LX8_isSuper_4, hS.1, if_pos (nI_le (by omega) (by omega))]
  | succ m ih =>
    intro t f ht hf
    obtain ⟨f, rfl⟩ : ∃ g, f = g + 1 := ⟨f - 1, by omega⟩
    have ih' := ih (t + 1) f (by omega) (by omega)
    rw [loop_s, LX8_isSuper_4, hS.1, if_neg (nI_ge (by omega) (by omega)), pX_isUnder hA hS (by omega) hk, Option.bind_some, nI_1]
    by_cases e : shU A t k = true
    · rw [if_pos e, if_neg (show ¬ (1 : Int32) = 0 by decide)]
      exact ⟨fun _ => rfl, fun w => absurd ⟨t, Nat.le_refl _, by omega, e⟩ w⟩
    · rw [if_neg e, if_pos rfl]
      refine ⟨fun ⟨s, s1, s2, s3⟩ => ih'.1 ⟨s, ?_, s2, s3⟩, fun w => ih'.2 (fun ⟨s, s1, s2, s3⟩ => w ⟨s, by omega, s2, s3⟩)⟩
      by_cases es : s = t
      · subst es; exact absurd s3 e
      · omega
theorem pX_isSuper (hV : okV A) (hS : shX S A) {k : Nat} (hk : k < shK A) : fX8_isSuper P S (nI k) = some (if supB A k = true then 1 else 0) := by
  have hA := hV.1
  have hK := hA.1
  have u := uX_isSuper (P := P) hA hS hk (shK A - (k + 1)) (k + 1) FU (by omega) (by show _ ≤ 5000; omega)
  rw [fX8_isSuper, rr_l_e, nI_1]
  by_cases e : supB A k = true
  · obtain ⟨t, t1, t2, t3⟩ := supB_t.mp e
    have := (hV.2.2 t k t1 t3).1
    rw [if_pos e]
    exact u.1 ⟨t, by omega, t1, t3⟩
  · rw [if_neg e]
    exact u.2 (fun ⟨s, s1, s2, s3⟩ => e (supB_t.mpr ⟨s, s2, by omega, s3⟩))
theorem pX_fieldsOf (hA : okA A) (hS : shX S A) {k : Nat} (hk : k < shK A) : fX8_fieldsOf P S (nI k) = some (nI (shC A k)) := by
  have hK := hA.1
  rw [fX8_fieldsOf, hS.1, if_neg (nI_pos (by omega)), if_neg (nI_ge hk (by omega)), if_pos (inb_nI (by omega) (by decide)), nI_clamp (by omega), hS.2.2.2.1 k hk]
theorem ix4' (o f : Nat) : nI o * (4 : Int32) + nI f = nI (4 * o + f) := by rw [show nI o * (4 : Int32) = nI (o * 4) from pk_mul o 4, nI_add, Nat.mul_comm]
/-- the type of field y, -1 if there is none -/
theorem pX_typeOf (hA : okA A) (hS : shX S A) {k : Nat} (hk : k < shK A) (y : Int32) : (out y (shC A k) → fX8_typeOf P S (nI k) y = some (-1)) ∧ (∀ f, f < shC A k → y = nI f → fX8_typeOf P S (nI k) y = some (nI (shT A k f))) := by
  have hK := hA.1
  have hC := hA.2.2.2.2.1 k (by omega)
  have e : fX8_typeOf P S (nI k) y = if y < 0 then some (-1) else if y < nI (shC A k) then (if inb (nI k * 4 + y) 16 = true then some (S.2.1 4 (nI k * 4 + y).toNatClampNeg) else none) else some (-1) := by
    rw [fX8_typeOf, hS.1, if_neg (nI_pos (show k < 2 ^ 31 by omega)), if_neg (nI_ge hk (by omega)), if_pos (inb_nI (show k < 4 by omega) (by decide)), nI_clamp (by omega), hS.2.2.2.1 k hk]
  rw [e]
  constructor
  · intro h
    by_cases y0 : y < 0
    · rw [if_pos y0]
    · rw [if_neg y0]
      obtain ⟨j, hj, rfl⟩ := nI_of y0
      have := (out_nI hj).mp h
      rw [if_neg (nI_nlt this hj)]
  · intro f hf ey
    subst ey
    rw [if_neg (nI_pos (by omega)), if_pos (nI_lt hf (by omega)), ix4', if_pos (inb_nI (by omega) (by decide)), nI_clamp (by omega), hS.2.2.2.2.1 k f hk hf]
theorem pX_typeOfO (hA : okA A) (hS : shX S A) {x y : Int32} (h : out x (shK A)) : fX8_typeOf P S x y = some (-1) := by
  have hK := hA.1
  have e : fX8_typeOf P S x y = if x < 0 then some (-1) else if nI (shK A) ≤ x then some (-1) else (if y < 0 then some (-1) else if inb x 4 = true then (if y < S.2.1 3 x.toNatClampNeg then (if inb (x * 4 + y) 16 = true then some (S.2.1 4 (x * 4 + y).toNatClampNeg) else none) else some (-1)) else none) := by
    rw [fX8_typeOf, hS.1]
  rw [e, tst_o (by omega)]
  exact if_pos h
theorem pX_isRefType {t : Nat} (ht : t < 2 ^ 31) : fX8_isRefType (nI t) = some (if t < 4 then 1 else 0) := by
  rw [fX8_isRefType, if_neg (nI_pos ht)]
  by_cases e : t < 4
  · rw [if_neg (show ¬ (4 : Int32) ≤ nI t from nI_ge (b := 4) e (by decide)), if_pos e]
  · rw [if_pos (show (4 : Int32) ≤ nI t from nI_le (a := 4) (by omega) ht), if_neg e]
theorem pX_isRefTypeM : fX8_isRefType (-1) = some 0 := by decide
end XSHAPE
