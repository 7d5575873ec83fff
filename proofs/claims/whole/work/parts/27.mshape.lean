/-! ===== L3: small numbers; the reference's shape ===== -/
theorem nI_m1 {k : Nat} (h : k < 2 ^ 31) : ¬ nI k = -1 := fun e => by
  have h1 := nI_toInt h
  rw [e] at h1
  have h2 : ((-1 : Int32)).toInt = -1 := by decide
  rw [h2] at h1
  omega
theorem inb_nI {k n : Nat} (hk : k < n) (hn : n < 2 ^ 31) : inb (nI k) n = true := decide_eq_true (nI_in hk hn)
theorem inb_of {x : Int32} {n : Nat} (h : inb x n = true) (hn : n < 2 ^ 31) : ∃ j, j < n ∧ x = nI j := vp_in_of (inb_in h) hn
theorem loop_s {α τ : Type} (n : Nat) (B : (α → Option τ) → α → Option τ) (a : α) : rr_loop (n + 1) B a = B (rr_loop n B) a := rfl
/-- M's registers tell the shape A -/
def shM (M : rr_T) (A : Sh) : Prop := M.1 0 = nI (shK A) ∧ M.1 5 = nI (shI A) ∧ M.1 7 = nI (shB A) ∧ (∀ k, k < shK A → M.2.1 2 k = nI (shC A k))
  ∧ (∀ k f, k < shK A → f < shC A k → (shT A k f < 4 ∧ M.2.1 3 (4 * k + f) = 0 ∧ M.2.1 4 (4 * k + f) = nI (shT A k f)) ∨ (¬ shT A k f < 4 ∧ M.2.1 3 (4 * k + f) = 1 ∧ M.2.1 4 (4 * k + f) = nI (shT A k f - 4)))
  ∧ (∀ k, k < shK A → (M.2.1 1 k = -1 ∧ ∀ t, shU A k t = decide (k = t)) ∨ ∃ j, j < k ∧ M.2.1 1 k = nI j ∧ ∀ t, shU A k t = (decide (k = t) || shU A j t))
  ∧ ∀ i, i < shI A → M.2.1 5 i = nI (shN A i)
theorem uM_isUnder {A : Sh} {M : rr_T} (hA : okA A) (h : shM M A) : ∀ (k t n : Nat), k < shK A → t < 2 ^ 31 → k + 2 ≤ n → rr_loop n (LM_isUnder_2 M (nI t)) (nI k) = some (if shU A k t = true then 1 else 0) := by
  intro k
  induction k using Nat.strongRecOn with
  | ind k ih =>
    intro t n hk ht hn
    have h4 := hA.1
    obtain ⟨n, rfl⟩ : ∃ m, n = m + 1 := ⟨n - 1, by omega⟩
    rw [loop_s]
    rw [LM_isUnder_2, if_neg (nI_m1 (by omega))]
    have hu := h.2.2.2.2.2.1 k hk
    by_cases hkt : k = t
    · rw [if_pos (by rw [hkt])]
      unfold JM_isUnder_22
      rw [if_pos (by rw [hkt])]
      have : shU A k t = true := by rcases hu with ⟨-, q⟩ | ⟨j, -, -, q⟩ <;> rw [q t] <;> simp [hkt]
      rw [if_pos this]
    · rw [if_neg (fun e => hkt ((nI_eq (by omega) ht).mp e)), if_pos (inb_nI (by omega) (by decide))]
      simp only [rr_l]
      rw [nI_clamp (by omega)]
      rcases hu with ⟨e1, q⟩ | ⟨j, hj, e1, q⟩
      · rw [e1, q t]
        obtain ⟨n, rfl⟩ : ∃ m, n = m + 1 := ⟨n - 1, by omega⟩
        rw [loop_s, LM_isUnder_2, if_pos rfl]
        unfold JM_isUnder_22
        rw [if_neg (fun e => nI_m1 ht e.symm)]
        simp [hkt]
      · rw [e1, q t, ih j hj t n (by omega) ht (by omega)]
        simp [hkt]
theorem pM_isUnder {A : Sh} {M : rr_T} (hA : okA A) (h : shM M A) {k t : Nat} (hk : k < shK A) (ht : t < 2 ^ 31) : fM_isUnder M (nI k) (nI t) = some (if shU A k t = true then 1 else 0) := by
  have := hA.1
  exact uM_isUnder hA h k t FU hk ht (by show k + 2 ≤ 5000; omega)
theorem pM_in (x y z : Int32) : fM_in x y z = some (if y ≤ x ∧ x ≤ z then 1 else 0) := by
  unfold fM_in
  by_cases h1 : x < y
  · rw [if_pos h1, if_neg (fun q => absurd h1 (Int32.not_lt.mpr q.1))]
  · rw [if_neg h1]
    by_cases h2 : z < x
    · rw [if_pos h2, if_neg (fun q => absurd h2 (Int32.not_lt.mpr q.2))]
    · rw [if_neg h2, if_pos ⟨Int32.not_lt.mp h1, Int32.not_lt.mp h2⟩]
