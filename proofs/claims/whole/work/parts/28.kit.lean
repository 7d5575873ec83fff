/-! ===== L3: reading a state; small numbers ===== -/
theorem pI_s (S : rr_T) (k : Nat) (v : Int32) : (pI S k v).1 k = v := by simp [pI, va_up]
theorem pI_n {S : rr_T} {k j : Nat} {v : Int32} (h : j ≠ k) : (pI S k v).1 j = S.1 j := by simp [pI, va_up, h]
theorem pI_2 (S : rr_T) (k : Nat) (v : Int32) : (pI S k v).2 = S.2 := rfl
theorem pA_1 (S : rr_T) (n : Nat) (i v : Int32) : (pA S n i v).1 = S.1 := rfl
theorem pA_s (S : rr_T) (n : Nat) (i v : Int32) : (pA S n i v).2.1 n = upd (S.2.1 n) i.toNatClampNeg v := by simp [pA, va_up]
theorem pA_n {S : rr_T} {n m : Nat} {i v : Int32} (h : m ≠ n) : (pA S n i v).2.1 m = S.2.1 m := by simp [pA, va_up, h]
theorem pA_22 (S : rr_T) (n : Nat) (i v : Int32) : (pA S n i v).2.2 = S.2.2 := rfl
theorem upd_s (f : Nat → Int32) (k : Nat) (x : Int32) : upd f k x k = x := by simp [upd]
theorem upd_n {f : Nat → Int32} {k j : Nat} {x : Int32} (h : j ≠ k) : upd f k x j = f j := by simp [upd, h]
theorem j0 : (0 : Int32) = nI 0 := rfl
theorem j1 : (1 : Int32) = nI 1 := rfl
theorem j2 : (2 : Int32) = nI 2 := rfl
theorem j3 : (3 : Int32) = nI 3 := rfl
theorem j4 : (4 : Int32) = nI 4 := rfl
theorem j5 : (5 : Int32) = nI 5 := rfl
theorem j6 : (6 : Int32) = nI 6 := rfl
theorem j7 : (7 : Int32) = nI 7 := rfl
theorem j9 : (9 : Int32) = nI 9 := rfl
theorem j10 : (10 : Int32) = nI 10 := rfl
theorem j11 : (11 : Int32) = nI 11 := rfl
theorem j13 : (13 : Int32) = nI 13 := rfl
theorem j14 : (14 : Int32) = nI 14 := rfl
theorem j15 : (15 : Int32) = nI 15 := rfl
theorem j16 : (16 : Int32) = nI 16 := rfl
theorem j20 : (20 : Int32) = nI 20 := rfl
theorem j22 : (22 : Int32) = nI 22 := rfl
theorem pI_e (S : rr_T) (k j : Nat) (v : Int32) : (pI S k v).1 j = if j = k then v else S.1 j := rfl
theorem pA_e (S : rr_T) (n m : Nat) (i v : Int32) : (pA S n i v).2.1 m = if m = n then upd (S.2.1 n) i.toNatClampNeg v else S.2.1 m := rfl
/-- only these registers and rows changed -/
def frM (is as : List Nat) (M M' : rr_T) : Prop := (∀ k, k ∉ is → M'.1 k = M.1 k) ∧ ∀ n, n ∉ as → M'.2.1 n = M.2.1 n
theorem frM_r (is as : List Nat) (M : rr_T) : frM is as M M := ⟨fun _ _ => rfl, fun _ _ => rfl⟩
theorem frM_t {is as : List Nat} {M M' M'' : rr_T} (h : frM is as M M') (g : frM is as M' M'') : frM is as M M'' := ⟨fun k hk => by rw [g.1 k hk, h.1 k hk], fun n hn => by rw [g.2 n hn, h.2 n hn]⟩
theorem frM_w {is as js bs : List Nat} {M M' : rr_T} (h : frM is as M M') (h1 : ∀ k ∈ is, k ∈ js) (h2 : ∀ n ∈ as, n ∈ bs) : frM js bs M M' := ⟨fun k hk => h.1 k (fun q => hk (h1 k q)), fun n hn => h.2 n (fun q => hn (h2 n q))⟩
theorem frM_pI {is as : List Nat} {M M' : rr_T} (h : frM is as M M') {k : Nat} {v : Int32} (hk : k ∈ is) : frM is as M (pI M' k v) := ⟨fun j hj => by rw [pI_n (show j ≠ k from fun e => hj (by rw [e]; exact hk)), h.1 j hj], h.2⟩
theorem frM_pA {is as : List Nat} {M M' : rr_T} (h : frM is as M M') {n : Nat} {i v : Int32} (hn : n ∈ as) : frM is as M (pA M' n i v) := ⟨h.1, fun m hm => by rw [pA_n (show m ≠ n from fun e => hm (by rw [e]; exact hn)), h.2 m hm]⟩
theorem shM_fr {is as : List Nat} {M M' : rr_T} {A : Sh} (h : frM is as M M') (h1 : ∀ k ∈ [0, 5, 7], k ∉ is) (h2 : ∀ n ∈ [1, 2, 3, 4, 5], n ∉ as) (g : shM M A) : shM M' A := by
  unfold shM
  rw [h.1 0 (h1 0 (by simp)), h.1 5 (h1 5 (by simp)), h.1 7 (h1 7 (by simp)), h.2 1 (h2 1 (by simp)), h.2 2 (h2 2 (by simp)), h.2 3 (h2 3 (by simp)), h.2 4 (h2 4 (by simp)), h.2 5 (h2 5 (by simp))]
  exact g
theorem b2i (b : Bool) : ((if b = true then (1 : Int32) else 0) = 0) ↔ b = false := by cases b <;> simp
theorem pM_inN {c a b : Nat} (hc : c < 2 ^ 31) (ha : a < 2 ^ 31) (hb : b < 2 ^ 31) : fM_in (nI c) (nI a) (nI b) = some (if a ≤ c ∧ c ≤ b then 1 else 0) := by
  rw [pM_in]
  simp only [nI_leI ha hc, nI_leI hc hb]
theorem getD_mem {ks : List Nat} {j : Nat} (h : j < ks.length) : ks.getD j 0 ∈ ks := by
  rw [List.getD_eq_getElem?_getD, List.getElem?_eq_getElem h]
  exact List.getElem_mem h
/-- M's cursor: the objects met, and the type of the slot that waits -/
def obM (M : rr_T) (ks : List Nat) : Prop := M.1 37 = nI ks.length ∧ ∀ j, j < ks.length → M.2.1 27 j = nI (ks.getD j 0)
def tyM (M : rr_T) (t : Nat) : Prop := (t < 4 → M.1 41 = 0 ∧ M.1 42 = nI t) ∧ (¬ t < 4 → M.1 41 = 1 ∧ M.1 42 = nI (t - 4))
theorem pM_canBeN {A : Sh} {M : rr_T} {ks : List Nat} {t : Nat} (hA : okA A) (h : shM M A) (ho : obM M ks) (hy : tyM M t) (hl : ks.length ≤ shB A) (hk : ∀ k ∈ ks, k < shK A) (ht : t < shK A ∨ (5 ≤ t ∧ t ≤ 7)) {c : Nat} (hc31 : c < 2 ^ 31) : fM_canBe M (nI c) = some (if alw A ks t c = true then 1 else 0) := by
  have hK := hA.1
  have hB := hA.2.2.2.1
  obtain ⟨c1, c2⟩ := ho
  have ho' : ∀ j, j < ks.length → ks.getD j 0 < shK A := fun j hj => hk _ (getD_mem hj)
  rw [fM_canBe]
  unfold alw
  by_cases h4 : t < 4
  · obtain ⟨s1, s2⟩ := hy.1 h4
    rw [if_neg (by rw [s1]; decide), if_pos h4]
    have e1 : fM_in (nI c) 1 9 = some (if 1 ≤ c ∧ c ≤ 9 then 1 else 0) := pM_inN (a := 1) (b := 9) hc31 (by decide) (by decide)
    rw [e1, Option.bind_some]
    by_cases h19 : 1 ≤ c ∧ c ≤ 9
    · rw [if_pos h19, if_neg (by decide)]
      obtain ⟨d, rfl⟩ : ∃ d, c = d + 1 := ⟨c - 1, by omega⟩
      rw [nI_pred, c1, s2]
      by_cases hm : ks.length ≤ d
      · rw [if_pos ((nI_leI (by omega) (by omega)).mpr hm), decide_eq_false (by omega : ¬ (1 ≤ d + 1 ∧ d + 1 ≤ ks.length)), decide_eq_false (by omega : ¬ (10 ≤ d + 1 ∧ d + 1 < 10 + shK A ∧ ks.length < shB A))]
        simp
      · rw [if_neg (fun q => hm ((nI_leI (by omega) (by omega)).mp q)), if_pos (inb_nI (by omega) (by decide)), nI_clamp (by omega), c2 d (by omega), pM_isUnder hA h (ho' d (by omega)) (by omega), Option.bind_some, decide_eq_true (by omega : 1 ≤ d + 1 ∧ d + 1 ≤ ks.length), decide_eq_false (by omega : ¬ (10 ≤ d + 1 ∧ d + 1 < 10 + shK A ∧ ks.length < shB A))]
        rw [show d + 1 - 1 = d from rfl]
        cases e : shU A (ks.getD d 0) t <;> simp
    · rw [if_neg h19, if_pos rfl]
      by_cases h0 : c = 0
      · subst h0
        rw [if_pos nI_0]
        simp
      · rw [if_neg (nI_ne0 (by omega) hc31)]
        have e2 : fM_in (nI c) 10 (9 + M.1 0) = some (if 10 ≤ c ∧ c ≤ 9 + shK A then 1 else 0) := by
          rw [h.1, show (9 : Int32) + nI (shK A) = nI (9 + shK A) from nI_add 9 (shK A)]
          exact pM_inN (a := 10) hc31 (by decide) (by omega)
        rw [e2, Option.bind_some]
        by_cases hk : 10 ≤ c ∧ c ≤ 9 + shK A
        · rw [if_pos hk, if_neg (by decide), h.2.2.1, c1]
          by_cases hb : shB A ≤ ks.length
          · rw [if_pos ((nI_leI (by omega) (by omega)).mpr hb), decide_eq_false (by omega : ¬ (1 ≤ c ∧ c ≤ ks.length)), decide_eq_false (by omega : ¬ (10 ≤ c ∧ c < 10 + shK A ∧ ks.length < shB A))]
            simp [h0]
          · rw [if_neg (fun q => hb ((nI_leI (by omega) (by omega)).mp q)), show nI c - 10 = nI (c - 10) from pk_sub hk.1, s2, pM_isUnder hA h (by omega) (by omega), Option.bind_some, decide_eq_false (by omega : ¬ (1 ≤ c ∧ c ≤ ks.length)), decide_eq_true (by omega : 10 ≤ c ∧ c < 10 + shK A ∧ ks.length < shB A)]
            cases e : shU A (c - 10) t <;> simp [e, h0]
        · rw [if_neg hk, if_pos rfl, decide_eq_false (by omega : ¬ (1 ≤ c ∧ c ≤ ks.length)), decide_eq_false (by omega : ¬ (10 ≤ c ∧ c < 10 + shK A ∧ ks.length < shB A))]
          simp [h0]
  · obtain ⟨s1, s2⟩ := hy.2 h4
    have e1 : fM_in (nI c) 0 (M.1 42) = some (if 0 ≤ c ∧ c ≤ t - 4 then 1 else 0) := by rw [s2]; exact pM_inN (a := 0) hc31 (by decide) (by omega)
    rw [if_pos s1, if_neg h4, e1, Option.bind_some]
    by_cases hq : c ≤ t - 4
    · rw [show (if 0 ≤ c ∧ c ≤ t - 4 then (1 : Int32) else 0) = 1 from if_pos ⟨Nat.zero_le _, hq⟩, decide_eq_true hq]; rfl
    · rw [show (if 0 ≤ c ∧ c ≤ t - 4 then (1 : Int32) else 0) = 0 from if_neg (fun q => hq q.2), decide_eq_false hq]; rfl
/-- the same, of any int -/
def alwI (A : Sh) (ks : List Nat) (t : Nat) (x : Int32) : Bool := decide (¬ x < 0) && alw A ks t x.toNatClampNeg
theorem pM_canBe {A : Sh} {M : rr_T} {ks : List Nat} {t : Nat} (hA : okA A) (h : shM M A) (ho : obM M ks) (hy : tyM M t) (hl : ks.length ≤ shB A) (hk : ∀ k ∈ ks, k < shK A) (ht : t < shK A ∨ (5 ≤ t ∧ t ≤ 7)) (x : Int32) : fM_canBe M x = some (if alwI A ks t x = true then 1 else 0) := by
  have hK := hA.1
  by_cases hx : x < 0
  · have e : alwI A ks t x = false := by unfold alwI; rw [decide_eq_false (by simpa using hx)]; rfl
    have hz : ∀ y z : Int32, 0 ≤ y → fM_in x y z = some 0 := fun y z hy0 => by
      rw [pM_in, if_neg]
      intro q
      have q1 := Int32.le_iff_toInt_le.mp hy0
      have q2 := Int32.le_iff_toInt_le.mp q.1
      have q3 := Int32.lt_iff_toInt_lt.mp hx
      omega
    rw [e, fM_canBe]
    by_cases h4 : t < 4
    · obtain ⟨s1, s2⟩ := hy.1 h4
      rw [if_neg (by rw [s1]; decide), hz 1 9 (by decide), Option.bind_some, if_pos rfl, if_neg (fun q => by rw [q] at hx; exact absurd hx (by decide)), hz 10 _ (by decide), Option.bind_some, if_pos rfl]
      rfl
    · obtain ⟨s1, s2⟩ := hy.2 h4
      rw [if_pos s1, hz 0 _ (by decide), Option.bind_some]
      rfl
  · obtain ⟨j, hj, rfl⟩ := nI_of hx
    rw [pM_canBeN hA h ho hy hl hk ht hj]
    unfold alwI
    rw [nI_clamp hj, decide_eq_true hx, Bool.true_and]
