/-! ===== a rule, a step comes: its object, and its place in the list ===== -/
set_option maxRecDepth 20000 in
theorem x_stat (P P' S : rr_T) : ∀ n, n < 34 → n ≠ 7 → n ≠ 9 → (xw P' S)[n]? = (xw P S)[n]?
  | 0, _, _, _ => rfl
  | 1, _, _, _ => rfl
  | 2, _, _, _ => rfl
  | 3, _, _, _ => rfl
  | 4, _, _, _ => rfl
  | 5, _, _, _ => rfl
  | 6, _, _, _ => rfl
  | 7, _, h, _ => absurd rfl h
  | 8, _, _, _ => rfl
  | 9, _, _, h => absurd rfl h
  | 10, _, _, _ => rfl
  | 11, _, _, _ => rfl
  | 12, _, _, _ => rfl
  | 13, _, _, _ => rfl
  | 14, _, _, _ => rfl
  | 15, _, _, _ => rfl
  | 16, _, _, _ => rfl
  | 17, _, _, _ => rfl
  | 18, _, _, _ => rfl
  | 19, _, _, _ => rfl
  | 20, _, _, _ => rfl
  | 21, _, _, _ => rfl
  | 22, _, _, _ => rfl
  | 23, _, _, _ => rfl
  | 24, _, _, _ => rfl
  | 25, _, _, _ => rfl
  | 26, _, _, _ => rfl
  | 27, _, _, _ => rfl
  | 28, _, _, _ => rfl
  | 29, _, _, _ => rfl
  | 30, _, _, _ => rfl
  | 31, _, _, _ => rfl
  | 32, _, _, _ => rfl
  | 33, _, _, _ => rfl
  | n + 34, h, _, _ => absurd h (by omega)
set_option maxRecDepth 20000 in
theorem x_refs (P S : rr_T) : ∀ (n : Nat) (c : va_E), n < 34 → n ≠ 7 → n ≠ 9 → (xw P S)[n]? = some (some c) → ∀ k, rr_in k c → k < 34
  | 0, c, _, _, _, hc, k, hk => by have e := Option.some.inj (Option.some.inj hc); subst e; simp [rr_in, xF0] at hk; rcases hk with rfl | rfl | rfl | rfl | rfl | rfl | rfl | rfl <;> decide
  | 1, c, _, _, _, hc, k, hk => by have e := Option.some.inj (Option.some.inj hc); subst e; simp [rr_in, xF1] at hk; rcases hk with rfl | rfl | rfl | rfl <;> decide
  | 2, c, _, _, _, hc, k, hk => by have e := Option.some.inj (Option.some.inj hc); subst e; exact hk.elim
  | 3, c, _, _, _, hc, k, hk => by have e := Option.some.inj (Option.some.inj hc); subst e; exact hk.elim
  | 4, c, _, _, _, hc, k, hk => by have e := Option.some.inj (Option.some.inj hc); subst e; exact hk.elim
  | 5, c, _, _, _, hc, k, hk => by have e := Option.some.inj (Option.some.inj hc); subst e; exact hk.elim
  | 6, c, _, _, _, hc, k, hk => by have e := Option.some.inj (Option.some.inj hc); subst e; simp [rr_in, xF6] at hk; rcases hk with rfl <;> decide
  | 7, c, _, h, _, _, k, _ => absurd rfl h
  | 8, c, _, _, _, hc, k, hk => by have e := Option.some.inj (Option.some.inj hc); subst e; simp [rr_in, xF8] at hk; rcases hk with rfl <;> decide
  | 9, c, _, _, h, _, k, _ => absurd rfl h
  | 10, c, _, _, _, hc, k, hk => by have e := Option.some.inj (Option.some.inj hc); subst e; simp [rr_in, xF10] at hk; rcases hk with rfl | rfl | rfl | rfl | rfl | rfl | rfl <;> decide
  | 11, c, _, _, _, hc, k, hk => by have e := Option.some.inj (Option.some.inj hc); subst e; exact hk.elim
  | 12, c, _, _, _, hc, k, hk => by have e := Option.some.inj (Option.some.inj hc); subst e; exact hk.elim
  | 13, c, _, _, _, hc, k, hk => by have e := Option.some.inj (Option.some.inj hc); subst e; exact hk.elim
  | 14, c, _, _, _, hc, k, hk => by have e := Option.some.inj (Option.some.inj hc); subst e; exact hk.elim
  | 15, c, _, _, _, hc, k, hk => by have e := Option.some.inj (Option.some.inj hc); subst e; exact hk.elim
  | 16, c, _, _, _, hc, k, hk => by have e := Option.some.inj (Option.some.inj hc); subst e; exact hk.elim
  | 17, c, _, _, _, hc, k, hk => by have e := Option.some.inj (Option.some.inj hc); subst e; simp [rr_in, xF17] at hk; rcases hk with rfl | rfl | rfl | rfl <;> decide
  | 18, c, _, _, _, hc, k, hk => by have e := Option.some.inj (Option.some.inj hc); subst e; simp [rr_in, xF18] at hk; rcases hk with rfl <;> decide
  | 19, c, _, _, _, hc, k, hk => by have e := Option.some.inj (Option.some.inj hc); subst e; exact hk.elim
  | 20, c, _, _, _, hc, k, hk => by have e := Option.some.inj (Option.some.inj hc); subst e; exact hk.elim
  | 21, c, _, _, _, hc, k, hk => by have e := Option.some.inj (Option.some.inj hc); subst e; simp [rr_in, xF21] at hk; rcases hk with rfl | rfl | rfl | rfl <;> decide
  | 22, c, _, _, _, hc, k, hk => by have e := Option.some.inj (Option.some.inj hc); subst e; exact hk.elim
  | 23, c, _, _, _, hc, k, hk => by have e := Option.some.inj (Option.some.inj hc); subst e; exact hk.elim
  | 24, c, _, _, _, hc, k, hk => by have e := Option.some.inj (Option.some.inj hc); subst e; exact hk.elim
  | 25, c, _, _, _, hc, k, hk => by have e := Option.some.inj (Option.some.inj hc); subst e; simp [rr_in, xF25] at hk; rcases hk with rfl | rfl | rfl | rfl | rfl | rfl | rfl | rfl <;> decide
  | 26, c, _, _, _, hc, k, hk => by have e := Option.some.inj (Option.some.inj hc); subst e; simp [rr_in, xF26] at hk; rcases hk with rfl <;> decide
  | 27, c, _, _, _, hc, k, hk => by have e := Option.some.inj (Option.some.inj hc); subst e; exact hk.elim
  | 28, c, _, _, _, hc, k, hk => by have e := Option.some.inj (Option.some.inj hc); subst e; exact hk.elim
  | 29, c, _, _, _, hc, k, hk => by have e := Option.some.inj (Option.some.inj hc); subst e; exact hk.elim
  | 30, c, _, _, _, hc, k, hk => by have e := Option.some.inj (Option.some.inj hc); subst e; exact hk.elim
  | 31, c, _, _, _, hc, k, hk => by have e := Option.some.inj (Option.some.inj hc); subst e; exact hk.elim
  | 32, c, _, _, _, hc, k, hk => by have e := Option.some.inj (Option.some.inj hc); subst e; exact hk.elim
  | 33, c, _, _, _, hc, k, hk => by have e := Option.some.inj (Option.some.inj hc); subst e; exact hk.elim
  | n + 34, _, h, _, _, _, _, _ => absurd h (by omega)
theorem x_poolR (P S : rr_T) : ∀ j, j < 6 → (xw P S)[34 + j]? = some (if j < P.2.2.2 34 then some (.inr (6, xRf P (34 + j))) else none)
  | 0, _ => rfl
  | 1, _ => rfl
  | 2, _ => rfl
  | 3, _ => rfl
  | 4, _ => rfl
  | 5, _ => rfl
  | j + 6, h => absurd h (by omega)
theorem xRl_ge {P : rr_T} {j k : Nat} (hj : xRl P j = some k) : 34 ≤ k ∧ k < 40 := by
  unfold xRl at hj
  split at hj
  · have := Option.some.inj hj; omega
  · cases hj
theorem x_poolS (P S : rr_T) : ∀ j, j < 16 → (xw P S)[40 + j]? = some (if j < P.2.2.2 40 then some (.inr (9, xSf P (40 + j))) else none)
  | 0, _ => rfl
  | 1, _ => rfl
  | 2, _ => rfl
  | 3, _ => rfl
  | 4, _ => rfl
  | 5, _ => rfl
  | 6, _ => rfl
  | 7, _ => rfl
  | 8, _ => rfl
  | 9, _ => rfl
  | 10, _ => rfl
  | 11, _ => rfl
  | 12, _ => rfl
  | 13, _ => rfl
  | 14, _ => rfl
  | 15, _ => rfl
  | j + 16, h => absurd h (by omega)
theorem xSl_ge {P : rr_T} {j k : Nat} (hj : xSl P j = some k) : 40 ≤ k ∧ k < 56 := by
  unfold xSl at hj
  split at hj
  · have := Option.some.inj hj; omega
  · cases hj
def xPr (P : rr_T) (B i : Nat) (fs : Nat → Int32) : rr_T := (fun k => if 16 * (B + i) ≤ k ∧ k < 16 * (B + i) + 16 then fs (k - 16 * (B + i)) else P.1 k, P.2.1, P.2.2.1, va_up P.2.2.2 B (max (P.2.2.2 B) (i + 1)))
theorem xPr_selfR (P : rr_T) (i : Nat) (fs : Nat → Int32) : xRf (xPr P 34 i fs) (34 + i) = [.int (fs 0), .int (fs 1), .int (fs 2), .int (fs 3)] := by
  have h : ∀ k, k < 4 → (xPr P 34 i fs).1 (16 * (34 + i) + k) = fs k := fun k hk => by
    show (if _ then _ else _) = _
    rw [if_pos (by omega), show 16 * (34 + i) + k - 16 * (34 + i) = k by omega]
  unfold xRf
  rw [show 16 * (34 + i) = 16 * (34 + i) + 0 by omega, h 0 (by omega), h 1 (by omega), h 2 (by omega), h 3 (by omega)]
theorem xPr_neRR (P : rr_T) (i r : Nat) (fs : Nat → Int32) (h : r ≠ 34 + i) : xRf (xPr P 34 i fs) r = xRf P r := by
  have g : ∀ k, k < 16 → (xPr P 34 i fs).1 (16 * r + k) = P.1 (16 * r + k) := fun k hk => if_neg (by omega)
  have g0 : (xPr P 34 i fs).1 (16 * r) = P.1 (16 * r) := g 0 (by omega)
  unfold xRf
  rw [g0, g 1 (by omega), g 2 (by omega), g 3 (by omega)]
theorem xPr_neRS (P : rr_T) (i r : Nat) (fs : Nat → Int32) (h : r ≠ 34 + i) : xSf (xPr P 34 i fs) r = xSf P r := by
  have g : ∀ k, k < 16 → (xPr P 34 i fs).1 (16 * r + k) = P.1 (16 * r + k) := fun k hk => if_neg (by omega)
  have g0 : (xPr P 34 i fs).1 (16 * r) = P.1 (16 * r) := g 0 (by omega)
  unfold xSf
  rw [g0, g 1 (by omega), g 2 (by omega), g 3 (by omega), g 4 (by omega)]
set_option maxRecDepth 20000 in
theorem xvaR {P S : rr_T} {i : Nat} {fs : Nat → Int32} (hi : i < 6) (hN : i ≤ P.2.2.2 34) : ∀ (n : Nat) (c' : va_E), (xw (xPr P 34 i fs) S)[n]? = some (some c') → ∃ c, (((xw P S).set 56 (some (.inr (6, [.int (fs 0), .int (fs 1), .int (fs 2), .int (fs 3)])))).set 7 (some (.inl (4, 6, .inr (.inr (.inr (.inr (va_up (xRl P) i (some 56)))))))))[xq (34 + i) n]? = some (some c) ∧ ∀ (cy : Nat → ClassId) (ad : Nat → Nat), a_c cy (fun k => ad (xq (34 + i) k)) c' = a_c cy ad c := by
  intro n c' hc
  have hNN : (xPr P 34 i fs).2.2.2 34 = max (P.2.2.2 34) (i + 1) := rfl
  have hNo : (xPr P 34 i fs).2.2.2 40 = P.2.2.2 40 := rfl
  have src : ∀ m, m ≠ 56 → m ≠ 7 → (((xw P S).set 56 (some (.inr (6, [.int (fs 0), .int (fs 1), .int (fs 2), .int (fs 3)])))).set 7 (some (.inl (4, 6, .inr (.inr (.inr (.inr (va_up (xRl P) i (some 56)))))))))[m]? = (xw P S)[m]? := fun m h1 h2 => by rw [List.getElem?_set_ne (fun q => h2 q.symm), List.getElem?_set_ne (fun q => h1 q.symm)]
  have src56 : (((xw P S).set 56 (some (.inr (6, [.int (fs 0), .int (fs 1), .int (fs 2), .int (fs 3)])))).set 7 (some (.inl (4, 6, .inr (.inr (.inr (.inr (va_up (xRl P) i (some 56)))))))))[56]? = some (some (.inr (6, [.int (fs 0), .int (fs 1), .int (fs 2), .int (fs 3)]))) := by rw [List.getElem?_set_ne (by decide)]; rfl
  have lt57 : n < 57 := (List.getElem?_eq_some_iff.mp hc).1
  by_cases h34 : n < 34
  · by_cases h7 : n = 7
    · subst h7
      have e := Option.some.inj (Option.some.inj hc)
      subst e
      refine ⟨.inl (4, 6, .inr (.inr (.inr (.inr (va_up (xRl P) i (some 56)))))), by rw [show xq (34 + i) 7 = 7 from if_neg (by omega)]; exact List.getElem?_set_self (by simp [xw]), fun cy ad => ?_⟩
      show (Sum.inl (cy 4, 6, .inr (.inr (.inr (.inr (fun j => (xRl (xPr P 34 i fs) j).map (fun k => ad (xq (34 + i) k))))))) : va_E) = .inl (cy 4, 6, .inr (.inr (.inr (.inr (fun j => (va_up (xRl P) i (some 56) j).map ad)))))
      have e : (fun j => (xRl (xPr P 34 i fs) j).map (fun k => ad (xq (34 + i) k))) = (fun j => (va_up (xRl P) i (some 56) j).map ad) := by
        funext j
        unfold xRl
        rw [hNN]
        by_cases hj : j = i
        · subst hj
          rw [va_up_self, if_pos ⟨by omega, hi⟩]
          exact congrArg some (congrArg ad (if_pos rfl))
        · rw [va_up_ne _ _ hj]
          by_cases hl : j < P.2.2.2 34 ∧ j < 6
          · rw [if_pos ⟨by omega, hl.2⟩, if_pos hl]
            exact congrArg some (congrArg ad (if_neg (by omega)))
          · rw [if_neg (by omega), if_neg hl]
            rfl
      rw [e]
    · by_cases h9 : n = 9
      · subst h9
        have e := Option.some.inj (Option.some.inj hc)
        subst e
        refine ⟨_, by rw [show xq (34 + i) 9 = 9 from if_neg (by omega), src 9 (by omega) (by omega)]; rfl, fun cy ad => ?_⟩
        have e : xSl (xPr P 34 i fs) = xSl P := by unfold xSl; rw [hNo]
        rw [e]
        exact a_c_congr (fun k ⟨j, hj⟩ => congrArg ad (if_neg (by have := xSl_ge hj; omega)))
      · have hq : xq (34 + i) n = n := if_neg (by omega)
        rw [x_stat P _ S n h34 h7 h9] at hc
        exact ⟨c', by rw [hq, src n (by omega) (by omega)]; exact hc, fun cy ad => a_c_congr (fun k hk => congrArg ad (if_neg (by have := x_refs P S n c' h34 h7 h9 hc k hk; omega)))⟩
  · by_cases h40 : n < 40
    · obtain ⟨j, rfl⟩ : ∃ j, n = 34 + j := ⟨n - 34, by omega⟩
      rw [x_poolR _ S j (by omega)] at hc
      obtain ⟨y, e⟩ := x_if (Option.some.inj hc)
      subst e
      by_cases hj : j = i
      · subst hj
        refine ⟨_, by rw [show xq (34 + j) (34 + j) = 56 from if_pos rfl]; exact src56, fun cy ad => ?_⟩
        rw [xPr_selfR]
        rfl
      · rw [hNN] at y
        refine ⟨_, by rw [show xq (34 + i) (34 + j) = 34 + j from if_neg (by omega), src _ (by omega) (by omega), x_poolR P S j (by omega), if_pos (by omega)], fun cy ad => ?_⟩
        rw [xPr_neRR P i _ fs (by omega)]
        rfl
    · by_cases h56 : n < 56
      · obtain ⟨j, rfl⟩ : ∃ j, n = 40 + j := ⟨n - 40, by omega⟩
        rw [x_poolS _ S j (by omega)] at hc
        obtain ⟨y, e⟩ := x_if (Option.some.inj hc)
        subst e
        rw [hNo] at y
        refine ⟨_, by rw [show xq (34 + i) (40 + j) = 40 + j from if_neg (by omega), src _ (by omega) (by omega), x_poolS P S j (by omega), if_pos y], fun cy ad => ?_⟩
        rw [xPr_neRS P i _ fs (by omega)]
        rfl
      · have : n = 56 := by omega
        subst this
        cases Option.some.inj hc
theorem xPr_selfS (P : rr_T) (i : Nat) (fs : Nat → Int32) : xSf (xPr P 40 i fs) (40 + i) = [.int (fs 0), .int (fs 1), .int (fs 2), .int (fs 3), .int (fs 4)] := by
  have h : ∀ k, k < 5 → (xPr P 40 i fs).1 (16 * (40 + i) + k) = fs k := fun k hk => by
    show (if _ then _ else _) = _
    rw [if_pos (by omega), show 16 * (40 + i) + k - 16 * (40 + i) = k by omega]
  unfold xSf
  rw [show 16 * (40 + i) = 16 * (40 + i) + 0 by omega, h 0 (by omega), h 1 (by omega), h 2 (by omega), h 3 (by omega), h 4 (by omega)]
theorem xPr_neSS (P : rr_T) (i r : Nat) (fs : Nat → Int32) (h : r ≠ 40 + i) : xSf (xPr P 40 i fs) r = xSf P r := by
  have g : ∀ k, k < 16 → (xPr P 40 i fs).1 (16 * r + k) = P.1 (16 * r + k) := fun k hk => if_neg (by omega)
  have g0 : (xPr P 40 i fs).1 (16 * r) = P.1 (16 * r) := g 0 (by omega)
  unfold xSf
  rw [g0, g 1 (by omega), g 2 (by omega), g 3 (by omega), g 4 (by omega)]
theorem xPr_neSR (P : rr_T) (i r : Nat) (fs : Nat → Int32) (h : r ≠ 40 + i) : xRf (xPr P 40 i fs) r = xRf P r := by
  have g : ∀ k, k < 16 → (xPr P 40 i fs).1 (16 * r + k) = P.1 (16 * r + k) := fun k hk => if_neg (by omega)
  have g0 : (xPr P 40 i fs).1 (16 * r) = P.1 (16 * r) := g 0 (by omega)
  unfold xRf
  rw [g0, g 1 (by omega), g 2 (by omega), g 3 (by omega)]
set_option maxRecDepth 20000 in
theorem xvaS {P S : rr_T} {i : Nat} {fs : Nat → Int32} (hi : i < 16) (hN : i ≤ P.2.2.2 40) : ∀ (n : Nat) (c' : va_E), (xw (xPr P 40 i fs) S)[n]? = some (some c') → ∃ c, (((xw P S).set 56 (some (.inr (9, [.int (fs 0), .int (fs 1), .int (fs 2), .int (fs 3), .int (fs 4)])))).set 9 (some (.inl (5, 16, .inr (.inr (.inr (.inr (va_up (xSl P) i (some 56)))))))))[xq (40 + i) n]? = some (some c) ∧ ∀ (cy : Nat → ClassId) (ad : Nat → Nat), a_c cy (fun k => ad (xq (40 + i) k)) c' = a_c cy ad c := by
  intro n c' hc
  have hNN : (xPr P 40 i fs).2.2.2 40 = max (P.2.2.2 40) (i + 1) := rfl
  have hNo : (xPr P 40 i fs).2.2.2 34 = P.2.2.2 34 := rfl
  have src : ∀ m, m ≠ 56 → m ≠ 9 → (((xw P S).set 56 (some (.inr (9, [.int (fs 0), .int (fs 1), .int (fs 2), .int (fs 3), .int (fs 4)])))).set 9 (some (.inl (5, 16, .inr (.inr (.inr (.inr (va_up (xSl P) i (some 56)))))))))[m]? = (xw P S)[m]? := fun m h1 h2 => by rw [List.getElem?_set_ne (fun q => h2 q.symm), List.getElem?_set_ne (fun q => h1 q.symm)]
  have src56 : (((xw P S).set 56 (some (.inr (9, [.int (fs 0), .int (fs 1), .int (fs 2), .int (fs 3), .int (fs 4)])))).set 9 (some (.inl (5, 16, .inr (.inr (.inr (.inr (va_up (xSl P) i (some 56)))))))))[56]? = some (some (.inr (9, [.int (fs 0), .int (fs 1), .int (fs 2), .int (fs 3), .int (fs 4)]))) := by rw [List.getElem?_set_ne (by decide)]; rfl
  have lt57 : n < 57 := (List.getElem?_eq_some_iff.mp hc).1
  by_cases h34 : n < 34
  · by_cases h7 : n = 7
    · subst h7
      have e := Option.some.inj (Option.some.inj hc)
      subst e
      refine ⟨_, by rw [show xq (40 + i) 7 = 7 from if_neg (by omega), src 7 (by omega) (by omega)]; rfl, fun cy ad => ?_⟩
      have e : xRl (xPr P 40 i fs) = xRl P := by unfold xRl; rw [hNo]
      rw [e]
      exact a_c_congr (fun k ⟨j, hj⟩ => congrArg ad (if_neg (by have := xRl_ge hj; omega)))
    · by_cases h9 : n = 9
      · subst h9
        have e := Option.some.inj (Option.some.inj hc)
        subst e
        refine ⟨.inl (5, 16, .inr (.inr (.inr (.inr (va_up (xSl P) i (some 56)))))), by rw [show xq (40 + i) 9 = 9 from if_neg (by omega)]; exact List.getElem?_set_self (by simp [xw]), fun cy ad => ?_⟩
        show (Sum.inl (cy 5, 16, .inr (.inr (.inr (.inr (fun j => (xSl (xPr P 40 i fs) j).map (fun k => ad (xq (40 + i) k))))))) : va_E) = .inl (cy 5, 16, .inr (.inr (.inr (.inr (fun j => (va_up (xSl P) i (some 56) j).map ad)))))
        have e : (fun j => (xSl (xPr P 40 i fs) j).map (fun k => ad (xq (40 + i) k))) = (fun j => (va_up (xSl P) i (some 56) j).map ad) := by
          funext j
          unfold xSl
          rw [hNN]
          by_cases hj : j = i
          · subst hj
            rw [va_up_self, if_pos ⟨by omega, hi⟩]
            exact congrArg some (congrArg ad (if_pos rfl))
          · rw [va_up_ne _ _ hj]
            by_cases hl : j < P.2.2.2 40 ∧ j < 16
            · rw [if_pos ⟨by omega, hl.2⟩, if_pos hl]
              exact congrArg some (congrArg ad (if_neg (by omega)))
            · rw [if_neg (by omega), if_neg hl]
              rfl
        rw [e]
      · have hq : xq (40 + i) n = n := if_neg (by omega)
        rw [x_stat P _ S n h34 h7 h9] at hc
        exact ⟨c', by rw [hq, src n (by omega) (by omega)]; exact hc, fun cy ad => a_c_congr (fun k hk => congrArg ad (if_neg (by have := x_refs P S n c' h34 h7 h9 hc k hk; omega)))⟩
  · by_cases h40 : n < 40
    · obtain ⟨j, rfl⟩ : ∃ j, n = 34 + j := ⟨n - 34, by omega⟩
      rw [x_poolR _ S j (by omega)] at hc
      obtain ⟨y, e⟩ := x_if (Option.some.inj hc)
      subst e
      rw [hNo] at y
      refine ⟨_, by rw [show xq (40 + i) (34 + j) = 34 + j from if_neg (by omega), src _ (by omega) (by omega), x_poolR P S j (by omega), if_pos y], fun cy ad => ?_⟩
      rw [xPr_neSR P i _ fs (by omega)]
      rfl
    · by_cases h56 : n < 56
      · obtain ⟨j, rfl⟩ : ∃ j, n = 40 + j := ⟨n - 40, by omega⟩
        rw [x_poolS _ S j (by omega)] at hc
        obtain ⟨y, e⟩ := x_if (Option.some.inj hc)
        subst e
        by_cases hj : j = i
        · subst hj
          refine ⟨_, by rw [show xq (40 + j) (40 + j) = 56 from if_pos rfl]; exact src56, fun cy ad => ?_⟩
          rw [xPr_selfS]
          rfl
        · rw [hNN] at y
          refine ⟨_, by rw [show xq (40 + i) (40 + j) = 40 + j from if_neg (by omega), src _ (by omega) (by omega), x_poolS P S j (by omega), if_pos (by omega)], fun cy ad => ?_⟩
          rw [xPr_neSS P i _ fs (by omega)]
          rfl
      · have : n = 56 := by omega
        subst this
        cases Option.some.inj hc
