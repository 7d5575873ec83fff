/-! ===== L3: the class: sort ===== -/
/-- sorted in blocks of w -/
def blk (K : Nat → Nat) (w n : Nat) (o : Nat → Nat) : Prop := ∀ q i j, q * w ≤ i → i < j → j < q * w + w → j < n → K (o i) ≤ K (o j)
theorem xSw_1 (S : rr_T) : (xSw S).1 = S.1 := rfl
theorem xSw_28 (S : rr_T) : (xSw S).2.1 28 = S.2.1 29 := by simp [xSw, va_up]
theorem xSw_n {S : rr_T} {m : Nat} (h : m ≠ 28) (h2 : m ≠ 29) : (xSw S).2.1 m = S.2.1 m := by simp [xSw, va_up, h, h2]
theorem xSw_22 {S : rr_T} (h : S.2.2.2 29 = S.2.2.2 28) : (xSw S).2.2 = S.2.2 := by
  unfold xSw
  apply Prod.ext
  · rfl
  · funext m
    show va_up (va_up S.2.2.2 28 (S.2.2.2 29)) 29 (S.2.2.2 28) m = S.2.2.2 m
    by_cases h1 : m = 29
    · subst h1; simp [va_up, h]
    · by_cases h2 : m = 28
      · subst h2; simp [va_up, h]
      · simp [va_up, h1, h2]
theorem frX_sw {is as : List Nat} {S S' : rr_T} (f : frX is as S S') (h : S'.2.2.2 29 = S'.2.2.2 28) (h1 : 28 ∈ as) (h2 : 29 ∈ as) : frX is as S (xSw S') := by
  refine ⟨⟨fun k hk => f.1.1 k hk, fun n hn => ?_⟩, by rw [xSw_22 h]; exact f.2⟩
  rw [xSw_n (fun e => hn (by rw [e]; exact h1)) (fun e => hn (by rw [e]; exact h2))]
  exact f.1.2 n hn
section XSORT
variable {Z : rr_T} {G : List (List Nat)}
theorem uX_s45 {o : Nat → Nat} {w u v : Nat} {rec : Int32 × rr_T × Nat × Nat → Option (rr_T × Nat × Nat)} {z : rr_T × Nat × Nat} (hw : 1 ≤ w) (hwn : w < G.length) (ho : ∀ i, i < G.length → o i < G.length) (hB : blk (kG G) w G.length o) : ∀ (m q f : Nat) (s : Nat → Nat) (S : rr_T), G.length ≤ q * (2 * w) + m → m + 1 ≤ f → q * (2 * w) ≤ G.length + 2 * w → lkX S G → c89 S G.length → (∀ i, i < G.length → S.2.1 28 i = nI (o i)) → (∀ t, t < q * (2 * w) → t < G.length → S.2.1 29 t = nI (s t)) → (∀ q', q' < q → ∀ i j, q' * (2 * w) ≤ i → i < j → j < q' * (2 * w) + 2 * w → j < G.length → kG G (s i) ≤ kG G (s j)) → (∀ i, i < q * (2 * w) → i < G.length → ∃ t, t < q * (2 * w) ∧ t < G.length ∧ s t = o i) → (∀ t, t < q * (2 * w) → t < G.length → s t < G.length) → ∃ (S' : rr_T) (s' : Nat → Nat), rr_loop f (LX1_sort_45 Z (nI G.length) rec (nI w, z)) (nI (q * (2 * w)), S, u, v) = JX1_sort_80 rec (nI w, z) (S', u, v) ∧ frX [] [29] S S' ∧ (∀ t, t < G.length → S'.2.1 29 t = nI (s' t)) ∧ blk (kG G) (2 * w) G.length s' ∧ (∀ i, i < G.length → ∃ t, t < G.length ∧ s' t = o i) ∧ ∀ t, t < G.length → s' t < G.length := by
  intro m
  have fin : ∀ (q f : Nat) (s : Nat → Nat) (S : rr_T), G.length ≤ q * (2 * w) → 1 ≤ f → q * (2 * w) ≤ G.length + 2 * w → lkX S G → (∀ t, t < q * (2 * w) → t < G.length → S.2.1 29 t = nI (s t)) → (∀ q', q' < q → ∀ i j, q' * (2 * w) ≤ i → i < j → j < q' * (2 * w) + 2 * w → j < G.length → kG G (s i) ≤ kG G (s j)) → (∀ i, i < q * (2 * w) → i < G.length → ∃ t, t < q * (2 * w) ∧ t < G.length ∧ s t = o i) → (∀ t, t < q * (2 * w) → t < G.length → s t < G.length) → ∃ (S' : rr_T) (s' : Nat → Nat), rr_loop f (LX1_sort_45 Z (nI G.length) rec (nI w, z)) (nI (q * (2 * w)), S, u, v) = JX1_sort_80 rec (nI w, z) (S', u, v) ∧ frX [] [29] S S' ∧ (∀ t, t < G.length → S'.2.1 29 t = nI (s' t)) ∧ blk (kG G) (2 * w) G.length s' ∧ (∀ i, i < G.length → ∃ t, t < G.length ∧ s' t = o i) ∧ ∀ t, t < G.length → s' t < G.length := by
    intro q f s S h1 h2 h3 hL h29 hs hcv hbd
    obtain ⟨f, rfl⟩ : ∃ g, f = g + 1 := ⟨f - 1, by omega⟩
    have h6 := hL.2.2.2.2.2.1
    refine ⟨S, s, ?_, frX_r _ _ _, fun t ht => h29 t (by omega) ht, fun q' i j i1 i2 i3 i4 => ?_, fun i hi => ?_, fun t ht => hbd t (by omega) ht⟩
    · rw [loop_s, LX1_sort_45]
      dsimp only
      rw [if_pos (nI_le h1 (by omega))]
    · rcases Nat.lt_or_ge q' q with c | c
      · exact hs q' c i j i1 i2 i3 i4
      · have := Nat.mul_le_mul_right (2 * w) c
        omega
    · obtain ⟨t, t1, t2, t3⟩ := hcv i (by omega) hi
      exact ⟨t, t2, t3⟩
  induction m with
  | zero =>
    intro q f s S h1 h2 h3 hL hc h28 h29 hs hcv hbd
    exact fin q f s S (by omega) (by omega) h3 hL h29 hs hcv hbd
  | succ m ih =>
    intro q f s S h1 h2 h3 hL hc h28 h29 hs hcv hbd
    rcases Nat.lt_or_ge (q * (2 * w)) G.length with c | c
    · obtain ⟨f, rfl⟩ : ∃ g, f = g + 1 := ⟨f - 1, by omega⟩
      have h6 := hL.2.2.2.2.2.1
      have e1 : (2 * q) * w = q * (2 * w) := by rw [Nat.mul_comm 2 q, Nat.mul_assoc]
      have e2 : (2 * q + 1) * w = q * (2 * w) + w := by rw [Nat.succ_mul, e1]
      have e3 : (q + 1) * (2 * w) = q * (2 * w) + 2 * w := Nat.succ_mul _ _
      obtain ⟨S1, s1, a1, a2, a3, a4, a5, a6, a7⟩ := pX_merge (Z := Z) (a := q * (2 * w)) (mid := min (q * (2 * w) + w) G.length) (b := min (q * (2 * w) + 2 * w) G.length) (S := S) (by omega) (by omega) (by omega) ho (fun i j i1 i2 i3 => hB (2 * q) i j (by omega) i2 (by omega) (by omega)) (fun i j i1 i2 i3 => hB (2 * q + 1) i j (by omega) i2 (by omega) (by omega)) hL hc h28
      have eM : jMin (nI (q * (2 * w)) + nI w) (nI G.length) = nI (min (q * (2 * w) + w) G.length) := by rw [nI_add, jMinN (by omega) (by omega)]
      have e2w : nI (q * (2 * w)) + (2 : Int32) * nI w = nI (q * (2 * w) + 2 * w) := by rw [show (2 : Int32) * nI w = nI (2 * w) from pk_mul 2 _, nI_add]
      have eB : jMin (nI (q * (2 * w)) + (2 : Int32) * nI w) (nI G.length) = nI (min (q * (2 * w) + 2 * w) G.length) := by rw [e2w, jMinN (by omega) (by omega)]
      have e0 : rr_loop (f + 1) (LX1_sort_45 Z (nI G.length) rec (nI w, z)) (nI (q * (2 * w)), S, u, v) = rr_loop f (LX1_sort_45 Z (nI G.length) rec (nI w, z)) (nI ((q + 1) * (2 * w)), S1, u, v) := by
        rw [loop_s, LX1_sort_45]
        dsimp only
        rw [if_neg (nI_ge c (by omega)), eM, eB, a1, Option.bind_some, rr_l_e, e2w, ← e3]
      rw [e0]
      obtain ⟨S', s', b1, b2, b3, b4, b5, b6⟩ := ih (q + 1) f (fun t => if t < q * (2 * w) then s t else s1 t) S1 (by omega) (by omega) (by omega) (lkX_fr (ls := []) (frY_x a2) (by simp) (by simp) hL) (by unfold c89; rw [a2.2]; exact hc) (by rw [frX_2 a2 (by simp)]; exact h28) (fun t t1 t2 => by
        by_cases y : t < q * (2 * w)
        · rw [if_pos y, a4 t (Or.inl y)]; exact h29 t y t2
        · rw [if_neg y]; exact a3 t (by omega) (by omega)) (fun q' hq' i j i1 i2 i3 i4 => by
        rcases Nat.lt_or_ge q' q with d | d
        · have d1 := Nat.mul_le_mul_right (2 * w) (show q' + 1 ≤ q from d)
          rw [Nat.succ_mul] at d1
          rw [if_pos (show i < q * (2 * w) by omega), if_pos (show j < q * (2 * w) by omega)]
          exact hs q' d i j i1 i2 i3 i4
        · obtain rfl : q' = q := by omega
          rw [if_neg (show ¬ i < q' * (2 * w) by omega), if_neg (show ¬ j < q' * (2 * w) by omega)]
          exact a5 i j i1 i2 (by omega)) (fun i i1 i2 => by
        by_cases y : i < q * (2 * w)
        · obtain ⟨t, t1, t2, t3⟩ := hcv i y i2
          exact ⟨t, by omega, t2, by rw [if_pos t1]; exact t3⟩
        · obtain ⟨t, t1, t2, t3⟩ := a6 i (by omega) (by omega)
          exact ⟨t, by omega, by omega, by rw [if_neg (by omega)]; exact t3⟩) (fun t t1 t2 => by
        by_cases y : t < q * (2 * w)
        · rw [if_pos y]; exact hbd t y t2
        · rw [if_neg y]
          obtain ⟨i, i1, i2, i3⟩ := a7 t (by omega) (by omega)
          rw [i3]
          exact ho i (by omega))
      exact ⟨S', s', b1, frX_t a2 b2, b3, b4, b5, b6⟩
    · exact fin q f s S c (by omega) h3 hL h29 hs hcv hbd
theorem uX_s38 {u v : Nat} : ∀ (m w f : Nat) (o : Nat → Nat) (S : rr_T), G.length ≤ w * 2 ^ m → m + 1 ≤ f → 1 ≤ w → w < 2 ^ 20 → lkX S G → c89 S G.length → (∀ i, i < G.length → S.2.1 28 i = nI (o i)) → (∀ i, i < G.length → o i < G.length) → (∀ l, l < G.length → ∃ i, i < G.length ∧ o i = l) → blk (kG G) w G.length o → ∃ (S' : rr_T) (o' : Nat → Nat), rr_loop f (LX1_sort_38 Z (nI G.length)) (nI w, S, u, v) = some (S', u, v) ∧ frX [] [28, 29] S S' ∧ (∀ i, i < G.length → S'.2.1 28 i = nI (o' i)) ∧ (∀ i j, i < j → j < G.length → kG G (o' i) ≤ kG G (o' j)) ∧ (∀ i, i < G.length → o' i < G.length) ∧ ∀ l, l < G.length → ∃ i, i < G.length ∧ o' i = l := by
  intro m
  have fin : ∀ (w f : Nat) (o : Nat → Nat) (S : rr_T), G.length ≤ w → 1 ≤ f → w < 2 ^ 20 → (∀ i, i < G.length → S.2.1 28 i = nI (o i)) → (∀ i, i < G.length → o i < G.length) → (∀ l, l < G.length → ∃ i, i < G.length ∧ o i = l) → blk (kG G) w G.length o → ∃ (S' : rr_T) (o' : Nat → Nat), rr_loop f (LX1_sort_38 Z (nI G.length)) (nI w, S, u, v) = some (S', u, v) ∧ frX [] [28, 29] S S' ∧ (∀ i, i < G.length → S'.2.1 28 i = nI (o' i)) ∧ (∀ i j, i < j → j < G.length → kG G (o' i) ≤ kG G (o' j)) ∧ (∀ i, i < G.length → o' i < G.length) ∧ ∀ l, l < G.length → ∃ i, i < G.length ∧ o' i = l := by
    intro w f o S h1 h2 h3 h28 ho hcv hB
    obtain ⟨f, rfl⟩ : ∃ g, f = g + 1 := ⟨f - 1, by omega⟩
    refine ⟨S, o, ?_, frX_r _ _ _, h28, fun i j i1 i2 => hB 0 i j (by omega) i1 (by omega) i2, ho, hcv⟩
    rw [loop_s, LX1_sort_38]
    dsimp only
    rw [if_pos (nI_le h1 (by omega))]
  induction m with
  | zero =>
    intro w f o S h1 h2 h3 h4 hL hc h28 ho hcv hB
    exact fin w f o S (by rw [Nat.pow_zero, Nat.mul_one] at h1; exact h1) (by omega) h4 h28 ho hcv hB
  | succ m ih =>
    intro w f o S h1 h2 h3 h4 hL hc h28 ho hcv hB
    rcases Nat.lt_or_ge w G.length with c | c
    · obtain ⟨f, rfl⟩ : ∃ g, f = g + 1 := ⟨f - 1, by omega⟩
      have h6 := hL.2.2.2.2.2.1
      obtain ⟨S1, s1, a1, a2, a3, a4, a5, a6⟩ := uX_s45 (Z := Z) (o := o) (w := w) (u := u) (v := v) (rec := rr_loop f (LX1_sort_38 Z (nI G.length))) (z := (S, u, v)) h3 c ho hB G.length 0 FU (fun _ => 0) S (by omega) (by show _ ≤ 5000; omega) (by omega) hL hc h28 (fun t t1 => by omega) (fun q' hq' => by omega) (fun i i1 => by omega) (fun t t1 => by omega)
      have hc1 : c89 S1 G.length := by unfold c89; rw [a2.2]; exact hc
      have f2 : frX [] [28, 29] S (xSw S1) := frX_sw (frX_w a2 (by simp) (by simp)) hc1.2.2 (by simp) (by simp)
      have e0 : rr_loop (f + 1) (LX1_sort_38 Z (nI G.length)) (nI w, S, u, v) = rr_loop f (LX1_sort_38 Z (nI G.length)) (nI (2 * w), xSw S1, u, v) := by
        rw [loop_s, LX1_sort_38]
        dsimp only
        rw [Nat.zero_mul] at a1
        have a1 : rr_loop FU (LX1_sort_45 Z (nI G.length) (rr_loop f (LX1_sort_38 Z (nI G.length))) (nI w, S, u, v)) (0, S, u, v) = _ := a1
        rw [if_neg (nI_ge c (by omega)), a1, JX1_sort_80]
        dsimp only
        rw [rr_l_e, rr_l_e, show nI w * (2 : Int32) = nI (w * 2) from pk_mul w 2, Nat.mul_comm w 2]
      rw [e0]
      obtain ⟨S', o', b1, b2, b3, b4, b5, b6⟩ := ih (2 * w) f s1 (xSw S1) (by rw [Nat.pow_succ, Nat.mul_comm (2 ^ m) 2, ← Nat.mul_assoc, Nat.mul_comm w 2] at h1; exact h1) (by omega) (by omega) (by omega) (lkX_fr (ls := []) (frY_x f2) (by simp) (by simp) hL) (by unfold c89; rw [f2.2]; exact hc) (by rw [xSw_28]; exact a3) a6 (fun l hl => by
        obtain ⟨i, i1, i2⟩ := hcv l hl
        obtain ⟨t, t1, t2⟩ := a5 i i1
        exact ⟨t, t1, by rw [t2, i2]⟩) a4
      exact ⟨S', o', b1, frX_t f2 b2, b3, b4, b5, b6⟩
    · exact fin w f o S c (by omega) h4 h28 ho hcv hB
theorem uX_s18 {u v : Nat} : ∀ (m i f : Nat) (S : rr_T), i + m = G.length → m + 1 ≤ f → lkX S G → c89 S G.length → (∀ j, j < i → S.2.1 28 j = nI j) → ∃ S', rr_loop f (LX1_sort_18 Z (nI G.length)) (nI i, S, u, v) = JX1_sort_36 Z (nI G.length) (S', u, v) ∧ frX [] [28, 29] S S' ∧ ∀ j, j < G.length → S'.2.1 28 j = nI j := by
  intro m
  induction m with
  | zero =>
    intro i f S hi hf hL hc h28
    obtain ⟨f, rfl⟩ : ∃ g, f = g + 1 := ⟨f - 1, by omega⟩
    have h6 := hL.2.2.2.2.2.1
    refine ⟨S, ?_, frX_r _ _ _, fun j hj => h28 j (by omega)⟩
    rw [loop_s, LX1_sort_18]
    dsimp only
    rw [if_pos (nI_le (by omega) (by omega))]
  | succ m ih =>
    intro i f S hi hf hL hc h28
    obtain ⟨f, rfl⟩ : ∃ g, f = g + 1 := ⟨f - 1, by omega⟩
    have h6 := hL.2.2.2.2.2.1
    have f1 : frX [] [28, 29] S (pA S 28 (nI i) (nI i)) := frX_pA (frX_r _ _ _) (by simp)
    obtain ⟨S', b1, b2, b3⟩ := ih (i + 1) f (pA S 28 (nI i) (nI i)) (by omega) (by omega) (lkX_fr (ls := []) (frY_x f1) (by simp) (by simp) hL) hc (fun j hj => by
      rw [pA_s, nI_clamp (by omega)]
      by_cases e : j = i
      · rw [e, upd_s]
      · rw [upd_n e]; exact h28 j (by omega))
    refine ⟨S', ?_, frX_t f1 b2, b3⟩
    obtain ⟨k1, k2, k3⟩ := hc
    rw [loop_s, LX1_sort_18]
    dsimp only
    rw [if_neg (nI_ge (by omega) (by omega)), if_pos (inb_nI (by omega) (by omega)), rr_l_e, nI_1]
    exact b1
theorem pX_sort {S : rr_T} {u v : Nat} (hL : lkX S G) (hc : c89 S G.length) : ∃ (S' : rr_T) (o : Nat → Nat), fX1_sort Z S u v = some (S', u, v) ∧ frX [] [28, 29] S S' ∧ (∀ i, i < G.length → S'.2.1 28 i = nI (o i)) ∧ (∀ i j, i < j → j < G.length → kG G (o i) ≤ kG G (o j)) ∧ (∀ i, i < G.length → o i < G.length) ∧ ∀ l, l < G.length → ∃ i, i < G.length ∧ o i = l := by
  have h6 := hL.2.2.2.2.2.1
  obtain ⟨k1, k2, k3⟩ := id hc
  obtain ⟨S1, a1, a2, a3⟩ := uX_s18 (Z := Z) (u := u) (v := v) G.length 0 FU S (by omega) (by show _ ≤ 5000; omega) hL hc (fun j hj => absurd hj (Nat.not_lt_zero _))
  have hc1 : c89 S1 G.length := by unfold c89; rw [a2.2]; exact hc
  obtain ⟨S', o, b1, b2, b3, b4, b5, b6⟩ := uX_s38 (Z := Z) (u := u) (v := v) 13 1 FU (fun i => i) S1 (show G.length ≤ 1 * 8192 by omega) (by show _ ≤ 5000; omega) (by decide) (by decide) (lkX_fr (ls := []) (frY_x a2) (by simp) (by simp) hL) hc1 a3 (fun i hi => hi) (fun l hl => ⟨l, hl, rfl⟩) (fun q i j i1 i2 i3 i4 => by omega)
  refine ⟨S', o, ?_, frX_t a2 b2, b3, b4, b5, b6⟩
  have a1 : rr_loop FU (LX1_sort_18 Z (nI G.length)) (0, S, u, v) = JX1_sort_36 Z (nI G.length) (S1, u, v) := a1
  rw [fX1_sort, rr_l_e, hL.1, jMinN (by omega) (by omega), Nat.min_eq_left (by omega), a1, JX1_sort_36]
  exact b1
end XSORT
