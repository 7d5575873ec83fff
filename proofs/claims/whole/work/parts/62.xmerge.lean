/-! ===== L3: the ends are there; the class: looks compared, merged, sorted ===== -/
theorem spl_ky {ky : Nat → Nat} {x : Nat} : ∀ (E : List Nat), E.Pairwise (fun a b => ky a < ky b) → (∀ e ∈ E, ¬ ky e = x) → ∃ l m, E = l ++ m ∧ (∀ e ∈ l, ky e < x) ∧ ∀ e ∈ m, x < ky e := by
  intro E
  induction E with
  | nil => intro _ _; exact ⟨[], [], rfl, fun e he => (by cases he), fun e he => (by cases he)⟩
  | cons a t ih =>
    intro h hx
    rw [List.pairwise_cons] at h
    have ha := hx a (List.mem_cons_self ..)
    rcases Nat.lt_or_ge (ky a) x with q | q
    · obtain ⟨l, m, e1, e2, e3⟩ := ih h.2 (fun e he => hx e (List.mem_cons_of_mem _ he))
      refine ⟨a :: l, m, by rw [e1]; rfl, fun e he => ?_, e3⟩
      rcases List.mem_cons.mp he with w | w
      · rw [w]; exact q
      · exact e2 e w
    · refine ⟨[], a :: t, rfl, fun e he => (by cases he), fun e he => ?_⟩
      rcases List.mem_cons.mp he with w | w
      · rw [w]; omega
      · have := h.1 e w; omega
theorem isE_ex (ky : Nat → Nat) : ∀ n, ∃ E, isE ky n E := by
  intro n
  induction n with
  | zero => exact ⟨[], isE_0 ky⟩
  | succ n ih =>
    obtain ⟨E, hE⟩ := ih
    by_cases h : ∃ e ∈ E, ky e = ky n
    · obtain ⟨e, he, k⟩ := h
      exact ⟨E, isE_old hE he k⟩
    · obtain ⟨l, m, e1, e2, e3⟩ := spl_ky E hE.2.1 (fun e he k => h ⟨e, he, k⟩)
      rw [e1] at hE
      exact ⟨l ++ n :: m, isE_new hE e2 e3⟩
theorem enA_is (A : Sh) (ps : List Sp) : isE (kyA A ps) (allR A).length (enA A ps) := by
  obtain ⟨E, hE⟩ := isE_ex (kyA A ps) (allR A).length
  rw [enA_eq hE]
  exact hE
/-- two sorted runs are being merged -/
def mgI (K : Nat → Nat) (o : Nat → Nat) (a mid b left right to : Nat) (s : Nat → Nat) : Prop := a ≤ left ∧ left ≤ mid ∧ mid ≤ right ∧ right ≤ b ∧ to + mid = left + right ∧ (∀ i j, a ≤ i → i < j → j < to → K (s i) ≤ K (s j)) ∧ (∀ t, a ≤ t → t < to → ∀ i, (left ≤ i ∧ i < mid) ∨ (right ≤ i ∧ i < b) → K (s t) ≤ K (o i)) ∧ (∀ i, (a ≤ i ∧ i < left) ∨ (mid ≤ i ∧ i < right) → ∃ t, a ≤ t ∧ t < to ∧ s t = o i) ∧ ∀ t, a ≤ t → t < to → ∃ i, a ≤ i ∧ i < b ∧ s t = o i
theorem mg_step {K o : Nat → Nat} {a mid b left right to : Nat} {s : Nat → Nat} {j left' right' : Nat} (h : mgI K o a mid b left right to s) (hj : (j = left ∧ left < mid ∧ left' = left + 1 ∧ right' = right) ∨ (j = right ∧ right < b ∧ left' = left ∧ right' = right + 1)) (hm : ∀ i, (left' ≤ i ∧ i < mid) ∨ (right' ≤ i ∧ i < b) → K (o j) ≤ K (o i)) : mgI K o a mid b left' right' (to + 1) (upn s to (o j)) := by
  obtain ⟨h1, h2, h3, h4, h5, h6, h7, h8, h9⟩ := h
  have hjr : (left ≤ j ∧ j < mid) ∨ (right ≤ j ∧ j < b) := by omega
  refine ⟨by omega, by omega, by omega, by omega, by omega, fun i k i1 i2 i3 => ?_, fun t t1 t2 i hi => ?_, fun i hi => ?_, fun t t1 t2 => ?_⟩
  · by_cases e : k = to
    · rw [e, upn_s, upn_n (by omega)]
      exact h7 i i1 (by omega) j hjr
    · rw [upn_n e, upn_n (by omega)]
      exact h6 i k i1 i2 (by omega)
  · by_cases e : t = to
    · rw [e, upn_s]
      exact hm i hi
    · rw [upn_n e]
      exact h7 t t1 (by omega) i (by omega)
  · by_cases e : i = j
    · exact ⟨to, by omega, by omega, by rw [upn_s, e]⟩
    · obtain ⟨t, t1, t2, t3⟩ := h8 i (by omega)
      exact ⟨t, t1, by omega, by rw [upn_n (by omega)]; exact t3⟩
  · by_cases e : t = to
    · exact ⟨j, by omega, by omega, by rw [e, upn_s]⟩
    · rw [upn_n e]
      exact h9 t t1 (by omega)
/-- X has told the looks G -/
def lkX (S : rr_T) (G : List (List Nat)) : Prop := S.1 417 = nI G.length ∧ (∀ i, i < G.length → wd S 27 i (fun p => (G.getD i []).getD p 0)) ∧ 2 * G.length ≤ S.2.2.2 27 ∧ 2 ≤ S.2.2.2 27 ∧ S.2.2.2 27 < 20000 ∧ G.length ≤ 4001 ∧ ∀ l ∈ G, okL l
theorem lkX_fr {is as ls : List Nat} {S S' : rr_T} {G : List (List Nat)} (f : frY is as ls S S') (h1 : 417 ∉ is) (h2 : 27 ∉ ls) (h : lkX S G) : lkX S' G := by
  obtain ⟨f1, f2⟩ := f.2 27 h2
  unfold lkX wd
  rw [f.1.1 417 h1, f1, f2]
  exact h
def kG (G : List (List Nat)) (i : Nat) : Nat := keyL (G.getD i [])
theorem okL_G {G : List (List Nat)} (h : ∀ l ∈ G, okL l) {i : Nat} (hi : i < G.length) : okL (G.getD i []) := by
  rw [gD_g hi]
  exact h _ (List.getElem_mem _)
theorem pX_cmp26 {Z S : rr_T} {G : List (List Nat)} {i j : Nat} (h : lkX S G) (hi : i < G.length) (hj : j < G.length) : fX5_compare_26 Z S (nI i) (nI j) = some (cmpN (kG G i) (kG G j)) := by
  obtain ⟨h1, h2, h3, h4, h5, h6, h7⟩ := h
  have oi := okL_get (okL_G h7 hi)
  have oj := okL_get (okL_G h7 hj)
  have b1 := nuF_16 oi 11
  have b2 := nuF_16 (fun p => oi (11 + p)) 11
  have b3 := nuF_16 oj 11
  have b4 := nuF_16 (fun p => oj (11 + p)) 11
  have hcm := cmpN_two (a := nuF (fun p => (G.getD i []).getD p 0) 11) (c := nuF (fun p => (G.getD j []).getD p 0) 11) b2 b4
  have ei : kG G i = nuF (fun p => (G.getD i []).getD p 0) 11 * 16 ^ 11 + nuF (fun p => (G.getD i []).getD (11 + p) 0) 11 := nuF_add 11 11
  have ej : kG G j = nuF (fun p => (G.getD j []).getD p 0) 11 * 16 ^ 11 + nuF (fun p => (G.getD j []).getD (11 + p) 0) 11 := nuF_add 11 11
  rw [← ei, ← ej] at hcm
  have p11 : (16 : Nat) ^ 11 < 2 ^ 63 := by decide
  obtain ⟨w1, w2⟩ := h2 i hi
  obtain ⟨w3, w4⟩ := h2 j hj
  have w2 : S.2.2.1 27 (2 * i + 1) = lN (nuF (fun p => (G.getD i []).getD (11 + p) 0) 11) := w2
  have w4 : S.2.2.1 27 (2 * j + 1) = lN (nuF (fun p => (G.getD j []).getD (11 + p) 0) 11) := w4
  rw [fX5_compare_26, if_neg (nI_pos (by omega)), h1, if_neg (nI_ge hi (by omega)), if_neg (nI_pos (by omega)), if_pos (nI_lt hj (by omega)), show (2 : Int32) * nI i = nI (2 * i) from pk_mul 2 _, show (2 : Int32) * nI j = nI (2 * j) from pk_mul 2 _, if_pos (inb_nI (by omega) (by omega)), if_pos (inb_nI (by omega) (by omega)), nI_clamp (by omega), nI_clamp (by omega), w1, w3, pX_cmp (by omega) (by omega), Option.bind_some, nI_1, nI_1, if_pos (inb_nI (by omega) (by omega)), if_pos (inb_nI (by omega) (by omega)), nI_clamp (by omega), nI_clamp (by omega), w2, w4, pX_cmp (by omega) (by omega), Option.bind_some, ← hcm]
  by_cases z : cmpN (nuF (fun p => (G.getD i []).getD p 0) 11) (nuF (fun p => (G.getD j []).getD p 0) 11) = 0
  · rw [if_pos z, if_pos z]
  · rw [if_neg z, if_neg z]
theorem cmpN_0 {a b : Nat} : 0 ≤ cmpN a b ↔ b ≤ a := by
  unfold cmpN
  split
  · exact ⟨fun h => absurd h (by decide), fun h => by omega⟩
  · split
    · exact ⟨fun _ => by omega, fun _ => by decide⟩
    · exact ⟨fun _ => by omega, fun _ => by decide⟩
theorem cmpN_e {a b : Nat} : cmpN a b = 0 ↔ a = b := by
  unfold cmpN
  split
  · exact ⟨fun h => absurd h (by decide), fun h => by omega⟩
  · split
    · exact ⟨fun _ => by omega, fun _ => rfl⟩
    · exact ⟨fun h => absurd h (by decide), fun h => by omega⟩
section XMERGE
variable {Z : rr_T} {G : List (List Nat)} {o : Nat → Nat}
/-- rows 28 and 29 have room -/
def c89 (S : rr_T) (n : Nat) : Prop := n ≤ S.2.2.2 28 ∧ S.2.2.2 28 < 100000 ∧ S.2.2.2 29 = S.2.2.2 28
theorem uX_merge {a mid b : Nat} (hb : b ≤ G.length) (ho : ∀ i, i < G.length → o i < G.length) (hr1 : ∀ i j, a ≤ i → i < j → j < mid → kG G (o i) ≤ kG G (o j)) (hr2 : ∀ i j, mid ≤ i → i < j → j < b → kG G (o i) ≤ kG G (o j)) : ∀ (m left right to f : Nat) (s : Nat → Nat) (S : rr_T), to + m = b → m + 1 ≤ f → lkX S G → c89 S G.length → (∀ i, i < G.length → S.2.1 28 i = nI (o i)) → (∀ t, a ≤ t → t < to → S.2.1 29 t = nI (s t)) → mgI (kG G) o a mid b left right to s → ∃ S' s', rr_loop f (LX1_merge_9 Z (nI mid) (nI b)) (nI left, nI right, nI to, S) = some S' ∧ frX [] [29] S S' ∧ (∀ t, a ≤ t → t < b → S'.2.1 29 t = nI (s' t)) ∧ (∀ t, (t < a ∨ b ≤ t) → S'.2.1 29 t = S.2.1 29 t) ∧ mgI (kG G) o a mid b mid b b s' := by
  intro m
  induction m with
  | zero =>
    intro left right to f s S ht hf hL hc h28 h29 hI
    obtain ⟨f, rfl⟩ : ∃ g, f = g + 1 := ⟨f - 1, by omega⟩
    have h6 := hL.2.2.2.2.2.1
    obtain ⟨i1, i2, i3, i4, i5, -⟩ := id hI
    obtain rfl : left = mid := by omega
    obtain rfl : right = b := by omega
    obtain rfl : to = right := by omega
    refine ⟨S, s, ?_, frX_r _ _ _, h29, fun t _ => rfl, hI⟩
    rw [loop_s, LX1_merge_9]
    dsimp only
    rw [if_pos (nI_le (Nat.le_refl _) (by omega))]
  | succ m ih =>
    intro left right to f s S ht hf hL hc h28 h29 hI
    obtain ⟨f, rfl⟩ : ∃ g, f = g + 1 := ⟨f - 1, by omega⟩
    have h6 := hL.2.2.2.2.2.1
    obtain ⟨k1, k2, k3⟩ := id hc
    obtain ⟨i1, i2, i3, i4, i5, -⟩ := id hI
    have go : ∀ (j left' right' : Nat), ((j = left ∧ left < mid ∧ left' = left + 1 ∧ right' = right) ∨ (j = right ∧ right < b ∧ left' = left ∧ right' = right + 1)) → (∀ i, (left' ≤ i ∧ i < mid) ∨ (right' ≤ i ∧ i < b) → kG G (o j) ≤ kG G (o i)) → ∃ S' s', rr_loop f (LX1_merge_9 Z (nI mid) (nI b)) (nI left', nI right', nI (to + 1), pA S 29 (nI to) (nI (o j))) = some S' ∧ frX [] [29] S S' ∧ (∀ t, a ≤ t → t < b → S'.2.1 29 t = nI (s' t)) ∧ (∀ t, (t < a ∨ b ≤ t) → S'.2.1 29 t = S.2.1 29 t) ∧ mgI (kG G) o a mid b mid b b s' := by
      intro j left' right' hj hm
      have f1 : frX [] [29] S (pA S 29 (nI to) (nI (o j))) := frX_pA (frX_r _ _ _) (by simp)
      obtain ⟨S', s', b1, b2, b3, b4, b5⟩ := ih left' right' (to + 1) f (upn s to (o j)) (pA S 29 (nI to) (nI (o j))) (by omega) (by omega) (lkX_fr (ls := []) (frY_x f1) (by simp) (by simp) hL) hc (by rw [frX_2 f1 (by simp)]; exact h28) (fun t t1 t2 => by
        rw [pA_s, nI_clamp (by omega)]
        by_cases e : t = to
        · rw [e, upd_s, upn_s]
        · rw [upd_n e, upn_n e]; exact h29 t t1 (by omega)) (mg_step hI hj hm)
      refine ⟨S', s', b1, frX_t f1 b2, b3, fun t htt => ?_, b5⟩
      rw [b4 t htt, pA_s, nI_clamp (by omega), upd_n (by omega)]
    have eL : left < mid → JX1_merge_66 (rr_loop f (LX1_merge_9 Z (nI mid) (nI b))) (nI left, nI right, nI to, S) 0 = rr_loop f (LX1_merge_9 Z (nI mid) (nI b)) (nI (left + 1), nI right, nI (to + 1), pA S 29 (nI to) (nI (o left))) := by
      intro q
      rw [JX1_merge_66]
      dsimp only
      rw [if_pos rfl, if_pos (inb_nI (by omega) (by omega)), if_pos (inb_nI (by omega) (by omega)), rr_l_e, nI_clamp (by omega), h28 left (by omega), nI_1, nI_1]
    have eR : right < b → JX1_merge_66 (rr_loop f (LX1_merge_9 Z (nI mid) (nI b))) (nI left, nI right, nI to, S) 1 = rr_loop f (LX1_merge_9 Z (nI mid) (nI b)) (nI left, nI (right + 1), nI (to + 1), pA S 29 (nI to) (nI (o right))) := by
      intro q
      rw [JX1_merge_66]
      dsimp only
      rw [if_neg (show ¬ (1 : Int32) = 0 by decide), if_pos (inb_nI (by omega) (by omega)), if_pos (inb_nI (by omega) (by omega)), rr_l_e, nI_clamp (by omega), h28 right (by omega), nI_1, nI_1]
    rw [loop_s, LX1_merge_9]
    dsimp only
    rw [if_neg (nI_ge (by omega) (by omega)), if_neg (nI_ge (show to < S.2.2.2 29 by omega) (by omega))]
    by_cases q1 : mid ≤ left
    · rw [if_pos (nI_le q1 (by omega)), eR (by omega)]
      exact go right left (right + 1) (Or.inr ⟨rfl, by omega, rfl, rfl⟩) (fun i hi => by
        rcases hi with hi | hi
        · omega
        · exact hr2 right i (by omega) (by omega) hi.2)
    · rw [if_neg (nI_ge (by omega) (by omega))]
      by_cases q2 : b ≤ right
      · rw [if_pos (nI_le q2 (by omega)), eL (by omega)]
        exact go left (left + 1) right (Or.inl ⟨rfl, by omega, rfl, rfl⟩) (fun i hi => by
          rcases hi with hi | hi
          · exact hr1 left i (by omega) (by omega) hi.2
          · omega)
      · rw [if_neg (nI_ge (by omega) (by omega)), if_pos (inb_nI (by omega) (by omega)), if_pos (inb_nI (by omega) (by omega)), nI_clamp (by omega), nI_clamp (by omega), h28 right (by omega), h28 left (by omega), pX_cmp26 hL (ho right (by omega)) (ho left (by omega)), Option.bind_some]
        by_cases q3 : kG G (o left) ≤ kG G (o right)
        · rw [if_pos (cmpN_0.mpr q3), eL (by omega)]
          exact go left (left + 1) right (Or.inl ⟨rfl, by omega, rfl, rfl⟩) (fun i hi => by
            rcases hi with hi | hi
            · exact hr1 left i (by omega) (by omega) hi.2
            · by_cases e : i = right
              · rw [e]; exact q3
              · exact Nat.le_trans q3 (hr2 right i (by omega) (by omega) hi.2))
        · rw [if_neg (fun w => q3 (cmpN_0.mp w)), eR (by omega)]
          exact go right left (right + 1) (Or.inr ⟨rfl, by omega, rfl, rfl⟩) (fun i hi => by
            rcases hi with hi | hi
            · by_cases e : i = left
              · rw [e]; omega
              · have := hr1 left i (by omega) (by omega) hi.2; omega
            · exact hr2 right i (by omega) (by omega) hi.2)
theorem pX_merge {a mid b : Nat} {S : rr_T} (hab : a ≤ mid) (hmb : mid ≤ b) (hb : b ≤ G.length) (ho : ∀ i, i < G.length → o i < G.length) (hr1 : ∀ i j, a ≤ i → i < j → j < mid → kG G (o i) ≤ kG G (o j)) (hr2 : ∀ i j, mid ≤ i → i < j → j < b → kG G (o i) ≤ kG G (o j)) (hL : lkX S G) (hc : c89 S G.length) (h28 : ∀ i, i < G.length → S.2.1 28 i = nI (o i)) : ∃ (S' : rr_T) (s : Nat → Nat), fX1_merge Z S (nI a) (nI mid) (nI b) = some S' ∧ frX [] [29] S S' ∧ (∀ t, a ≤ t → t < b → S'.2.1 29 t = nI (s t)) ∧ (∀ t, (t < a ∨ b ≤ t) → S'.2.1 29 t = S.2.1 29 t) ∧ (∀ i j, a ≤ i → i < j → j < b → kG G (s i) ≤ kG G (s j)) ∧ (∀ i, a ≤ i → i < b → ∃ t, a ≤ t ∧ t < b ∧ s t = o i) ∧ ∀ t, a ≤ t → t < b → ∃ i, a ≤ i ∧ i < b ∧ s t = o i := by
  have h6 := hL.2.2.2.2.2.1
  obtain ⟨S', s, b1, b2, b3, b4, b5⟩ := uX_merge (Z := Z) hb ho hr1 hr2 (b - a) a mid a FU (fun _ => 0) S (by omega) (by show _ ≤ 5000; omega) hL hc h28 (fun t t1 t2 => by omega) ⟨by omega, by omega, by omega, by omega, by omega, fun i j i1 i2 i3 => by omega, fun t t1 t2 => by omega, fun i hi => by omega, fun t t1 t2 => by omega⟩
  obtain ⟨-, -, -, -, -, c6, c7, c8, c9⟩ := b5
  exact ⟨S', s, b1, b2, b3, b4, c6, fun i i1 i2 => c8 i (by omega), c9⟩
end XMERGE
