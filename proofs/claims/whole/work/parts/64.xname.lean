/-! ===== L3: the class: nameParts ===== -/
theorem lt_id {l : List Nat} (h : l.Pairwise (fun a b => a < b)) {i j : Nat} (hij : i < j) (hj : j < l.length) : l.getD i 0 < l.getD j 0 := pw_get (ky := fun x => x) l h i j hij hj
theorem idx_id {l : List Nat} (h : l.Pairwise (fun a b => a < b)) {i j : Nat} (hi : i < l.length) (hj : j < l.length) (e : l.getD i 0 = l.getD j 0) : i = j := by
  rcases Nat.lt_trichotomy i j with q | q | q
  · have := lt_id h q hj; omega
  · exact q
  · have := lt_id h q hi; omega
theorem m1_add (x : Int32) : x + (-1) = x - 1 := by rw [Int32.sub_eq_add_neg]
section XNAME
variable {Z : rr_T} {G : List (List Nat)} {o : Nat → Nat}
/-- the five rows of the ends have room c -/
def c5 (S : rr_T) (c : Nat) : Prop := S.2.2.2 28 = c ∧ S.2.2.2 29 = c ∧ S.2.2.2 30 = c ∧ S.2.2.2 31 = c ∧ S.2.2.2 32 = c ∧ c < 100000
theorem c5_x {is as : List Nat} {S S' : rr_T} {c : Nat} (f : frX is as S S') (h : c5 S c) : c5 S' c := by
  unfold c5
  rw [f.2]
  exact h
/-- the first i looks in order are named -/
def npI (G : List (List Nat)) (o : Nat → Nat) (i : Nat) (D : List Nat) (S : rr_T) : Prop := S.1 409 = nI D.length ∧ D.length ≤ i ∧ D.Pairwise (fun a b => a < b) ∧ (∀ x ∈ D, ∃ t, t < i ∧ kG G (o t) = x) ∧ (∀ t, t < i → ∃ p, p < D.length ∧ D.getD p 0 = kG G (o t) ∧ S.2.1 31 (o t) = nI p) ∧ (0 < i → 0 < D.length ∧ D.getD (D.length - 1) 0 = kG G (o (i - 1)))
theorem uX_np7 {c : Nat} (ho : ∀ i, i < G.length → o i < G.length) (hs : ∀ i j, i < j → j < G.length → kG G (o i) ≤ kG G (o j)) (hc0 : G.length ≤ c) : ∀ (m i f : Nat) (D : List Nat) (S : rr_T), i + m = G.length → m + 1 ≤ f → lkX S G → c5 S c → (∀ i, i < G.length → S.2.1 28 i = nI (o i)) → npI G o i D S → ∃ S' D', rr_loop f (LX1_nameParts_7 Z) (nI i, S) = JX1_nameParts_98 Z S' ∧ frX [409] [31] S S' ∧ npI G o G.length D' S' := by
  intro m
  induction m with
  | zero =>
    intro i f D S hi hf hL hc h28 hI
    obtain ⟨f, rfl⟩ : ∃ g, f = g + 1 := ⟨f - 1, by omega⟩
    have h6 := hL.2.2.2.2.2.1
    obtain rfl : i = G.length := by omega
    refine ⟨S, D, ?_, frX_r _ _ _, hI⟩
    rw [loop_s, LX1_nameParts_7]
    dsimp only
    rw [hL.1, if_pos (nI_le (Nat.le_refl _) (by omega))]
  | succ m ih =>
    intro i f D S hi hf hL hc h28 hI
    obtain ⟨f, rfl⟩ : ∃ g, f = g + 1 := ⟨f - 1, by omega⟩
    have h6 := hL.2.2.2.2.2.1
    obtain ⟨k1, k2, k3, k4, k5, k6⟩ := id hc
    obtain ⟨n1, n2, n3, n4, n5, n6⟩ := hI
    have hiG : i < G.length := by omega
    have hoi := ho i hiG
    have go : ∀ (S9 : rr_T) (D' : List Nat), frX [409] [31] S S9 → S9.2.1 = S.2.1 → S9.1 409 = nI D'.length → D'.length ≤ i + 1 → D'.Pairwise (fun a b => a < b) → (∀ x ∈ D', ∃ t, t < i + 1 ∧ kG G (o t) = x) → (0 < D'.length ∧ D'.getD (D'.length - 1) 0 = kG G (o i)) → (∀ t, t < i → ∃ p, p < D'.length ∧ D'.getD p 0 = kG G (o t) ∧ S.2.1 31 (o t) = nI p) → ∃ S' D'', JX1_nameParts_67 (rr_loop f (LX1_nameParts_7 Z)) (nI i, S) (nI (o i)) S9 = JX1_nameParts_98 Z S' ∧ frX [409] [31] S S' ∧ npI G o G.length D'' S' := by
      intro S9 D' f9 e9 d1 d2 d3 d4 d5 d6
      obtain ⟨d, hd⟩ : ∃ d, D'.length = d + 1 := ⟨D'.length - 1, by omega⟩
      have e0 : JX1_nameParts_67 (rr_loop f (LX1_nameParts_7 Z)) (nI i, S) (nI (o i)) S9 = rr_loop f (LX1_nameParts_7 Z) (nI (i + 1), pA S9 31 (nI (o i)) (nI d)) := by
        rw [JX1_nameParts_67]
        dsimp only
        have e31 : S9.2.2.2 31 = c := by rw [f9.2]; exact k4
        rw [if_neg (nI_pos (by omega)), e31, if_neg (nI_ge (by omega) (by omega)), if_pos (inb_nI (by omega) (by omega)), d1, hd, nI_pred, rr_l_e, nI_1]
      rw [e0]
      have f10 : frX [409] [31] S (pA S9 31 (nI (o i)) (nI d)) := frX_pA f9 (by simp)
      obtain ⟨S', D'', b1, b2, b3⟩ := ih (i + 1) f D' (pA S9 31 (nI (o i)) (nI d)) (by omega) (by omega) (lkX_fr (ls := []) (frY_x f10) (by simp) (by simp) hL) (c5_x f10 hc) (by rw [frX_2 f10 (by simp)]; exact h28) ⟨d1, d2, d3, d4, fun t ht => by
        rw [pA_s, nI_clamp (by omega)]
        by_cases e : o t = o i
        · refine ⟨d, by omega, ?_, by rw [e, upd_s]⟩
          have := d5.2
          rw [show D'.length - 1 = d by omega] at this
          rw [this, e]
        · obtain ⟨p, p1, p2, p3⟩ := d6 t (by
            by_cases e2 : t = i
            · exact absurd (by rw [e2]) e
            · omega)
          exact ⟨p, p1, p2, by rw [upd_n e, e9]; exact p3⟩, fun _ => ⟨d5.1, d5.2⟩⟩
      exact ⟨S', D'', b1, frX_t f10 b2, b3⟩
    have e57 : JX1_nameParts_57 (rr_loop f (LX1_nameParts_7 Z)) (nI i, S) (nI (o i)) () = JX1_nameParts_67 (rr_loop f (LX1_nameParts_7 Z)) (nI i, S) (nI (o i)) (pI S 409 (nI (D.length + 1))) := by
      rw [JX1_nameParts_57]
      dsimp only
      rw [rr_l_e, n1, nI_1]
    have new : (∀ x ∈ D, x < kG G (o i)) → ∃ S' D'', JX1_nameParts_57 (rr_loop f (LX1_nameParts_7 Z)) (nI i, S) (nI (o i)) () = JX1_nameParts_98 Z S' ∧ frX [409] [31] S S' ∧ npI G o G.length D'' S' := by
      intro hx
      rw [e57]
      have hlen : (D ++ [kG G (o i)]).length = D.length + 1 := by rw [List.length_append, List.length_singleton]
      refine go (pI S 409 (nI (D.length + 1))) (D ++ [kG G (o i)]) (frX_pI (frX_r _ _ _) (by simp)) rfl (by rw [pI_s, hlen]) (by rw [hlen]; omega) ?_ (fun x hx' => ?_) ⟨by rw [hlen]; omega, by rw [hlen, show D.length + 1 - 1 = D.length from rfl, gD_e]⟩ (fun t ht => ?_)
      · rw [List.pairwise_append]
        refine ⟨n3, List.pairwise_singleton _ _, fun a ha b hb => ?_⟩
        rw [List.mem_singleton] at hb
        rw [hb]
        exact hx a ha
      · rcases List.mem_append.mp hx' with q | q
        · obtain ⟨t, t1, t2⟩ := n4 x q
          exact ⟨t, by omega, t2⟩
        · rw [List.mem_singleton] at q
          exact ⟨i, by omega, q.symm⟩
      · obtain ⟨p, p1, p2, p3⟩ := n5 t ht
        exact ⟨p, by rw [hlen]; omega, by rw [gD_l p1]; exact p2, p3⟩
    rw [loop_s, LX1_nameParts_7]
    dsimp only
    rw [hL.1, if_neg (nI_ge hiG (by omega)), k1, if_neg (nI_ge (by omega) (by omega)), if_pos (inb_nI (by omega) (by omega)), rr_l_e, nI_clamp (by omega), h28 i hiG]
    cases i with
    | zero =>
      rw [if_pos nI_0]
      exact new (fun x hx => by obtain ⟨t, t1, -⟩ := n4 x hx; omega)
    | succ i' =>
      obtain ⟨l1, l2⟩ := n6 (by omega)
      rw [show i' + 1 - 1 = i' from rfl] at l2
      rw [if_neg (nI_ne0 (by omega) (by omega)), nI_pred, if_pos (inb_nI (by omega) (by omega)), nI_clamp (by omega), h28 i' (by omega), pX_cmp26 hL (ho i' (by omega)) hoi, Option.bind_some]
      have hs1 := hs i' (i' + 1) (by omega) hiG
      by_cases e : kG G (o i') = kG G (o (i' + 1))
      · rw [if_pos (cmpN_e.mpr e)]
        exact go S D (frX_r _ _ _) rfl n1 (by omega) n3 (fun x hx => by obtain ⟨t, t1, t2⟩ := n4 x hx; exact ⟨t, by omega, t2⟩) ⟨l1, by rw [l2, e]⟩ n5
      · rw [if_neg (fun w => e (cmpN_e.mp w))]
        exact new (fun x hx => by
          obtain ⟨t, t1, t2⟩ := n4 x hx
          by_cases et : t = i'
          · rw [← t2, et]; omega
          · have := hs t i' (by omega) (by omega); omega)
theorem pX_partOf {S : rr_T} {i l p : Nat} (hi : i < S.2.2.2 30) (hl : l < S.2.2.2 31) (h1 : S.2.2.2 30 < 100000) (h2 : S.2.2.2 31 < 100000) (e30 : S.2.1 30 i = nI l) (e31 : S.2.1 31 l = nI p) : fX1_partOf Z S (nI i) = some (nI p) := by
  rw [fX1_partOf, if_neg (nI_pos (by omega)), if_pos (nI_lt hi (by omega)), if_pos (inb_nI hi (by omega)), nI_clamp (by omega), e30, rr_l_e, if_neg (nI_pos (by omega)), if_neg (nI_ge hl (by omega)), if_pos (inb_nI hl (by omega)), nI_clamp (by omega), e31]
theorem uX_np111 {c N : Nat} {ky lo : Nat → Nat} {D : List Nat} (hN : N ≤ 4000) (hNc : N ≤ c) (hD : D.Pairwise (fun a b => a < b)) (hDc : D.length ≤ c) : ∀ (r f : Nat) (S : rr_T), r ≤ N → r + 1 ≤ f → c5 S c → (∀ i, i < N → ∃ p, p < D.length ∧ D.getD p 0 = ky i ∧ lo i < c ∧ S.2.1 30 i = nI (lo i) ∧ S.2.1 31 (lo i) = nI p) → (∀ p, p < D.length → ∀ x, r ≤ x → x < N → ky x = D.getD p 0 → (∀ y, r ≤ y → y < x → ¬ ky y = D.getD p 0) → S.2.1 32 p = nI x) → ∃ S', rr_loop f (LX1_nameParts_111 Z) (nI r - 1, S) = some S' ∧ frX [] [32] S S' ∧ ∀ p, p < D.length → ∀ x, x < N → ky x = D.getD p 0 → (∀ y, y < x → ¬ ky y = D.getD p 0) → S'.2.1 32 p = nI x := by
  intro r
  induction r with
  | zero =>
    intro f S hr hf hc hp hI
    obtain ⟨f, rfl⟩ : ∃ g, f = g + 1 := ⟨f - 1, by omega⟩
    refine ⟨S, ?_, frX_r _ _ _, fun p p1 x x1 x2 x3 => hI p p1 x (Nat.zero_le _) x1 x2 (fun y _ => x3 y)⟩
    rw [loop_s, LX1_nameParts_111]
    dsimp only
    rw [if_pos (show nI 0 - 1 < 0 by decide)]
  | succ r ih =>
    intro f S hr hf hc hp hI
    obtain ⟨f, rfl⟩ : ∃ g, f = g + 1 := ⟨f - 1, by omega⟩
    obtain ⟨k1, k2, k3, k4, k5, k6⟩ := id hc
    obtain ⟨p, p1, p2, p3, p4, p5⟩ := hp r (by omega)
    have f1 : frX [] [32] S (pA S 32 (nI p) (nI r)) := frX_pA (frX_r _ _ _) (by simp)
    obtain ⟨S', b1, b2, b3⟩ := ih f (pA S 32 (nI p) (nI r)) (by omega) (by omega) (c5_x f1 hc) (by rw [frX_2 f1 (by simp), frX_2 f1 (by simp)]; exact hp) (fun q q1 x x1 x2 x3 x4 => by
      rw [pA_s, nI_clamp (by omega)]
      by_cases e : x = r
      · have : p = q := idx_id hD p1 q1 (by rw [p2, ← x3, e])
        rw [this, upd_s, e]
      · have hq : ¬ q = p := fun w => x4 r (Nat.le_refl _) (by omega) (by rw [w, p2])
        rw [upd_n hq]
        exact hI q q1 x (by omega) x2 x3 (fun y y1 y2 => x4 y (by omega) y2))
    refine ⟨S', ?_, frX_t f1 b2, b3⟩
    rw [loop_s, LX1_nameParts_111]
    dsimp only
    rw [nI_pred, if_neg (nI_pos (by omega)), pX_partOf (p := p) (show r < S.2.2.2 30 by omega) (show lo r < S.2.2.2 31 by omega) (by omega) (by omega) p4 p5, Option.bind_some, if_neg (nI_pos (by omega)), k5, if_neg (nI_ge (by omega) (by omega)), if_pos (inb_nI (by omega) (by omega)), rr_l_e, m1_add]
    exact b1
theorem pX_name {c N : Nat} {ky lo : Nat → Nat} {E : List Nat} {S : rr_T} (hE : isE ky N E) (hN : N ≤ 4000) (hNc : N ≤ c) (hGN : G.length ≤ N) (hL : lkX S G) (hc : c5 S c) (e289 : S.1 289 = nI N) (h30 : ∀ i, i < N → S.2.1 30 i = nI (lo i)) (hlo : ∀ i, i < N → lo i < G.length ∧ kG G (lo i) = ky i) (hli : ∀ l, l < G.length → ∃ i, i < N ∧ lo i = l) (h28 : ∀ i, i < G.length → S.2.1 28 i = nI (o i)) (hs : ∀ i j, i < j → j < G.length → kG G (o i) ≤ kG G (o j)) (ho : ∀ i, i < G.length → o i < G.length) (hcv : ∀ l, l < G.length → ∃ i, i < G.length ∧ o i = l) : ∃ S', fX1_nameParts Z S = some S' ∧ frX [409] [31, 32] S S' ∧ S'.1 409 = nI E.length ∧ (∀ p, p < E.length → S'.2.1 32 p = nI (E.getD p 0)) ∧ ∀ i, i < N → ∃ p, p < E.length ∧ ky (E.getD p 0) = ky i ∧ S'.2.1 31 (lo i) = nI p := by
  have f0 : frX [409] [31] S (pI S 409 0) := frX_pI (frX_r _ _ _) (by simp)
  have h6 := hL.2.2.2.2.2.1
  obtain ⟨S1, D, a1, a2, a3⟩ := uX_np7 (Z := Z) ho hs (show G.length ≤ c by omega) G.length 0 FU [] (pI S 409 0) (by omega) (by show _ ≤ 5000; omega) (lkX_fr (ls := []) (frY_x f0) (by simp) (by simp) hL) (c5_x f0 hc) h28 ⟨pI_s _ _ _, Nat.le_refl _, List.Pairwise.nil, fun x hx => (by cases hx), fun t ht => absurd ht (Nat.not_lt_zero _), fun w => absurd w (Nat.lt_irrefl _)⟩
  have f1 : frX [409] [31] S S1 := frX_t f0 a2
  obtain ⟨n1, n2, n3, n4, n5, n6⟩ := a3
  have hky : ∀ i, i < N → ∃ p, p < D.length ∧ D.getD p 0 = ky i ∧ S1.2.1 31 (lo i) = nI p := by
    intro i hi
    obtain ⟨l1, l2⟩ := hlo i hi
    obtain ⟨t, t1, t2⟩ := hcv _ l1
    obtain ⟨p, p1, p2, p3⟩ := n5 t t1
    rw [t2] at p2 p3
    exact ⟨p, p1, by rw [p2, l2], p3⟩
  have hDE : D = E.map ky := by
    refine srt_eq (ky := fun x => x) _ _ n3 ?_ (fun x => ⟨fun hx => ?_, fun hx => ?_⟩)
    · rw [List.pairwise_map]
      exact hE.2.1
    · obtain ⟨t, t1, t2⟩ := n4 x hx
      obtain ⟨i, i1, i2⟩ := hli _ (ho t t1)
      obtain ⟨e, e1, e2⟩ := hE.2.2 i i1
      rw [List.mem_map]
      exact ⟨e, e1, by rw [e2, ← (hlo i i1).2, i2, t2]⟩
    · rw [List.mem_map] at hx
      obtain ⟨e, e1, e2⟩ := hx
      obtain ⟨p, p1, p2, -⟩ := hky e (hE.1 e e1).1
      rw [← e2, ← p2]
      exact getD_mem p1
  have hlen : D.length = E.length := by rw [hDE, List.length_map]
  have hget : ∀ p, p < E.length → D.getD p 0 = ky (E.getD p 0) := by
    intro p hp
    rw [gD_g (show p < D.length by omega), gD_g hp]
    simp only [hDE, List.getElem_map]
  have f1h : frX [409] [31] S S1 := f1
  obtain ⟨S2, b1, b2, b3⟩ := uX_np111 (Z := Z) (c := c) (N := N) (ky := ky) (lo := lo) (D := D) hN hNc n3 (by omega) N FU S1 (Nat.le_refl _) (by show _ ≤ 5000; omega) (c5_x f1 hc) (fun i hi => by
    obtain ⟨p, p1, p2, p3⟩ := hky i hi
    exact ⟨p, p1, p2, by have := (hlo i hi).1; omega, by rw [frX_2 f1 (by simp)]; exact h30 i hi, p3⟩) (fun p p1 x x1 x2 => by omega)
  refine ⟨S2, ?_, frX_t (frX_w f1 (by simp) (by simp)) (frX_w b2 (by simp) (by simp)), ?_, fun p hp => ?_, fun i hi => ?_⟩
  · have a1 : rr_loop FU (LX1_nameParts_7 Z) (0, pI S 409 0) = JX1_nameParts_98 Z S1 := a1
    rw [fX1_nameParts, rr_l_e, a1, JX1_nameParts_98, frX_1 f1 (by simp), e289, rr_l_e]
    exact b1
  · rw [frX_1 b2 (by simp), n1, hlen]
  · obtain ⟨m1, m2⟩ := hE.1 _ (getD_mem hp)
    refine b3 p (by omega) _ m1 (hget p hp).symm (fun y hy w => ?_)
    have := m2 y (by omega) (by rw [w, hget p hp])
    omega
  · obtain ⟨p, p1, p2, p3⟩ := hky i hi
    exact ⟨p, by omega, by rw [← hget p (by omega)]; exact p2, by rw [frX_2 b2 (by simp)]; exact p3⟩
end XNAME
