/-! ===== L3: the reference's kind, field, input, bound, rule, clear, about, step, erase ===== -/
def spRule (A : Sh) (qs : List Ru) (s k f g : Int32) : Int32 × List Ru :=
  if s = 6 then (if qs.length = 6 then (-104, qs) else (nI qs.length, qs ++ [(6, 0, 0, 0)]))
  else if k < 0 ∨ shK A ≤ k.toNatClampNeg then (-101, qs)
  else if f < 0 ∨ shC A k.toNatClampNeg ≤ f.toNatClampNeg then (-101, qs)
  else if ¬ s = 0 ∧ ¬ ((s = 1 ∨ s = 2) ∧ g = -1) ∧ (g < 0 ∨ shC A k.toNatClampNeg ≤ g.toNatClampNeg) then (-101, qs)
  else if s < 0 ∨ 5 < s.toNatClampNeg then (-102, qs)
  else if ¬ shT A k.toNatClampNeg f.toNatClampNeg < 4 then (-102, qs)
  else if (s = 1 ∨ s = 2 ∨ s = 3) ∧ ¬ ((s = 1 ∨ s = 2) ∧ g = -1) ∧ ¬ shT A k.toNatClampNeg g.toNatClampNeg < 4 then (-102, qs)
  else if (s = 4 ∨ s = 5) ∧ shT A k.toNatClampNeg g.toNatClampNeg < 4 then (-102, qs)
  else if qs.length = 6 then (-104, qs)
  else (nI qs.length, qs ++ [(s.toNatClampNeg, k.toNatClampNeg, f.toNatClampNeg, if s = 0 ∨ g = -1 then 0 else g.toNatClampNeg + 1)])
/-- M stands as it did, or its caches are gone -/
def chg (M M' : rr_T) (same : Prop) : Prop := (M' = M ∧ same) ∨ (M'.1 21 = 0 ∧ M'.1 28 = 0)
theorem pM_changed (M : rr_T) : fM_changed M = some (pI (pI M 21 0) 28 0) := by
  rw [fM_changed, rr_l_e, rr_l_e]
section MSET
variable {A : Sh} {qs : List Ru} {ps : List Sp} {tw : List Int32} {M : rr_T}
theorem pM_bound (hV : okV A) (hS : shM M A) (x : Int32) : ∃ M', fM_bound M x = some ((spBound A x).1, M') ∧ frM [7, 21, 28] [] M M' ∧ shM M' (spBound A x).2 ∧ okV (spBound A x).2 ∧ chg M M' ((spBound A x).2 = A) := by
  rw [fM_bound, pM_in, Option.bind_some, spBound]
  by_cases h : 1 ≤ x ∧ x ≤ 5
  · have hx : ¬ (x < 1 ∨ 5 < x) := fun w => by
      rcases w with w | w
      · exact absurd h.1 (Int32.not_le.mpr w)
      · exact absurd h.2 (Int32.not_le.mpr w)
    rw [if_pos h, if_neg (show ¬ (1 : Int32) = 0 by decide), if_neg hx, rr_l_e, rr_l_e, pM_changed, Option.bind_some, hS.2.2.1]
    have h0 : ¬ x < 0 := fun w => by
      have := Int32.lt_of_le_of_lt h.1 w
      exact absurd this (by decide)
    obtain ⟨n, hn, rfl⟩ := nI_of h0
    have n1 : 1 ≤ n := (nI_leI (a := 1) (by decide) hn).mp h.1
    have n5 : n ≤ 5 := (nI_leI (b := 5) hn (by decide)).mp h.2
    rw [nI_clamp hn]
    have f1 : frM [7, 21, 28] [] M (pI (pI (pI M 7 (nI n)) 21 0) 28 0) := frM_pI (frM_pI (frM_pI (frM_r _ _ _) (by simp)) (by simp)) (by simp)
    refine ⟨_, rfl, f1, ?_, setB_ok hV n1 n5, Or.inr ⟨by rw [pI_n (by decide), pI_s], pI_s _ _ _⟩⟩
    obtain ⟨s1, s2, s3, s4, s5, s6, s7⟩ := hS
    exact ⟨s1, s2, by rw [pI_n (by decide), pI_n (by decide), pI_s]; rfl, s4, s5, s6, s7⟩
  · have hx : x < 1 ∨ 5 < x := by
      by_cases w : x < 1
      · exact Or.inl w
      · exact Or.inr (Int32.not_le.mp (fun z => h ⟨Int32.not_lt.mp w, z⟩))
    rw [if_neg h, if_pos rfl, if_pos hx]
    exact ⟨M, rfl, frM_r _ _ _, hS, hV, Or.inl ⟨rfl, rfl⟩⟩
theorem pM_input (hV : okV A) (hS : shM M A) (x : Int32) : ∃ M', fM_input M x = some ((spInput A x).1, M') ∧ frM [5, 21, 28] [5] M M' ∧ shM M' (spInput A x).2 ∧ okV (spInput A x).2 ∧ chg M M' ((spInput A x).2 = A) := by
  have hK := hV.1.1
  have hI := hV.1.2.1
  rw [fM_input, hS.1, in_n (by omega), Option.bind_some, spInput]
  by_cases h : x < 0 ∨ shK A ≤ x.toNatClampNeg
  · rw [if_pos h, if_pos h, if_pos rfl]
    exact ⟨M, rfl, frM_r _ _ _, hS, hV, Or.inl ⟨rfl, rfl⟩⟩
  · rw [if_neg h, if_neg h, if_neg (show ¬ (1 : Int32) = 0 by decide), hS.2.1]
    have h0 : ¬ x < 0 := fun w => h (Or.inl w)
    obtain ⟨n, hn, rfl⟩ := nI_of h0
    rw [nI_clamp hn] at h ⊢
    by_cases e : shI A = 2
    · rw [if_pos (show nI (shI A) = 2 by rw [e]; rfl), if_pos e]
      exact ⟨M, rfl, frM_r _ _ _, hS, hV, Or.inl ⟨rfl, rfl⟩⟩
    · rw [if_neg (show ¬ nI (shI A) = 2 from fun w => e ((nI_eq (b := 2) (by omega) (by decide)).mp w)), if_neg e, if_pos (inb_nI (by omega) (by decide)), rr_l_e, rr_l_e, pM_changed, Option.bind_some]
      have f1 : frM [5, 21, 28] [5] M (pI (pI (pI (pA M 5 (nI (shI A)) (nI n)) 5 ((pA M 5 (nI (shI A)) (nI n)).1 5 + 1)) 21 0) 28 0) := frM_pI (frM_pI (frM_pI (frM_pA (frM_r _ _ _) (by simp)) (by simp)) (by simp)) (by simp)
      have e5 : (pI (pI (pI (pA M 5 (nI (shI A)) (nI n)) 5 ((pA M 5 (nI (shI A)) (nI n)).1 5 + 1)) 21 0) 28 0).1 5 = nI (shI A + 1) := by rw [pI_n (by decide), pI_n (by decide), pI_s, pA_1, hS.2.1, nI_1]
      refine ⟨_, by rw [e5, nI_pred], f1, ?_, addI_ok hV (by omega) (by omega), Or.inr ⟨by rw [pI_n (by decide), pI_s], pI_s _ _ _⟩⟩
      obtain ⟨s1, s2, s3, s4, s5, s6, s7⟩ := hS
      refine ⟨s1, e5, s3, s4, s5, s6, fun i hi => ?_⟩
      have hi : i < shI A + 1 := hi
      rw [pI_2, pI_2, pI_2, pA_s, nI_clamp (by omega)]
      show _ = nI (upn (shN A) (shI A) n i)
      by_cases ei : i = shI A
      · rw [ei, upd_s, upn_s]
      · rw [upd_n ei, upn_n ei]; exact s7 i (by omega)
theorem uM_kind69 {A : Sh} {j : Nat} {x : Int32} (hV : okV A) (hK : shK A < 4) (hj : shC A j ≤ 4) (hj4 : j < 4) (ex : 0 < shC A j → x = nI j) (hjK : ¬ j = shK A) : ∀ (m f fu : Nat) (M : rr_T), f + m = shC A j → m + 1 ≤ fu → M.1 0 = nI (shK A) → M.2.1 2 (shK A) = nI (shC A j) → (∀ g, g < f → M.2.1 3 (4 * shK A + g) = M.2.1 3 (4 * j + g) ∧ M.2.1 4 (4 * shK A + g) = M.2.1 4 (4 * j + g)) → ∃ M', rr_loop fu (LM_kind_69 x) (nI f, M) = JM_kind_134 M' ∧ frM [] [3, 4] M M' ∧ (∀ g, g < shC A j → M'.2.1 3 (4 * shK A + g) = M.2.1 3 (4 * j + g) ∧ M'.2.1 4 (4 * shK A + g) = M.2.1 4 (4 * j + g)) ∧ ∀ i, (i < 4 * shK A ∨ 4 * shK A + 4 ≤ i) → M'.2.1 3 i = M.2.1 3 i ∧ M'.2.1 4 i = M.2.1 4 i := by
  intro m
  induction m with
  | zero =>
    intro f fu M hf hfu e0 e2 hg
    obtain ⟨fu, rfl⟩ : ∃ g, fu = g + 1 := ⟨fu - 1, by omega⟩
    refine ⟨M, ?_, frM_r _ _ _, fun g h => hg g (by omega), fun i _ => ⟨rfl, rfl⟩⟩
    rw [loop_s, LM_kind_69]
    dsimp only
    rw [e0, if_pos (inb_nI hK (by decide)), nI_clamp (by omega), e2, if_pos (nI_le (by omega) (by omega))]
  | succ m ih =>
    intro f fu M hf hfu e0 e2 hg
    obtain ⟨fu, rfl⟩ : ∃ g, fu = g + 1 := ⟨fu - 1, by omega⟩
    have exx := ex (by omega)
    subst exx
    generalize hM1 : pA (pA M 3 (nI (4 * shK A + f)) (M.2.1 3 (4 * j + f))) 4 (nI (4 * shK A + f)) (M.2.1 4 (4 * j + f)) = M1
    have f1 : frM [] [3, 4] M M1 := by rw [← hM1]; exact frM_pA (frM_pA (frM_r _ _ _) (by simp)) (by simp)
    have k3 : M1.2.1 3 = upd (M.2.1 3) (4 * shK A + f) (M.2.1 3 (4 * j + f)) := by rw [← hM1, pA_n (by decide), pA_s, nI_clamp (by omega)]
    have k4 : M1.2.1 4 = upd (M.2.1 4) (4 * shK A + f) (M.2.1 4 (4 * j + f)) := by rw [← hM1, pA_s, nI_clamp (by omega), pA_n (by decide)]
    obtain ⟨M', b1, b2, b3, b4⟩ := ih (f + 1) fu M1 (by omega) (by omega) (by rw [f1.1 0 (by simp)]; exact e0) (by rw [f1.2 2 (by simp)]; exact e2) (fun g h => by
      rw [k3, k4]
      have hne : ¬ 4 * j + g = 4 * shK A + f := by omega
      rw [upd_n hne, upd_n hne]
      by_cases e : g = f
      · rw [e, upd_s, upd_s]; exact ⟨rfl, rfl⟩
      · rw [upd_n (by omega), upd_n (by omega)]; exact hg g (by omega))
    refine ⟨M', ?_, frM_t f1 b2, fun g h => ?_, fun i hi => ?_⟩
    · rw [loop_s, LM_kind_69]
      dsimp only
      rw [e0, if_pos (inb_nI hK (by decide)), nI_clamp (show shK A < 2 ^ 31 by omega), e2, if_neg (nI_ge (by omega) (by omega)), ix4, ix4, if_pos (inb_nI (show 4 * j + f < 16 by omega) (by decide)), if_pos (inb_nI (show 4 * shK A + f < 16 by omega) (by decide)), nI_clamp (show 4 * j + f < 2 ^ 31 by omega), rr_l_e, if_pos (inb_nI (show 4 * j + f < 16 by omega) (by decide)), pA_1, e0, ix4, if_pos (inb_nI (show 4 * shK A + f < 16 by omega) (by decide)), rr_l_e, pA_n (by decide), hM1, nI_1]
      exact b1
    · obtain ⟨c1, c2⟩ := b3 g h
      rw [c1, c2, k3, k4]
      rw [upd_n (by omega), upd_n (by omega)]
      exact ⟨rfl, rfl⟩
    · obtain ⟨c1, c2⟩ := b4 i hi
      rw [c1, c2, k3, k4]
      rw [upd_n (by omega), upd_n (by omega)]
      exact ⟨rfl, rfl⟩
theorem addK_M {j : Option Nat} {M' : rr_T} {x : Int32} (hV : okV A) (hK : shK A < 4) (hS : shM M A) (hx : (j = none ∧ x = -1) ∨ ∃ i, j = some i ∧ i < shK A ∧ x = nI i) (e0 : M'.1 0 = nI (shK A + 1)) (e5 : M'.1 5 = M.1 5) (e7 : M'.1 7 = M.1 7) (a1 : M'.2.1 1 = upd (M.2.1 1) (shK A) x) (a2 : M'.2.1 2 = upd (M.2.1 2) (shK A) (nI (kC A j))) (a3 : ∀ g i, j = some i → g < shC A i → M'.2.1 3 (4 * shK A + g) = M.2.1 3 (4 * i + g) ∧ M'.2.1 4 (4 * shK A + g) = M.2.1 4 (4 * i + g)) (a4 : ∀ i, i < 4 * shK A → M'.2.1 3 i = M.2.1 3 i ∧ M'.2.1 4 i = M.2.1 4 i) (a5 : M'.2.1 5 = M.2.1 5) : shM M' (addK A j) := by
  obtain ⟨s1, s2, s3, s4, s5, s6, s7⟩ := hS
  refine ⟨e0, by rw [e5]; exact s2, by rw [e7]; exact s3, fun k hk => ?_, fun k f hk hf => ?_, fun k hk => ?_, by rw [a5]; exact s7⟩
  · have hk : k < shK A + 1 := hk
    rw [a2]
    show _ = nI (if k = shK A then kC A j else shC A k)
    by_cases e : k = shK A
    · rw [e, upd_s, if_pos rfl]
    · rw [upd_n e, if_neg e]; exact s4 k (by omega)
  · have hk : k < shK A + 1 := hk
    have hf : f < (if k = shK A then kC A j else shC A k) := hf
    show ((if k = shK A then kT A j f else shT A k f) < 4 ∧ M'.2.1 3 (4 * k + f) = 0 ∧ M'.2.1 4 (4 * k + f) = nI (if k = shK A then kT A j f else shT A k f)) ∨ (¬ (if k = shK A then kT A j f else shT A k f) < 4 ∧ M'.2.1 3 (4 * k + f) = 1 ∧ M'.2.1 4 (4 * k + f) = nI ((if k = shK A then kT A j f else shT A k f) - 4))
    by_cases e : k = shK A
    · rw [if_pos e] at hf ⊢
      cases j with
      | none => exact absurd hf (Nat.not_lt_zero _)
      | some i =>
        have hi : i < shK A := by
          rcases hx with ⟨w, -⟩ | ⟨i', w, h1, -⟩
          · cases w
          · cases w; exact h1
        obtain ⟨c1, c2⟩ := a3 f i rfl hf
        rw [e, c1, c2]
        exact s5 i f hi hf
    · rw [if_neg e] at hf ⊢
      have hC := hV.1.2.2.2.2.1 k (by omega)
      obtain ⟨c1, c2⟩ := a4 (4 * k + f) (by omega)
      rw [c1, c2]
      exact s5 k f (by omega) hf
  · have hk : k < shK A + 1 := hk
    have hu : ∀ k t, shU (addK A j) k t = if k = shK A then (decide (k = t) || kU A j t) else shU A k t := fun _ _ => rfl
    rw [a1]
    by_cases e : k = shK A
    · rw [e, upd_s]
      rcases hx with ⟨w, w2⟩ | ⟨i, w, h1, h2⟩
      · subst w
        exact Or.inl ⟨w2, fun t => by rw [hu, if_pos rfl]; simp [kU]⟩
      · subst w
        refine Or.inr ⟨i, h1, h2, fun t => ?_⟩
        rw [hu, hu, if_pos rfl, if_neg (show ¬ i = shK A by omega)]
        rfl
    · rw [upd_n e]
      rcases s6 k (by omega) with ⟨w, w2⟩ | ⟨i, h1, h2, h3⟩
      · exact Or.inl ⟨w, fun t => by rw [hu, if_neg e]; exact w2 t⟩
      · refine Or.inr ⟨i, h1, h2, fun t => ?_⟩
        rw [hu, hu, if_neg e, if_neg (show ¬ i = shK A by omega)]
        exact h3 t
theorem uM_kind22 (hV : okV A) (hS : shM M A) {x : Int32} {j : Option Nat} (hx : (j = none ∧ x = -1) ∨ ∃ i, j = some i ∧ i < shK A ∧ x = nI i) : ∃ M', JM_kind_22 M x () = some ((if shK A = 4 then -104 else nI (shK A)), M') ∧ frM [0, 21, 28] [1, 2, 3, 4] M M' ∧ shM M' (if shK A = 4 then A else addK A j) ∧ chg M M' ((if shK A = 4 then A else addK A j) = A) := by
  have hK := hV.1.1
  rw [JM_kind_22, hS.1]
  by_cases e4 : shK A = 4
  · rw [if_pos (show nI (shK A) = 4 by rw [e4]; rfl), if_pos e4, if_pos e4]
    exact ⟨M, rfl, frM_r _ _ _, hS, Or.inl ⟨rfl, rfl⟩⟩
  · rw [if_neg (show ¬ nI (shK A) = 4 from fun w => e4 ((nI_eq (b := 4) (by omega) (by decide)).mp w)), if_neg e4, if_neg e4, if_pos (inb_nI (by omega) (by decide)), rr_l_e]
    have key : ∃ M3, frM [] [3, 4] (pA (pA M 1 (nI (shK A)) x) 2 (nI (shK A)) (nI (kC A j))) M3 ∧ JM_kind_66 x (pA M 1 (nI (shK A)) x) (nI (kC A j)) = JM_kind_134 M3 ∧ (∀ g i, j = some i → g < shC A i → M3.2.1 3 (4 * shK A + g) = M.2.1 3 (4 * i + g) ∧ M3.2.1 4 (4 * shK A + g) = M.2.1 4 (4 * i + g)) ∧ ∀ i, i < 4 * shK A → M3.2.1 3 i = M.2.1 3 i ∧ M3.2.1 4 i = M.2.1 4 i := by
      have b2 : (pA (pA M 1 (nI (shK A)) x) 2 (nI (shK A)) (nI (kC A j))).2.1 2 (shK A) = nI (kC A j) := by rw [pA_s, nI_clamp (by omega), upd_s]
      have b3 : (pA (pA M 1 (nI (shK A)) x) 2 (nI (shK A)) (nI (kC A j))).2.1 3 = M.2.1 3 := by rw [pA_n (by decide), pA_n (by decide)]
      have b4 : (pA (pA M 1 (nI (shK A)) x) 2 (nI (shK A)) (nI (kC A j))).2.1 4 = M.2.1 4 := by rw [pA_n (by decide), pA_n (by decide)]
      have b0 : (pA (pA M 1 (nI (shK A)) x) 2 (nI (shK A)) (nI (kC A j))).1 0 = nI (shK A) := hS.1
      have e66 : JM_kind_66 x (pA M 1 (nI (shK A)) x) (nI (kC A j)) = rr_loop FU (LM_kind_69 x) (0, pA (pA M 1 (nI (shK A)) x) 2 (nI (shK A)) (nI (kC A j))) := by
        rw [JM_kind_66, pA_1, hS.1, if_pos (inb_nI (by omega) (by decide)), rr_l_e]
      rw [e66]
      generalize pA (pA M 1 (nI (shK A)) x) 2 (nI (shK A)) (nI (kC A j)) = M2 at b0 b2 b3 b4 ⊢
      rcases hx with ⟨w, -⟩ | ⟨i, w, h1, h2⟩
      · subst w
        refine ⟨M2, frM_r _ _ _, ?_, fun g i z => (by cases z), fun i _ => ⟨by rw [b3], by rw [b4]⟩⟩
        show rr_loop (4999 + 1) (LM_kind_69 x) (0, M2) = _
        rw [loop_s, LM_kind_69]
        dsimp only
        rw [b0, if_pos (inb_nI (by omega) (by decide)), nI_clamp (by omega), b2]
        exact if_pos (show nI 0 ≤ 0 by decide)
      · subst w
        have hC := hV.1.2.2.2.2.1 i (by omega)
        obtain ⟨M3, c1, c2, c3, c4⟩ := uM_kind69 (j := i) (x := x) hV (by omega) hC (by omega) (fun _ => h2) (by omega) (shC A i) 0 FU M2 (by omega) (by show _ ≤ 5000; omega) b0 b2 (fun g h => absurd h (Nat.not_lt_zero _))
        refine ⟨M3, c2, c1, fun g i' z hg => ?_, fun i' hi' => ?_⟩
        · cases z
          obtain ⟨d1, d2⟩ := c3 g hg
          rw [d1, d2, b3, b4]
          exact ⟨rfl, rfl⟩
        · obtain ⟨d1, d2⟩ := c4 i' (Or.inl hi')
          rw [d1, d2, b3, b4]
          exact ⟨rfl, rfl⟩
    obtain ⟨M3, k1, k2, k3, k4⟩ := key
    have fin : ∃ M', JM_kind_134 M3 = some (nI (shK A), M') ∧ frM [0, 21, 28] [1, 2, 3, 4] M M' ∧ shM M' (addK A j) ∧ chg M M' (addK A j = A) := by
      have e0 : M3.1 0 = nI (shK A) := by rw [k1.1 0 (by simp)]; exact hS.1
      have f3 : frM [0, 21, 28] [1, 2, 3, 4] M M3 := frM_t (frM_pA (frM_pA (frM_r _ _ _) (by simp)) (by simp)) (frM_w k1 (by simp) (by simp))
      have e00 : (pI (pI (pI M3 0 (M3.1 0 + 1)) 21 0) 28 0).1 0 = nI (shK A + 1) := by rw [pI_n (by decide), pI_n (by decide), pI_s, e0, nI_1]
      rw [JM_kind_134, rr_l_e, pM_changed, Option.bind_some, e00, nI_pred]
      refine ⟨_, rfl, frM_pI (frM_pI (frM_pI f3 (by simp)) (by simp)) (by simp), ?_, Or.inr ⟨by rw [pI_n (by decide), pI_s], pI_s _ _ _⟩⟩
      refine addK_M hV (by omega) hS hx e00 ?_ ?_ ?_ ?_ k3 k4 ?_
      · rw [pI_n (by decide), pI_n (by decide), pI_n (by decide), f3.1 5 (by simp)]
      · rw [pI_n (by decide), pI_n (by decide), pI_n (by decide), f3.1 7 (by simp)]
      · rw [pI_2, pI_2, pI_2, k1.2 1 (by simp), pA_n (by decide), pA_s, nI_clamp (by omega)]
      · rw [pI_2, pI_2, pI_2, k1.2 2 (by simp), pA_s, nI_clamp (by omega), pA_n (by decide)]
      · rw [pI_2, pI_2, pI_2, f3.2 5 (by simp)]
    rcases hx with ⟨w, w2⟩ | ⟨i, w, h1, h2⟩
    · subst w
      rw [if_pos w2]
      have k2 : JM_kind_66 x (pA M 1 (nI (shK A)) x) 0 = JM_kind_134 M3 := k2
      rw [k2]
      exact fin
    · subst w
      rw [if_neg (by rw [h2]; exact nI_m1 (by omega)), if_pos (by rw [h2]; exact inb_nI (by omega) (by decide))]
      have e2 : (pA M 1 (nI (shK A)) x).2.1 2 x.toNatClampNeg = nI (shC A i) := by rw [pA_n (by decide), h2, nI_clamp (by omega)]; exact hS.2.2.2.1 i h1
      rw [e2]
      have k2 : JM_kind_66 x (pA M 1 (nI (shK A)) x) (nI (shC A i)) = JM_kind_134 M3 := k2
      rw [k2]
      exact fin
theorem pM_kind (hV : okV A) (hS : shM M A) (x : Int32) : ∃ M', fM_kind M x = some ((spKind A x).1, M') ∧ frM [0, 21, 28] [1, 2, 3, 4] M M' ∧ shM M' (spKind A x).2 ∧ okV (spKind A x).2 ∧ chg M M' ((spKind A x).2 = A) := by
  have hK := hV.1.1
  rw [fM_kind, spKind]
  by_cases e : x = -1
  · rw [if_pos e, if_pos e]
    obtain ⟨M', a1, a2, a3, a4⟩ := uM_kind22 hV hS (x := x) (j := none) (Or.inl ⟨rfl, e⟩)
    refine ⟨M', ?_, a2, ?_⟩
    · rw [a1]; by_cases e4 : shK A = 4
      · rw [if_pos e4, if_pos e4]
      · rw [if_neg e4, if_neg e4]
    · by_cases e4 : shK A = 4
      · rw [if_pos e4] at a3 a4
        rw [if_pos e4]; exact ⟨a3, hV, a4⟩
      · rw [if_neg e4] at a3 a4
        rw [if_neg e4]; exact ⟨a3, addK_ok hV (by omega) (fun i z => by cases z), a4⟩
  · rw [if_neg e, if_neg e, hS.1, in_n (by omega), Option.bind_some]
    by_cases h : x < 0 ∨ shK A ≤ x.toNatClampNeg
    · rw [if_pos h, if_pos h, if_pos rfl]
      exact ⟨M, rfl, frM_r _ _ _, hS, hV, Or.inl ⟨rfl, rfl⟩⟩
    · rw [if_neg h, if_neg h, if_neg (show ¬ (1 : Int32) = 0 by decide)]
      have h0 : ¬ x < 0 := fun w => h (Or.inl w)
      obtain ⟨n, hn, rfl⟩ := nI_of h0
      rw [nI_clamp hn] at h ⊢
      obtain ⟨M', a1, a2, a3, a4⟩ := uM_kind22 hV hS (x := nI n) (j := some n) (Or.inr ⟨n, rfl, by omega, rfl⟩)
      refine ⟨M', ?_, a2, ?_⟩
      · rw [a1]; by_cases e4 : shK A = 4
        · rw [if_pos e4, if_pos e4]
        · rw [if_neg e4, if_neg e4]
      · by_cases e4 : shK A = 4
        · rw [if_pos e4] at a3 a4
          rw [if_pos e4]; exact ⟨a3, hV, a4⟩
        · rw [if_neg e4] at a3 a4
          rw [if_neg e4]; exact ⟨a3, addK_ok hV (by omega) (fun i z => by cases z; omega), a4⟩
end MSET
