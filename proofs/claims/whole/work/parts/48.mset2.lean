/-! ===== L3: the reference's field, rule, clear, about, step, erase ===== -/
section MSET2
variable {A : Sh} {qs : List Ru} {ps : List Sp} {tw : List Int32} {M : rr_T}
theorem sup_iff (hV : okV A) (hS : shM M A) {k : Nat} (hk : k < shK A) : supB A k = true ↔ ∃ t, t < shK A ∧ M.2.1 1 t = nI k := by
  have hK := hV.1.1
  rw [supB_t]
  constructor
  · rintro ⟨t, h1, h2, h3⟩
    induction t using Nat.strongRecOn with
    | ind t ih =>
      rcases hS.2.2.2.2.2.1 t h1 with ⟨-, w⟩ | ⟨j, g1, g2, g3⟩
      · rw [w k, decide_eq_false h2] at h3; cases h3
      · rw [g3 k, decide_eq_false h2, Bool.false_or] at h3
        by_cases e : j = k
        · exact ⟨t, h1, by rw [g2, e]⟩
        · exact ih j g1 (by omega) e h3
  · rintro ⟨t, h1, h2⟩
    rcases hS.2.2.2.2.2.1 t h1 with ⟨w, -⟩ | ⟨j, g1, g2, g3⟩
    · rw [w] at h2; exact absurd h2.symm (nI_m1 (by omega))
    · have ej : j = k := (nI_eq (by omega) (by omega)).mp (g2.symm.trans h2)
      subst ej
      refine ⟨t, h1, by omega, ?_⟩
      rw [g3 j, hV.2.1 j hk]
      simp
theorem uM_field64 (hK : shK A ≤ 4) (hS : shM M A) {k : Nat} {y z : Int32} : ∀ (m t f : Nat), t + m = shK A → m + 1 ≤ f → ((∃ s, t ≤ s ∧ s < shK A ∧ M.2.1 1 s = nI k) → rr_loop f (LM_field_64 M (nI k) y z) (nI t) = some (-103, M)) ∧ ((¬ ∃ s, t ≤ s ∧ s < shK A ∧ M.2.1 1 s = nI k) → rr_loop f (LM_field_64 M (nI k) y z) (nI t) = JM_field_93 M (nI k) y z ()) := by
  intro m
  induction m with
  | zero =>
    intro t f ht hf
    obtain ⟨f, rfl⟩ : ∃ g, f = g + 1 := ⟨f - 1, by omega⟩
    refine ⟨fun ⟨s, s1, s2, _⟩ => by omega, fun _ => ?_⟩
    rw [loop_s, LM_field_64, hS.1, if_pos (nI_le (by omega) (by omega))]
  | succ m ih =>
    intro t f ht hf
    obtain ⟨f, rfl⟩ : ∃ g, f = g + 1 := ⟨f - 1, by omega⟩
    have ih' := ih (t + 1) f (by omega) (by omega)
    rw [loop_s, LM_field_64, hS.1, if_neg (nI_ge (by omega) (by omega)), if_pos (inb_nI (by omega) (by decide)), nI_clamp (by omega), nI_1]
    by_cases e : M.2.1 1 t = nI k
    · rw [if_pos e]
      exact ⟨fun _ => rfl, fun w => absurd ⟨t, Nat.le_refl _, by omega, e⟩ w⟩
    · rw [if_neg e]
      refine ⟨fun ⟨s, s1, s2, s3⟩ => ih'.1 ⟨s, ?_, s2, s3⟩, fun w => ih'.2 (fun ⟨s, s1, s2, s3⟩ => w ⟨s, by omega, s2, s3⟩)⟩
      by_cases es : s = t
      · subst es; exact absurd s3 e
      · omega
theorem addF_M {k t : Nat} {M' : rr_T} (hV : okV A) (hS : shM M A) (hk : k < shK A) (hC : shC A k < 4) {y z : Int32} (hy : (t < 4 ∧ y = 0 ∧ z = nI t) ∨ (¬ t < 4 ∧ y = 1 ∧ z = nI (t - 4))) (e0 : M'.1 0 = M.1 0) (e5 : M'.1 5 = M.1 5) (e7 : M'.1 7 = M.1 7) (a1 : M'.2.1 1 = M.2.1 1) (a2 : M'.2.1 2 = upd (M.2.1 2) k (nI (shC A k + 1))) (a3 : M'.2.1 3 = upd (M.2.1 3) (4 * k + shC A k) y) (a4 : M'.2.1 4 = upd (M.2.1 4) (4 * k + shC A k) z) (a5 : M'.2.1 5 = M.2.1 5) : shM M' (addF A k t) := by
  have hK := hV.1.1
  obtain ⟨s1, s2, s3, s4, s5, s6, s7⟩ := hS
  refine ⟨by rw [e0]; exact s1, by rw [e5]; exact s2, by rw [e7]; exact s3, fun k' hk' => ?_, fun k' f hk' hf => ?_, by rw [a1]; exact s6, by rw [a5]; exact s7⟩
  · rw [a2]
    show _ = nI (upn (shC A) k (shC A k + 1) k')
    by_cases e : k' = k
    · rw [e, upd_s, upn_s]
    · rw [upd_n e, upn_n e]; exact s4 k' hk'
  · have hk' : k' < shK A := hk'
    have hf : f < upn (shC A) k (shC A k + 1) k' := hf
    have hC' := hV.1.2.2.2.2.1 k' (by omega)
    show ((if k' = k ∧ f = shC A k then t else shT A k' f) < 4 ∧ M'.2.1 3 (4 * k' + f) = 0 ∧ M'.2.1 4 (4 * k' + f) = nI (if k' = k ∧ f = shC A k then t else shT A k' f)) ∨ (¬ (if k' = k ∧ f = shC A k then t else shT A k' f) < 4 ∧ M'.2.1 3 (4 * k' + f) = 1 ∧ M'.2.1 4 (4 * k' + f) = nI ((if k' = k ∧ f = shC A k then t else shT A k' f) - 4))
    rw [a3, a4]
    by_cases e : k' = k ∧ f = shC A k
    · rw [if_pos e, e.1, e.2, upd_s, upd_s]
      exact hy
    · rw [if_neg e]
      have hf' : f < shC A k' := by
        by_cases e2 : k' = k
        · subst e2
          rw [upn_s] at hf
          have : ¬ f = shC A k' := fun w => e ⟨rfl, w⟩
          omega
        · rw [upn_n e2] at hf; exact hf
      have hne : ¬ 4 * k' + f = 4 * k + shC A k := by
        intro w
        exact e ⟨by omega, by omega⟩
      rw [upd_n hne, upd_n hne]
      exact s5 k' f hk' hf'
theorem uM_field93 (hV : okV A) (hS : shM M A) {k t : Nat} {y z : Int32} (hk : k < shK A) (hy : (t < 4 ∧ y = 0 ∧ z = nI t) ∨ (¬ t < 4 ∧ y = 1 ∧ z = nI (t - 4))) : ∃ M', JM_field_93 M (nI k) y z () = some ((if shC A k = 4 then -104 else nI (shC A k)), M') ∧ frM [21, 28] [2, 3, 4] M M' ∧ shM M' (if shC A k = 4 then A else addF A k t) ∧ chg M M' ((if shC A k = 4 then A else addF A k t) = A) := by
  have hK := hV.1.1
  have hC := hV.1.2.2.2.2.1 k (by omega)
  have c1 : inb (nI k) 4 = true := inb_nI (by omega) (by decide)
  have c2 : (nI k).toNatClampNeg = k := nI_clamp (by omega)
  have e2 := hS.2.2.2.1 k hk
  rw [JM_field_93, if_pos c1, c2, e2]
  by_cases e : shC A k = 4
  · rw [if_pos (show nI (shC A k) = 4 by rw [e]; rfl), if_pos e, if_pos e]
    exact ⟨M, rfl, frM_r _ _ _, hS, Or.inl ⟨rfl, rfl⟩⟩
  · rw [if_neg (show ¬ nI (shC A k) = 4 from fun w => e ((nI_eq (b := 4) (by omega) (by decide)).mp w)), if_neg e, if_neg e, if_pos c1, ix4, if_pos (inb_nI (show 4 * k + shC A k < 16 by omega) (by decide)), rr_l_e, if_pos c1, pA_n (by decide), e2, ix4, if_pos (inb_nI (show 4 * k + shC A k < 16 by omega) (by decide)), rr_l_e, if_pos c1, if_pos c1, pA_n (by decide), pA_n (by decide), e2, nI_1, rr_l_e, pM_changed, Option.bind_some, if_pos c1]
    generalize hM' : pI (pI (pA (pA (pA M 3 (nI (4 * k + shC A k)) y) 4 (nI (4 * k + shC A k)) z) 2 (nI k) (nI (shC A k + 1))) 21 0) 28 0 = M'
    have f1 : frM [21, 28] [2, 3, 4] M M' := by rw [← hM']; exact frM_pI (frM_pI (frM_pA (frM_pA (frM_pA (frM_r _ _ _) (by simp)) (by simp)) (by simp)) (by simp)) (by simp)
    have k2 : M'.2.1 2 = upd (M.2.1 2) k (nI (shC A k + 1)) := by rw [← hM', pI_2, pI_2, pA_s, c2, pA_n (by decide), pA_n (by decide)]
    have k3 : M'.2.1 3 = upd (M.2.1 3) (4 * k + shC A k) y := by rw [← hM', pI_2, pI_2, pA_n (by decide), pA_n (by decide), pA_s, nI_clamp (by omega)]
    have k4 : M'.2.1 4 = upd (M.2.1 4) (4 * k + shC A k) z := by rw [← hM', pI_2, pI_2, pA_n (by decide), pA_s, nI_clamp (by omega), pA_n (by decide)]
    refine ⟨M', by rw [k2, upd_s, nI_pred], f1, addF_M hV hS hk (by omega) hy (f1.1 0 (by simp)) (f1.1 5 (by simp)) (f1.1 7 (by simp)) (f1.2 1 (by simp)) k2 k3 k4 (f1.2 5 (by simp)), Or.inr ?_⟩
    rw [← hM']
    exact ⟨by rw [pI_n (by decide), pI_s], pI_s _ _ _⟩
/-- a field comes, or is refused -/
def spF2 (A : Sh) (k t : Nat) : Int32 × Sh := if supB A k = true then (-103, A) else if shC A k = 4 then (-104, A) else (nI (shC A k), addF A k t)
theorem uM_field61 (hV : okV A) (hS : shM M A) {k t : Nat} {y z : Int32} (hk : k < shK A) (ht : t < shK A ∨ (5 ≤ t ∧ t ≤ 7)) (hy : (t < 4 ∧ y = 0 ∧ z = nI t) ∨ (¬ t < 4 ∧ y = 1 ∧ z = nI (t - 4))) : ∃ M', JM_field_61 M (nI k) y z () = some ((spF2 A k t).1, M') ∧ frM [21, 28] [2, 3, 4] M M' ∧ shM M' (spF2 A k t).2 ∧ okV (spF2 A k t).2 ∧ chg M M' ((spF2 A k t).2 = A) := by
  have hK := hV.1.1
  have hC := hV.1.2.2.2.2.1 k (by omega)
  have u := uM_field64 (k := k) (y := y) (z := z) hK hS (shK A) 0 FU (Nat.zero_add _) (by show _ ≤ 5000; omega)
  unfold spF2
  by_cases e : supB A k = true
  · rw [if_pos e]
    obtain ⟨s, s1, s2⟩ := (sup_iff hV hS hk).mp e
    exact ⟨M, u.1 ⟨s, Nat.zero_le _, s1, s2⟩, frM_r _ _ _, hS, hV, Or.inl ⟨rfl, rfl⟩⟩
  · rw [if_neg e]
    have u2 : JM_field_61 M (nI k) y z () = JM_field_93 M (nI k) y z () := u.2 (fun ⟨s, _, s1, s2⟩ => e ((sup_iff hV hS hk).mpr ⟨s, s1, s2⟩))
    obtain ⟨M', a1, a2, a3, a4⟩ := uM_field93 hV hS hk hy
    rw [u2]
    by_cases e4 : shC A k = 4
    · rw [if_pos e4] at a1 a3 a4 ⊢
      exact ⟨M', a1, a2, a3, hV, a4⟩
    · rw [if_neg e4] at a1 a3 a4 ⊢
      exact ⟨M', a1, a2, a3, addF_ok hV hk (by omega) ht e, a4⟩
theorem spField_eq {x y z : Int32} (h1 : ¬ (x < 0 ∨ shK A ≤ x.toNatClampNeg)) (h2 : ¬ (y = 0 ∧ (z < 0 ∨ shK A ≤ z.toNatClampNeg))) (h3 : ¬ (y < 0 ∨ 1 < y.toNatClampNeg)) (h4 : ¬ (y = 1 ∧ (z < 1 ∨ 3 < z))) : spField A x y z = spF2 A x.toNatClampNeg (if y = 0 then z.toNatClampNeg else 4 + z.toNatClampNeg) := by
  rw [spField, if_neg h1, if_neg h2, if_neg h3, if_neg h4]
  rfl
theorem pM_field (hV : okV A) (hS : shM M A) (x y z : Int32) : ∃ M', fM_field M x y z = some ((spField A x y z).1, M') ∧ frM [21, 28] [2, 3, 4] M M' ∧ shM M' (spField A x y z).2 ∧ okV (spField A x y z).2 ∧ chg M M' ((spField A x y z).2 = A) := by
  have hK := hV.1.1
  have stay : ∀ (v : Int32), spField A x y z = (v, A) → fM_field M x y z = some (v, M) → ∃ M', fM_field M x y z = some ((spField A x y z).1, M') ∧ frM [21, 28] [2, 3, 4] M M' ∧ shM M' (spField A x y z).2 ∧ okV (spField A x y z).2 ∧ chg M M' ((spField A x y z).2 = A) := by
    intro v e1 e2
    rw [e1]
    exact ⟨M, e2, frM_r _ _ _, hS, hV, Or.inl ⟨rfl, rfl⟩⟩
  by_cases h1 : x < 0 ∨ shK A ≤ x.toNatClampNeg
  · refine stay (-101) (by rw [spField, if_pos h1]) ?_
    rw [fM_field, hS.1, in_n (by omega), Option.bind_some, if_pos h1, if_pos rfl]
  · have e1 : fM_field M x y z = if y = 0 then (fM_in z 0 (nI (shK A) - 1)).bind (fun r12 => if r12 = 0 then some (-101, M) else JM_field_35 M x y z ()) else JM_field_35 M x y z () := by
      rw [fM_field, hS.1, in_n (by omega), Option.bind_some, if_neg h1, if_neg (show ¬ (1 : Int32) = 0 by decide)]
    have hx0 : ¬ x < 0 := fun w => h1 (Or.inl w)
    obtain ⟨k, hk, rfl⟩ := nI_of hx0
    have h1' := h1
    rw [nI_clamp hk] at h1'
    by_cases y0 : y = 0
    · rw [if_pos y0, in_n (by omega), Option.bind_some] at e1
      by_cases h2 : z < 0 ∨ shK A ≤ z.toNatClampNeg
      · exact stay (-101) (by rw [spField, if_neg h1, if_pos ⟨y0, h2⟩]) (by rw [e1, if_pos h2, if_pos rfl])
      · rw [if_neg h2, if_neg (show ¬ (1 : Int32) = 0 by decide)] at e1
        have hz0 : ¬ z < 0 := fun w => h2 (Or.inl w)
        obtain ⟨t, ht, rfl⟩ := nI_of hz0
        have h2' := h2
        rw [nI_clamp ht] at h2'
        subst y0
        rw [e1, spField_eq h1 (fun w => h2 w.2) (by decide) (fun w => absurd w.1 (by decide)), if_pos rfl, nI_clamp hk, nI_clamp ht, JM_field_35, show fM_in 0 0 1 = some 1 from by rw [pM_in]; rfl, Option.bind_some, if_neg (show ¬ (1 : Int32) = 0 by decide), if_neg (show ¬ (0 : Int32) = 1 by decide)]
        exact uM_field61 hV hS (by omega) (Or.inl (by omega)) (Or.inl ⟨by omega, rfl, rfl⟩)
    · rw [if_neg y0] at e1
      have h2 : ¬ (y = 0 ∧ (z < 0 ∨ shK A ≤ z.toNatClampNeg)) := fun w => y0 w.1
      by_cases h3 : y < 0 ∨ 1 < y.toNatClampNeg
      · refine stay (-102) (by rw [spField, if_neg h1, if_neg h2, if_pos h3]) ?_
        rw [e1, JM_field_35, show fM_in y 0 1 = _ from in_m (n := 1) (by decide) y, Option.bind_some, if_pos h3, if_pos rfl]
      · have hy0 : ¬ y < 0 := fun w => h3 (Or.inl w)
        obtain ⟨b, hb, rfl⟩ := nI_of hy0
        have h3' := h3
        rw [nI_clamp hb] at h3'
        have b1 : b = 1 := by
          have : ¬ b = 0 := fun w => y0 (by rw [w]; rfl)
          omega
        subst b1
        rw [JM_field_35, show fM_in (nI 1) 0 1 = some 1 from by rw [pM_in]; rfl, Option.bind_some, if_neg (show ¬ (1 : Int32) = 0 by decide), if_pos (show nI 1 = 1 from rfl), pM_in, Option.bind_some] at e1
        by_cases h4 : z < 1 ∨ 3 < z
        · refine stay (-102) (by rw [spField, if_neg h1, if_neg h2, if_neg h3, if_pos ⟨rfl, h4⟩]) ?_
          rw [e1, if_neg (show ¬ ((1 : Int32) ≤ z ∧ z ≤ 3) from fun w => by rcases h4 with v | v; exact absurd w.1 (Int32.not_le.mpr v); exact absurd w.2 (Int32.not_le.mpr v)), if_pos rfl]
        · have z1 : (1 : Int32) ≤ z := Int32.not_lt.mp (fun w => h4 (Or.inl w))
          have z3 : z ≤ 3 := Int32.not_lt.mp (fun w => h4 (Or.inr w))
          have hz0 : ¬ z < 0 := fun w => absurd (Int32.lt_of_le_of_lt z1 w) (by decide)
          obtain ⟨n, hn, rfl⟩ := nI_of hz0
          have n1 : 1 ≤ n := (nI_leI (a := 1) (by decide) hn).mp z1
          have n3 : n ≤ 3 := (nI_leI (b := 3) hn (by decide)).mp z3
          rw [if_pos (show (1 : Int32) ≤ nI n ∧ nI n ≤ 3 from ⟨z1, z3⟩), if_neg (show ¬ (1 : Int32) = 0 by decide)] at e1
          rw [e1, spField_eq h1 h2 h3 (fun w => h4 w.2), if_neg y0, nI_clamp hk, nI_clamp hn]
          exact uM_field61 hV hS (by omega) (Or.inr ⟨by omega, by omega⟩) (Or.inr ⟨by omega, rfl, by rw [show 4 + n - 4 = n by omega]⟩)
theorem uM_rule182 (hr : rsM M qs) {q : Ru} {x1 x2 x3 x4 : Int32} (h1 : x1 = nI q.1) (h2 : ¬ q.1 = 6 → x2 = nI q.2.1 ∧ x3 = nI q.2.2.1 ∧ (¬ q.1 = 0 → x4 = nI q.2.2.2 - 1)) : ∃ M', JM_rule_182 M x1 x2 x3 x4 () = some ((if qs.length = 6 then -104 else nI qs.length), M') ∧ frM [8, 21, 28] [6, 7, 8, 9] M M' ∧ rsM M' (if qs.length = 6 then qs else qs ++ [q]) ∧ chg M M' ((if qs.length = 6 then qs else qs ++ [q]) = qs) := by
  obtain ⟨r1, r2, r3⟩ := hr
  rw [JM_rule_182, r1]
  by_cases e : qs.length = 6
  · rw [if_pos (show nI qs.length = 6 by rw [e]; rfl), if_pos e, if_pos e]
    exact ⟨M, rfl, frM_r _ _ _, ⟨r1, r2, r3⟩, Or.inl ⟨rfl, rfl⟩⟩
  · have c1 : inb (nI qs.length) 6 = true := inb_nI (by omega) (by decide)
    have c2 : (nI qs.length).toNatClampNeg = qs.length := nI_clamp (by omega)
    rw [if_neg (show ¬ nI qs.length = 6 from fun w => e ((nI_eq (b := 6) (by omega) (by decide)).mp w)), if_neg e, if_neg e, if_pos c1, rr_l_e, pA_1, r1, if_pos c1, rr_l_e, pA_1, pA_1, r1, if_pos c1, rr_l_e, pA_1, pA_1, pA_1, r1, if_pos c1, rr_l_e, rr_l_e, pA_1, pA_1, pA_1, pA_1, r1, nI_1, pM_changed, Option.bind_some]
    generalize hM' : pI (pI (pI (pA (pA (pA (pA M 6 (nI qs.length) x1) 7 (nI qs.length) x2) 8 (nI qs.length) x3) 9 (nI qs.length) x4) 8 (nI (qs.length + 1))) 21 0) 28 0 = M'
    have f1 : frM [8, 21, 28] [6, 7, 8, 9] M M' := by rw [← hM']; exact frM_pI (frM_pI (frM_pI (frM_pA (frM_pA (frM_pA (frM_pA (frM_r _ _ _) (by simp)) (by simp)) (by simp)) (by simp)) (by simp)) (by simp)) (by simp)
    have k6 : M'.2.1 6 = upd (M.2.1 6) qs.length x1 := by rw [← hM', pI_2, pI_2, pI_2, pA_n (by decide), pA_n (by decide), pA_n (by decide), pA_s, c2]
    have k7 : M'.2.1 7 = upd (M.2.1 7) qs.length x2 := by rw [← hM', pI_2, pI_2, pI_2, pA_n (by decide), pA_n (by decide), pA_s, c2, pA_n (by decide)]
    have k8 : M'.2.1 8 = upd (M.2.1 8) qs.length x3 := by rw [← hM', pI_2, pI_2, pI_2, pA_n (by decide), pA_s, c2, pA_n (by decide), pA_n (by decide)]
    have k9 : M'.2.1 9 = upd (M.2.1 9) qs.length x4 := by rw [← hM', pI_2, pI_2, pI_2, pA_s, c2, pA_n (by decide), pA_n (by decide), pA_n (by decide)]
    have e8 : M'.1 8 = nI (qs.length + 1) := by rw [← hM', pI_n (by decide), pI_n (by decide), pI_s]
    refine ⟨M', by rw [e8, nI_pred], f1, ⟨by rw [e8, List.length_append]; rfl, by rw [List.length_append, List.length_singleton]; omega, fun i hi => ?_⟩, Or.inr ?_⟩
    · rw [List.length_append, List.length_singleton] at hi
      unfold rlM
      rw [k6, k7, k8, k9]
      by_cases ei : i = qs.length
      · subst ei
        rw [gD_e, upd_s, upd_s, upd_s, upd_s]
        exact ⟨h1, h2⟩
      · rw [gD_l (by omega), upd_n ei, upd_n ei, upd_n ei, upd_n ei]
        exact r3 i (by omega)
    · rw [← hM']
      exact ⟨by rw [pI_n (by decide), pI_s], pI_s _ _ _⟩
theorem pM_clear (hr : rsM M qs) : ∃ M', fM_clear M = some (nI qs.length, M') ∧ frM [8, 21, 28] [] M M' ∧ rsM M' [] ∧ M'.1 21 = 0 ∧ M'.1 28 = 0 := by
  rw [fM_clear, rr_l_e, rr_l_e, pM_changed, Option.bind_some, hr.1]
  exact ⟨_, rfl, frM_pI (frM_pI (frM_pI (frM_r _ _ _) (by simp)) (by simp)) (by simp), ⟨by rw [pI_n (by decide), pI_n (by decide), pI_s]; rfl, by simp, fun i hi => absurd hi (Nat.not_lt_zero _)⟩, by rw [pI_n (by decide), pI_s], pI_s _ _ _⟩
theorem pM_about (hV : okV A) (hS : shM M A) (hr : rsM M qs) (ht : tpM M ps) (hw : twM M tw) (x : Int32) : fM_about M x = some (spAbout A qs ps tw x) := by
  have hK := hV.1.1
  rw [fM_about, spAbout]
  by_cases x0 : x = 0
  · rw [if_pos x0, if_pos x0, hS.1]
  · rw [if_neg x0, if_neg x0]
    by_cases x1 : x = 1
    · rw [if_pos x1, if_pos x1, hS.2.1]
    · rw [if_neg x1, if_neg x1]
      by_cases x2 : x = 2
      · rw [if_pos x2, if_pos x2, hS.2.2.1]
      · rw [if_neg x2, if_neg x2]
        by_cases x3 : x = 3
        · rw [if_pos x3, if_pos x3, hr.1]
        · rw [if_neg x3, if_neg x3]
          by_cases x4 : x = 4
          · rw [if_pos x4, if_pos x4, ht.1]
          · rw [if_neg x4, if_neg x4]
            by_cases x5 : x = 5
            · rw [if_pos x5, if_pos x5, hw.1]
            · rw [if_neg x5, if_neg x5, hS.1, show (9 : Int32) + nI (shK A) = nI (9 + shK A) from nI_add 9 _, pM_in, Option.bind_some]
              by_cases h : x < 10 ∨ 10 + shK A ≤ x.toNatClampNeg
              · rw [if_pos h, if_neg (show ¬ ((10 : Int32) ≤ x ∧ x ≤ nI (9 + shK A)) from fun w => ?_), if_pos rfl]
                rcases h with h | h
                · exact absurd w.1 (Int32.not_le.mpr h)
                · have h0 : ¬ x < 0 := fun v => absurd (Int32.lt_of_le_of_lt w.1 v) (by decide)
                  obtain ⟨n, hn, rfl⟩ := nI_of h0
                  rw [nI_clamp hn] at h
                  exact absurd w.2 (nI_ge (by omega) hn)
              · have h1 : (10 : Int32) ≤ x := Int32.not_lt.mp (fun w => h (Or.inl w))
                have h0 : ¬ x < 0 := fun v => absurd (Int32.lt_of_le_of_lt h1 v) (by decide)
                obtain ⟨n, hn, rfl⟩ := nI_of h0
                have n10 : 10 ≤ n := (nI_leI (a := 10) (by decide) hn).mp h1
                rw [if_neg h]
                rw [nI_clamp hn] at h ⊢
                have hn2 : n < 10 + shK A := by omega
                rw [if_pos (show (10 : Int32) ≤ nI n ∧ nI n ≤ nI (9 + shK A) from ⟨h1, nI_le (by omega) (by omega)⟩), if_neg (show ¬ (1 : Int32) = 0 by decide), show nI n - 10 = nI (n - 10) from pk_sub (b := 10) n10, if_pos (inb_nI (by omega) (by decide)), nI_clamp (by omega), hS.2.2.2.1 _ (by omega)]
theorem uM_step62 (ht : tpM M ps) {p : Sp} {x1 x2 x3 x4 x5 : Int32} (h1 : x1 = nI p.1) (h2 : x2 = nI p.2.1) (h3 : x3 = nI p.2.2.1) (h4 : ¬ p.1 = 2 → x4 = nI p.2.2.2.1) (h5 : ¬ p.1 = 0 → x5 = nI p.2.2.2.2) : ∃ M', JM_step_62 M x1 x2 x3 x4 x5 1 = some ((if ps.length = 16 then -104 else nI ps.length), M') ∧ frM [13, 28] [10, 11, 12, 13, 14] M M' ∧ tpM M' (if ps.length = 16 then ps else ps ++ [p]) ∧ ((M' = M ∧ (if ps.length = 16 then ps else ps ++ [p]) = ps) ∨ M'.1 28 = 0) := by
  obtain ⟨r1, r2, r3⟩ := ht
  rw [JM_step_62, if_neg (show ¬ (1 : Int32) = 0 by decide), r1]
  by_cases e : ps.length = 16
  · rw [if_pos (show nI ps.length = 16 by rw [e]; rfl), if_pos e, if_pos e]
    exact ⟨M, rfl, frM_r _ _ _, ⟨r1, r2, r3⟩, Or.inl ⟨rfl, rfl⟩⟩
  · have c1 : inb (nI ps.length) 16 = true := inb_nI (by omega) (by decide)
    have c2 : (nI ps.length).toNatClampNeg = ps.length := nI_clamp (by omega)
    rw [if_neg (show ¬ nI ps.length = 16 from fun w => e ((nI_eq (b := 16) (by omega) (by decide)).mp w)), if_neg e, if_neg e, if_pos c1, rr_l_e, pA_1, r1, if_pos c1, rr_l_e, pA_1, pA_1, r1, if_pos c1, rr_l_e, pA_1, pA_1, pA_1, r1, if_pos c1, rr_l_e, pA_1, pA_1, pA_1, pA_1, r1, if_pos c1, rr_l_e, rr_l_e, rr_l_e, pA_1, pA_1, pA_1, pA_1, pA_1, r1, nI_1]
    generalize hM' : pI (pI (pA (pA (pA (pA (pA M 10 (nI ps.length) x1) 11 (nI ps.length) x2) 12 (nI ps.length) x3) 13 (nI ps.length) x4) 14 (nI ps.length) x5) 13 (nI (ps.length + 1))) 28 0 = M'
    have f1 : frM [13, 28] [10, 11, 12, 13, 14] M M' := by rw [← hM']; exact frM_pI (frM_pI (frM_pA (frM_pA (frM_pA (frM_pA (frM_pA (frM_r _ _ _) (by simp)) (by simp)) (by simp)) (by simp)) (by simp)) (by simp)) (by simp)
    have k10 : M'.2.1 10 = upd (M.2.1 10) ps.length x1 := by rw [← hM', pI_2, pI_2, pA_n (by decide), pA_n (by decide), pA_n (by decide), pA_n (by decide), pA_s, c2]
    have k11 : M'.2.1 11 = upd (M.2.1 11) ps.length x2 := by rw [← hM', pI_2, pI_2, pA_n (by decide), pA_n (by decide), pA_n (by decide), pA_s, c2, pA_n (by decide)]
    have k12 : M'.2.1 12 = upd (M.2.1 12) ps.length x3 := by rw [← hM', pI_2, pI_2, pA_n (by decide), pA_n (by decide), pA_s, c2, pA_n (by decide), pA_n (by decide)]
    have k13 : M'.2.1 13 = upd (M.2.1 13) ps.length x4 := by rw [← hM', pI_2, pI_2, pA_n (by decide), pA_s, c2, pA_n (by decide), pA_n (by decide), pA_n (by decide)]
    have k14 : M'.2.1 14 = upd (M.2.1 14) ps.length x5 := by rw [← hM', pI_2, pI_2, pA_s, c2, pA_n (by decide), pA_n (by decide), pA_n (by decide), pA_n (by decide)]
    have e13 : M'.1 13 = nI (ps.length + 1) := by rw [← hM', pI_n (by decide), pI_s]
    refine ⟨M', by rw [e13, nI_pred], f1, ⟨by rw [e13, List.length_append]; rfl, by rw [List.length_append, List.length_singleton]; omega, fun i hi => ?_⟩, Or.inr (by rw [← hM', pI_s])⟩
    rw [List.length_append, List.length_singleton] at hi
    unfold spM
    rw [k10, k11, k12, k13, k14]
    by_cases ei : i = ps.length
    · subst ei
      rw [gD_e, upd_s, upd_s, upd_s, upd_s, upd_s]
      exact ⟨h1, h2, h3, h4, h5⟩
    · rw [gD_l (by omega), upd_n ei, upd_n ei, upd_n ei, upd_n ei, upd_n ei]
      exact r3 i (by omega)
theorem pM_erase (ht : tpM M ps) : ∃ M', fM_erase M = some (nI ps.length, M') ∧ frM [13, 28] [] M M' ∧ tpM M' [] ∧ M'.1 28 = 0 := by
  rw [fM_erase, rr_l_e, rr_l_e, rr_l_e, ht.1]
  exact ⟨_, rfl, frM_pI (frM_pI (frM_r _ _ _) (by simp)) (by simp), ⟨by rw [pI_n (by decide), pI_s]; rfl, by simp, fun i hi => absurd hi (Nat.not_lt_zero _)⟩, pI_s _ _ _⟩
end MSET2
