/-! ===== L3: the reference's step, rule ===== -/
section MSET3
variable {A : Sh} {qs : List Ru} {ps : List Sp} {M : rr_T}
theorem pM_step (ht : tpM M ps) (hG : okG ps) (x y z u v : Int32) : ∃ M', fM_step M x y z u v = some ((spStep ps x y z u v).1, M') ∧ frM [13, 28] [10, 11, 12, 13, 14] M M' ∧ tpM M' (spStep ps x y z u v).2 ∧ okG (spStep ps x y z u v).2 ∧ ((M' = M ∧ (spStep ps x y z u v).2 = ps) ∨ M'.1 28 = 0) := by
  have b0 : JM_step_62 M x y z u v 0 = some (-102, M) := by rw [JM_step_62, if_pos rfl]
  have stay : ∀ (w : Int32), spStep ps x y z u v = (w, ps) → fM_step M x y z u v = some (w, M) → ∃ M', fM_step M x y z u v = some ((spStep ps x y z u v).1, M') ∧ frM [13, 28] [10, 11, 12, 13, 14] M M' ∧ tpM M' (spStep ps x y z u v).2 ∧ okG (spStep ps x y z u v).2 ∧ ((M' = M ∧ (spStep ps x y z u v).2 = ps) ∨ M'.1 28 = 0) := by
    intro w e1 e2
    rw [e1]
    exact ⟨M, e2, frM_r _ _ _, ht, hG, Or.inl ⟨rfl, rfl⟩⟩
  have n0 : ¬ (1 : Int32) = 0 := by decide
  by_cases h1 : x < 0 ∨ 2 < x.toNatClampNeg
  · exact stay (-102) (by rw [spStep, if_pos h1]) (by rw [fM_step, show fM_in x 0 2 = _ from in_m (n := 2) (by decide) x, Option.bind_some, if_pos h1, if_pos rfl, b0])
  · by_cases h2 : y < 0 ∨ 3 < y.toNatClampNeg
    · exact stay (-102) (by rw [spStep, if_neg h1, if_pos h2]) (by rw [fM_step, show fM_in x 0 2 = _ from in_m (n := 2) (by decide) x, Option.bind_some, if_neg h1, if_neg n0, show fM_in y 0 3 = _ from in_m (n := 3) (by decide) y, Option.bind_some, if_pos h2, if_pos rfl, b0])
    · by_cases h3 : z < 0 ∨ 3 < z.toNatClampNeg
      · exact stay (-102) (by rw [spStep, if_neg h1, if_neg h2, if_pos h3]) (by rw [fM_step, show fM_in x 0 2 = _ from in_m (n := 2) (by decide) x, Option.bind_some, if_neg h1, if_neg n0, show fM_in y 0 3 = _ from in_m (n := 3) (by decide) y, Option.bind_some, if_neg h2, if_neg n0, show fM_in z 0 3 = _ from in_m (n := 3) (by decide) z, Option.bind_some, if_pos h3, if_pos rfl, b0])
      · have e1 : fM_step M x y z u v = if x = 2 then JM_step_42 M x y z u v () else (fM_in u 0 3).bind (fun r14 => if r14 = 0 then JM_step_62 M x y z u v 0 else JM_step_42 M x y z u v ()) := by
          rw [fM_step, show fM_in x 0 2 = _ from in_m (n := 2) (by decide) x, Option.bind_some, if_neg h1, if_neg n0, show fM_in y 0 3 = _ from in_m (n := 3) (by decide) y, Option.bind_some, if_neg h2, if_neg n0, show fM_in z 0 3 = _ from in_m (n := 3) (by decide) z, Option.bind_some, if_neg h3, if_neg n0]
        by_cases h4 : ¬ x = 2 ∧ (u < 0 ∨ 3 < u.toNatClampNeg)
        · exact stay (-102) (by rw [spStep, if_neg h1, if_neg h2, if_neg h3, if_pos h4]) (by rw [e1, if_neg h4.1, show fM_in u 0 3 = _ from in_m (n := 3) (by decide) u, Option.bind_some, if_pos h4.2, if_pos rfl, b0])
        · have e2 : fM_step M x y z u v = JM_step_42 M x y z u v () := by
            rw [e1]
            by_cases x2 : x = 2
            · rw [if_pos x2]
            · rw [if_neg x2, show fM_in u 0 3 = _ from in_m (n := 3) (by decide) u, Option.bind_some, if_neg (fun w => h4 ⟨x2, w⟩), if_neg n0]
          by_cases h5 : ¬ x = 0 ∧ (v < 0 ∨ 16 < v.toNatClampNeg)
          · exact stay (-102) (by rw [spStep, if_neg h1, if_neg h2, if_neg h3, if_neg h4, if_pos h5]) (by rw [e2, JM_step_42, if_neg h5.1, show fM_in v 0 16 = _ from in_m (n := 16) (by decide) v, Option.bind_some, if_pos h5.2, if_pos rfl, b0])
          · have e3 : fM_step M x y z u v = JM_step_62 M x y z u v 1 := by
              rw [e2, JM_step_42]
              by_cases x0 : x = 0
              · rw [if_pos x0]
              · rw [if_neg x0, show fM_in v 0 16 = _ from in_m (n := 16) (by decide) v, Option.bind_some, if_neg (fun w => h5 ⟨x0, w⟩), if_neg n0]
            have es : spStep ps x y z u v = if ps.length = 16 then (-104, ps) else (nI ps.length, ps ++ [(x.toNatClampNeg, y.toNatClampNeg, z.toNatClampNeg, (if x = 2 then 0 else u.toNatClampNeg), (if x = 0 then 0 else v.toNatClampNeg))]) := by
              rw [spStep, if_neg h1, if_neg h2, if_neg h3, if_neg h4, if_neg h5]
            obtain ⟨a, ha, ea⟩ := nI_of (fun w => h1 (Or.inl w))
            obtain ⟨b, hb, eb⟩ := nI_of (fun w => h2 (Or.inl w))
            obtain ⟨c, hc, ec⟩ := nI_of (fun w => h3 (Or.inl w))
            have la : ¬ 2 < x.toNatClampNeg := fun w => h1 (Or.inr w)
            have lb : ¬ 3 < y.toNatClampNeg := fun w => h2 (Or.inr w)
            have lc : ¬ 3 < z.toNatClampNeg := fun w => h3 (Or.inr w)
            have nx : x = nI x.toNatClampNeg := by rw [ea, nI_clamp ha]
            have ny : y = nI y.toNatClampNeg := by rw [eb, nI_clamp hb]
            have nz : z = nI z.toNatClampNeg := by rw [ec, nI_clamp hc]
            have hx2 : x.toNatClampNeg = 2 ↔ x = 2 := ⟨fun w => by rw [nx, w]; rfl, fun w => by rw [w]; rfl⟩
            have hx0 : x.toNatClampNeg = 0 ↔ x = 0 := ⟨fun w => by rw [nx, w]; rfl, fun w => by rw [w]; rfl⟩
            have nu : ¬ x = 2 → u = nI u.toNatClampNeg ∧ u.toNatClampNeg ≤ 3 := fun w => by
              have hu : ¬ (u < 0 ∨ 3 < u.toNatClampNeg) := fun q => h4 ⟨w, q⟩
              obtain ⟨d, hd, ed⟩ := nI_of (fun q => hu (Or.inl q))
              exact ⟨by rw [ed, nI_clamp hd], Nat.not_lt.mp (fun q => hu (Or.inr q))⟩
            have nv : ¬ x = 0 → v = nI v.toNatClampNeg ∧ v.toNatClampNeg ≤ 16 := fun w => by
              have hu : ¬ (v < 0 ∨ 16 < v.toNatClampNeg) := fun q => h5 ⟨w, q⟩
              obtain ⟨d, hd, ed⟩ := nI_of (fun q => hu (Or.inl q))
              exact ⟨by rw [ed, nI_clamp hd], Nat.not_lt.mp (fun q => hu (Or.inr q))⟩
            obtain ⟨M', a1, a2, a3, a4⟩ := uM_step62 (p := (x.toNatClampNeg, y.toNatClampNeg, z.toNatClampNeg, (if x = 2 then 0 else u.toNatClampNeg), (if x = 0 then 0 else v.toNatClampNeg))) ht nx ny nz (fun w => by
              have w : ¬ x = 2 := fun q => w (hx2.mpr q)
              show u = nI (if x = 2 then 0 else u.toNatClampNeg)
              rw [if_neg w]; exact (nu w).1) (fun w => by
              have w : ¬ x = 0 := fun q => w (hx0.mpr q)
              show v = nI (if x = 0 then 0 else v.toNatClampNeg)
              rw [if_neg w]; exact (nv w).1)
            rw [e3, es]
            by_cases e16 : ps.length = 16
            · rw [if_pos e16] at a1 a3 a4 ⊢
              exact ⟨M', a1, a2, a3, hG, a4⟩
            · rw [if_neg e16] at a1 a3 a4 ⊢
              refine ⟨M', a1, a2, a3, ⟨a3.2.1, fun p hp => ?_⟩, a4⟩
              rcases List.mem_append.mp hp with w | w
              · exact hG.2 p w
              · rw [List.mem_singleton.mp w]
                refine ⟨by show x.toNatClampNeg ≤ 2; omega, by show y.toNatClampNeg < 4; omega, by show z.toNatClampNeg < 4; omega, ?_, ?_⟩
                · show (if x = 2 then 0 else u.toNatClampNeg) < 4
                  by_cases q : x = 2
                  · rw [if_pos q]; decide
                  · rw [if_neg q]; have := (nu q).2; omega
                · show (if x = 0 then 0 else v.toNatClampNeg) ≤ 16
                  by_cases q : x = 0
                  · rw [if_pos q]; decide
                  · rw [if_neg q]; exact (nv q).2
theorem pM_isFieldI (hA : okA A) (hS : shM M A) {k : Nat} (hk : k < shK A) (x : Int32) : fM_isField M (nI k) x = some (if x < 0 ∨ shC A k ≤ x.toNatClampNeg then 0 else 1) := by
  have hK := hA.1
  have hC := hA.2.2.2.2.1 k (by omega)
  rw [fM_isField, if_pos (inb_nI (by omega) (by decide)), nI_clamp (by omega), hS.2.2.2.1 k hk, in_n (by omega), Option.bind_some]
  by_cases e : x < 0 ∨ shC A k ≤ x.toNatClampNeg
  · rw [if_pos e]; exact if_pos (show (0 : Int32) &&& 1 = 0 by decide)
  · rw [if_neg e]; exact if_pos (show (1 : Int32) &&& 1 = 1 by decide)
theorem u98_0 (x1 x2 x3 x4 a1 : Int32) : JM_rule_98 M x1 x2 x3 x4 a1 0 = some (-102, M) := by
  have b0 : JM_rule_174 M x1 x2 x3 x4 0 = some (-102, M) := by rw [JM_rule_174, if_pos rfl]
  have b1 : JM_rule_141 M x1 x2 x3 x4 0 () = some (-102, M) := by
    rw [JM_rule_141, JM_rule_151, if_pos rfl, b0]
    split
    · rfl
    · split <;> rfl
  rw [JM_rule_98, b1, if_pos rfl, b0]
  split
  · rfl
  · split <;> rfl
theorem u174 (x1 x2 x3 x4 : Int32) : JM_rule_174 M x1 x2 x3 x4 1 = JM_rule_182 M x1 x2 x3 x4 () := by rw [JM_rule_174, if_neg (show ¬ (1 : Int32) = 0 by decide)]
theorem u174_0 (x1 x2 x3 x4 : Int32) : JM_rule_174 M x1 x2 x3 x4 0 = some (-102, M) := by rw [JM_rule_174, if_pos rfl]
/-- behind the first tests -/
theorem uM_rule98 (hA : okA A) (hS : shM M A) {s k f : Nat} {g : Int32} {nm : Bool} (hs : s ≤ 5) (hk : k < shK A) (hg : ¬ s = 0 → nm = false → ¬ (g < 0 ∨ shC A k ≤ g.toNatClampNeg)) (hn : nm = true → s = 1 ∨ s = 2) : JM_rule_98 M (nI s) (nI k) (nI f) g (bI nm) 1 = if ((s = 1 ∨ s = 2 ∨ s = 3) ∧ ¬ nm = true ∧ ¬ shT A k g.toNatClampNeg < 4) ∨ ((s = 4 ∨ s = 5) ∧ shT A k g.toNatClampNeg < 4) then some (-102, M) else JM_rule_182 M (nI s) (nI k) (nI f) g () := by
  have n0 : ¬ (1 : Int32) = 0 := by decide
  rw [JM_rule_98]
  by_cases h0 : s = 0
  · subst h0
    rw [if_pos (show nI 0 < 1 by decide), JM_rule_141, if_neg (show ¬ nI 0 = 4 by decide), if_neg (show ¬ nI 0 = 5 by decide), u174, if_neg (by omega)]
  · rw [if_neg (show ¬ nI s < 1 from nI_nlt (b := 1) (by omega) (by omega))]
    by_cases h3 : s ≤ 3
    · rw [if_neg (show ¬ (3 : Int32) < nI s from nI_nlt (a := 3) h3 (by decide)), if_neg n0]
      cases nm with
      | true =>
        rw [if_neg (show ¬ bI true = 0 by decide), u174, if_neg (fun w => by rcases w with w | w; exact w.2.1 rfl; omega)]
      | false =>
        have hg' := hg h0 rfl
        obtain ⟨γ, hγ, rfl⟩ := nI_of (fun w => hg' (Or.inl w))
        rw [nI_clamp hγ] at hg' ⊢
        rw [if_pos (show bI false = 0 from rfl), show fM_isSort M (nI k) (nI γ) 0 = _ from pM_isSort (s := 0) hA hS hk (by omega) (by decide), Option.bind_some]
        by_cases t4 : shT A k γ < 4
        · rw [if_pos (show ((0 : Nat) = 0 ↔ shT A k γ < 4) from ⟨fun _ => t4, fun _ => rfl⟩), if_neg n0, u174, if_neg (fun w => by rcases w with w | w; exact w.2.2 t4; omega)]
        · rw [if_neg (show ¬ ((0 : Nat) = 0 ↔ shT A k γ < 4) from fun w => t4 (w.mp rfl)), if_pos rfl, u174_0, if_pos (Or.inl ⟨by omega, by decide, t4⟩)]
    · have hnm : nm = false := by
        cases nm with
        | true => have := hn rfl; omega
        | false => rfl
      subst hnm
      have hg' := hg h0 rfl
      obtain ⟨γ, hγ, rfl⟩ := nI_of (fun w => hg' (Or.inl w))
      rw [nI_clamp hγ] at hg' ⊢
      have e151 : JM_rule_141 M (nI s) (nI k) (nI f) (nI γ) 1 () = JM_rule_151 M (nI s) (nI k) (nI f) (nI γ) 1 () := by
        rw [JM_rule_141]
        by_cases s4 : s = 4
        · rw [if_pos (show nI s = 4 by rw [s4]; rfl)]
        · rw [if_neg (show ¬ nI s = 4 from fun w => s4 ((nI_eq (b := 4) (by omega) (by decide)).mp w)), if_pos (show nI s = 5 by rw [show s = 5 by omega]; rfl)]
      rw [if_pos (show (3 : Int32) < nI s from nI_lt (a := 3) (by omega) (by omega)), e151, JM_rule_151, if_neg n0, show fM_isSort M (nI k) (nI γ) 1 = _ from pM_isSort (s := 1) hA hS hk (by omega) (by decide), Option.bind_some]
      by_cases t4 : shT A k γ < 4
      · rw [if_neg (show ¬ ((1 : Nat) = 0 ↔ shT A k γ < 4) from fun w => by have := w.mpr t4; omega), if_pos rfl, u174_0, if_pos (Or.inr ⟨by omega, t4⟩)]
      · rw [if_pos (show ((1 : Nat) = 0 ↔ shT A k γ < 4) from ⟨fun w => by omega, fun w => absurd w t4⟩), if_neg n0, u174, if_neg (fun w => by rcases w with w | w; omega; exact t4 w.2)]
theorem pM_rule (hV : okV A) (hS : shM M A) (hr : rsM M qs) (hQ : ∀ q ∈ qs, okQ A q) (s k f g : Int32) : ∃ M', fM_rule M s k f g = some ((spRule A qs s k f g).1, M') ∧ frM [8, 21, 28] [6, 7, 8, 9] M M' ∧ rsM M' (spRule A qs s k f g).2 ∧ (∀ q ∈ (spRule A qs s k f g).2, okQ A q) ∧ chg M M' ((spRule A qs s k f g).2 = qs) := by
  have hA := hV.1
  have hK := hA.1
  have n0 : ¬ (1 : Int32) = 0 := by decide
  have stay : ∀ (w : Int32), spRule A qs s k f g = (w, qs) → fM_rule M s k f g = some (w, M) → ∃ M', fM_rule M s k f g = some ((spRule A qs s k f g).1, M') ∧ frM [8, 21, 28] [6, 7, 8, 9] M M' ∧ rsM M' (spRule A qs s k f g).2 ∧ (∀ q ∈ (spRule A qs s k f g).2, okQ A q) ∧ chg M M' ((spRule A qs s k f g).2 = qs) := by
    intro w e1 e2
    rw [e1]
    exact ⟨M, e2, frM_r _ _ _, hr, hQ, Or.inl ⟨rfl, rfl⟩⟩
  by_cases s6 : s = 6
  · have e1 : fM_rule M s k f g = JM_rule_182 M s k f g () := by
      rw [fM_rule, if_neg (by rw [s6]; decide), if_neg (by rw [s6]; decide), JM_rule_21, if_pos s6]
    obtain ⟨M', a1, a2, a3, a4⟩ := uM_rule182 (q := (6, 0, 0, 0)) (x1 := s) (x2 := k) (x3 := f) (x4 := g) hr (by rw [s6]; rfl) (fun w => absurd rfl w)
    rw [e1, spRule, if_pos s6]
    by_cases e6 : qs.length = 6
    · rw [if_pos e6] at a1 a3 a4 ⊢
      exact ⟨M', a1, a2, a3, hQ, a4⟩
    · rw [if_neg e6] at a1 a3 a4 ⊢
      refine ⟨M', a1, a2, a3, fun q hq => ?_, a4⟩
      rcases List.mem_append.mp hq with w | w
      · exact hQ q w
      · rw [List.mem_singleton.mp w]; exact Or.inl rfl
  · obtain ⟨nm, hnm⟩ : ∃ nm : Bool, nm = true ↔ ((s = 1 ∨ s = 2) ∧ g = -1) := ⟨decide ((s = 1 ∨ s = 2) ∧ g = -1), decide_eq_true_iff⟩
    have e1 : fM_rule M s k f g = JM_rule_21 M s k f g (bI nm) := by
      rw [fM_rule, JM_rule_10]
      by_cases g1 : g = -1
      · rw [if_pos g1]
        by_cases s1 : s = 1
        · rw [if_pos s1, hnm.mpr ⟨Or.inl s1, g1⟩]; rfl
        · rw [if_neg s1]
          by_cases s2 : s = 2
          · rw [if_pos s2, hnm.mpr ⟨Or.inr s2, g1⟩]; rfl
          · rw [if_neg s2]
            have : nm = false := Bool.eq_false_iff.mpr (fun w => by rcases (hnm.mp w).1 with q | q; exact s1 q; exact s2 q)
            rw [this]; rfl
      · have : nm = false := Bool.eq_false_iff.mpr (fun w => g1 (hnm.mp w).2)
        rw [if_neg g1, this]
        split
        · rfl
        · split <;> rfl
    by_cases h1 : k < 0 ∨ shK A ≤ k.toNatClampNeg
    · exact stay (-101) (by rw [spRule, if_neg s6, if_pos h1]) (by rw [e1, JM_rule_21, if_neg s6, hS.1, in_n (by omega), Option.bind_some, if_pos h1, if_pos rfl])
    · obtain ⟨κ, hκ, rfl⟩ := nI_of (fun w => h1 (Or.inl w))
      have h1' := h1
      rw [nI_clamp hκ] at h1'
      have hκK : κ < shK A := by omega
      by_cases h2 : f < 0 ∨ shC A (nI κ).toNatClampNeg ≤ f.toNatClampNeg
      · refine stay (-101) (by rw [spRule, if_neg s6, if_neg h1, if_pos h2]) ?_
        have h2' := h2
        rw [nI_clamp hκ] at h2'
        rw [e1, JM_rule_21, if_neg s6, hS.1, in_n (by omega), Option.bind_some, if_neg h1, if_neg n0, pM_isFieldI hA hS hκK, Option.bind_some, if_pos h2', if_pos rfl]
      · have h2' := h2
        rw [nI_clamp hκ] at h2'
        have e2 : fM_rule M s (nI κ) f g = if s = 0 then JM_rule_74 M s (nI κ) f g (bI nm) () else if bI nm = 0 then (fM_isField M (nI κ) g).bind (fun r20 => if r20 = 0 then some (-101, M) else JM_rule_74 M s (nI κ) f g (bI nm) ()) else JM_rule_74 M s (nI κ) f g (bI nm) () := by
          rw [e1, JM_rule_21, if_neg s6, hS.1, in_n (by omega), Option.bind_some, if_neg h1, if_neg n0, pM_isFieldI hA hS hκK, Option.bind_some, if_neg h2', if_neg n0]
        by_cases h3 : ¬ s = 0 ∧ ¬ ((s = 1 ∨ s = 2) ∧ g = -1) ∧ (g < 0 ∨ shC A (nI κ).toNatClampNeg ≤ g.toNatClampNeg)
        · refine stay (-101) (by rw [spRule, if_neg s6, if_neg h1, if_neg h2, if_pos h3]) ?_
          have h3' := h3
          rw [nI_clamp hκ] at h3'
          have : nm = false := Bool.eq_false_iff.mpr (fun w => h3.2.1 (hnm.mp w))
          rw [e2, if_neg h3.1, this, if_pos (show bI false = 0 from rfl), pM_isFieldI hA hS hκK, Option.bind_some, if_pos h3'.2.2, if_pos rfl]
        · have hg : ¬ s = 0 → nm = false → ¬ (g < 0 ∨ shC A κ ≤ g.toNatClampNeg) := fun w1 w2 w3 => h3 ⟨w1, ⟨fun q => (by have w4 := hnm.mpr q; rw [w2] at w4; cases w4), by rw [nI_clamp hκ]; exact w3⟩⟩
          have e3 : fM_rule M s (nI κ) f g = JM_rule_74 M s (nI κ) f g (bI nm) () := by
            rw [e2]
            by_cases s0 : s = 0
            · rw [if_pos s0]
            · rw [if_neg s0]
              cases enm : nm with
              | true => rw [if_neg (show ¬ bI true = 0 by decide)]
              | false =>
                rw [if_pos (show bI false = 0 from rfl), pM_isFieldI hA hS hκK, Option.bind_some, if_neg (hg s0 enm), if_neg n0]
          by_cases h4 : s < 0 ∨ 5 < s.toNatClampNeg
          · refine stay (-102) (by rw [spRule, if_neg s6, if_neg h1, if_neg h2, if_neg h3, if_pos h4]) ?_
            rw [e3, JM_rule_74, show fM_in s 0 5 = _ from in_m (n := 5) (by decide) s, Option.bind_some, if_pos h4, if_pos rfl, u98_0]
          · obtain ⟨σ, hσ, rfl⟩ := nI_of (fun w => h4 (Or.inl w))
            obtain ⟨φ, hφ, rfl⟩ := nI_of (fun w => h2 (Or.inl w))
            have h4' := h4
            rw [nI_clamp hσ] at h4'
            rw [nI_clamp hφ] at h2'
            have hσ5 : σ ≤ 5 := by omega
            have hφC : φ < shC A κ := by omega
            have e4 : fM_rule M (nI σ) (nI κ) (nI φ) g = if shT A κ φ < 4 then JM_rule_98 M (nI σ) (nI κ) (nI φ) g (bI nm) 1 else some (-102, M) := by
              rw [e3, JM_rule_74, show fM_in (nI σ) 0 5 = _ from in_m (n := 5) (by decide) (nI σ), Option.bind_some, if_neg h4, if_neg n0, show fM_isSort M (nI κ) (nI φ) 0 = _ from pM_isSort (s := 0) hA hS hκK hφC (by decide), Option.bind_some]
              by_cases t4 : shT A κ φ < 4
              · rw [if_pos (show ((0 : Nat) = 0 ↔ shT A κ φ < 4) from ⟨fun _ => t4, fun _ => rfl⟩), if_neg n0, if_pos t4]
              · rw [if_neg (show ¬ ((0 : Nat) = 0 ↔ shT A κ φ < 4) from fun w => t4 (w.mp rfl)), if_pos rfl, if_neg t4, u98_0]
            by_cases h5 : ¬ shT A (nI κ).toNatClampNeg (nI φ).toNatClampNeg < 4
            · refine stay (-102) (by rw [spRule, if_neg s6, if_neg h1, if_neg h2, if_neg h3, if_neg h4, if_pos h5]) ?_
              rw [nI_clamp hκ, nI_clamp hφ] at h5
              rw [e4, if_neg h5]
            · have h5' := h5
              rw [nI_clamp hκ, nI_clamp hφ] at h5'
              have t4 : shT A κ φ < 4 := Decidable.not_not.mp h5'
              have eq1 : ∀ n : Nat, n < 2 ^ 31 → (nI σ = nI n ↔ σ = n) := fun n hn => nI_eq hσ hn
              have q1 : nI σ = 1 ↔ σ = 1 := eq1 1 (by decide)
              have q2 : nI σ = 2 ↔ σ = 2 := eq1 2 (by decide)
              have q3 : nI σ = 3 ↔ σ = 3 := eq1 3 (by decide)
              have q4 : nI σ = 4 ↔ σ = 4 := eq1 4 (by decide)
              have q5 : nI σ = 5 ↔ σ = 5 := eq1 5 (by decide)
              have q00 : nI σ = 0 ↔ σ = 0 := eq1 0 (by decide)
              rw [if_pos t4, uM_rule98 hA hS hσ5 hκK (fun w => hg (fun q => w (q00.mp q))) (fun w => by rcases (hnm.mp w).1 with q | q; exact Or.inl (q1.mp q); exact Or.inr (q2.mp q))] at e4
              by_cases h6 : ((σ = 1 ∨ σ = 2 ∨ σ = 3) ∧ ¬ nm = true ∧ ¬ shT A κ g.toNatClampNeg < 4) ∨ ((σ = 4 ∨ σ = 5) ∧ shT A κ g.toNatClampNeg < 4)
              · rw [if_pos h6] at e4
                refine stay (-102) ?_ e4
                rw [spRule, if_neg s6, if_neg h1, if_neg h2, if_neg h3, if_neg h4, if_neg h5, nI_clamp hκ]
                rcases h6 with ⟨w1, w2, w3⟩ | w
                · rw [if_pos ⟨by rcases w1 with z | z | z; exact Or.inl (q1.mpr z); exact Or.inr (Or.inl (q2.mpr z)); exact Or.inr (Or.inr (q3.mpr z)), ⟨fun q => w2 (hnm.mpr q), w3⟩⟩]
                · by_cases z : (nI σ = 1 ∨ nI σ = 2 ∨ nI σ = 3) ∧ ¬ ((nI σ = 1 ∨ nI σ = 2) ∧ g = -1) ∧ ¬ shT A κ g.toNatClampNeg < 4
                  · rw [if_pos z]
                  · rw [if_neg z, if_pos ⟨by rcases w.1 with z | z; exact Or.inl (q4.mpr z); exact Or.inr (q5.mpr z), w.2⟩]
              · rw [if_neg h6] at e4
                have es : spRule A qs (nI σ) (nI κ) (nI φ) g = if qs.length = 6 then (-104, qs) else (nI qs.length, qs ++ [(σ, κ, φ, if nI σ = 0 ∨ g = -1 then 0 else g.toNatClampNeg + 1)]) := by
                  rw [spRule, if_neg s6, if_neg h1, if_neg h2, if_neg h3, if_neg h4, if_neg h5, nI_clamp hκ, nI_clamp hφ, nI_clamp hσ]
                  rw [if_neg (fun w => h6 (Or.inl ⟨by rcases w.1 with z | z | z; exact Or.inl (q1.mp z); exact Or.inr (Or.inl (q2.mp z)); exact Or.inr (Or.inr (q3.mp z)), fun z => w.2.1 (hnm.mp z), w.2.2⟩)), if_neg (fun w => h6 (Or.inr ⟨by rcases w.1 with z | z; exact Or.inl (q4.mp z); exact Or.inr (q5.mp z), w.2⟩))]
                have hgN : ¬ σ = 0 → ¬ g = -1 → ¬ (g < 0 ∨ shC A κ ≤ g.toNatClampNeg) := fun w1 w2 => hg (fun z => w1 (q00.mp z)) (Bool.eq_false_iff.mpr (fun z => w2 (hnm.mp z).2))
                have hgM : ¬ σ = 0 → g = -1 → σ = 1 ∨ σ = 2 := fun w1 w2 => by
                  cases en : nm with
                  | true => rcases (hnm.mp en).1 with z | z; exact Or.inl (q1.mp z); exact Or.inr (q2.mp z)
                  | false => exact absurd (Or.inl (by rw [w2]; decide)) (hg (fun z => w1 (q00.mp z)) en)
                obtain ⟨M', a1, a2, a3, a4⟩ := uM_rule182 (q := (σ, κ, φ, if nI σ = 0 ∨ g = -1 then 0 else g.toNatClampNeg + 1)) (x1 := nI σ) (x2 := nI κ) (x3 := nI φ) (x4 := g) hr rfl (fun _ => ⟨rfl, rfl, fun w => by
                  have w : ¬ σ = 0 := w
                  show g = nI (if nI σ = 0 ∨ g = -1 then 0 else g.toNatClampNeg + 1) - 1
                  by_cases g1 : g = -1
                  · rw [if_pos (Or.inr g1)]; exact g1
                  · rw [if_neg (fun z => by rcases z with z | z; exact w (q00.mp z); exact g1 z), nI_pred]
                    obtain ⟨γ, hγ, rfl⟩ := nI_of (fun z => hgN w g1 (Or.inl z))
                    rw [nI_clamp hγ]⟩)
                rw [e4, es]
                by_cases e6 : qs.length = 6
                · rw [if_pos e6] at a1 a3 a4 ⊢
                  exact ⟨M', a1, a2, a3, hQ, a4⟩
                · rw [if_neg e6] at a1 a3 a4 ⊢
                  refine ⟨M', a1, a2, a3, fun q hq => ?_, a4⟩
                  rcases List.mem_append.mp hq with w | w
                  · exact hQ q w
                  · rw [List.mem_singleton.mp w]
                    refine Or.inr ⟨hκK, hφC, t4, ?_⟩
                    show σ = 0 ∨ ((σ = 1 ∨ σ = 2) ∧ ((if nI σ = 0 ∨ g = -1 then 0 else g.toNatClampNeg + 1) = 0 ∨ (0 < (if nI σ = 0 ∨ g = -1 then 0 else g.toNatClampNeg + 1) ∧ (if nI σ = 0 ∨ g = -1 then 0 else g.toNatClampNeg + 1) - 1 < shC A κ ∧ shT A κ ((if nI σ = 0 ∨ g = -1 then 0 else g.toNatClampNeg + 1) - 1) < 4))) ∨ (σ = 3 ∧ 0 < (if nI σ = 0 ∨ g = -1 then 0 else g.toNatClampNeg + 1) ∧ (if nI σ = 0 ∨ g = -1 then 0 else g.toNatClampNeg + 1) - 1 < shC A κ ∧ shT A κ ((if nI σ = 0 ∨ g = -1 then 0 else g.toNatClampNeg + 1) - 1) < 4) ∨ ((σ = 4 ∨ σ = 5) ∧ 0 < (if nI σ = 0 ∨ g = -1 then 0 else g.toNatClampNeg + 1) ∧ (if nI σ = 0 ∨ g = -1 then 0 else g.toNatClampNeg + 1) - 1 < shC A κ ∧ ¬ shT A κ ((if nI σ = 0 ∨ g = -1 then 0 else g.toNatClampNeg + 1) - 1) < 4)
                    by_cases s0 : σ = 0
                    · exact Or.inl s0
                    · right
                      by_cases g1 : g = -1
                      · have := hgM s0 g1
                        rw [if_pos (Or.inr g1)]
                        exact Or.inl ⟨this, Or.inl rfl⟩
                      · have hgf := hgN s0 g1
                        have hlt : g.toNatClampNeg < shC A κ := Nat.not_le.mp (fun z => hgf (Or.inr z))
                        have hnn : ¬ nm = true := fun z => g1 (hnm.mp z).2
                        rw [if_neg (fun z => by rcases z with z | z; exact s0 (q00.mp z); exact g1 z), show g.toNatClampNeg + 1 - 1 = g.toNatClampNeg from rfl]
                        by_cases tg : shT A κ g.toNatClampNeg < 4
                        · have : ¬ (σ = 4 ∨ σ = 5) := fun z => h6 (Or.inr ⟨z, tg⟩)
                          by_cases s3 : σ = 3
                          · exact Or.inr (Or.inl ⟨s3, by omega, hlt, tg⟩)
                          · exact Or.inl ⟨by omega, Or.inr ⟨by omega, hlt, tg⟩⟩
                        · have : ¬ (σ = 1 ∨ σ = 2 ∨ σ = 3) := fun z => h6 (Or.inl ⟨z, hnn, tg⟩)
                          exact Or.inr (Or.inr ⟨by omega, by omega, hlt, tg⟩)
end MSET3
