/-! ===== L3: the class: rule, step ===== -/
theorem cl_nI {x : Int32} (h : ¬ x < 0) : nI x.toNatClampNeg = x := by
  obtain ⟨n, hn, rfl⟩ := nI_of h
  rw [nI_clamp hn]
theorem cl_31 {x : Int32} (h : ¬ x < 0) : x.toNatClampNeg < 2 ^ 31 := by
  obtain ⟨n, hn, rfl⟩ := nI_of h
  rw [nI_clamp hn]
  exact hn
theorem gt_c {x : Int32} (h : ¬ x < 0) {c : Nat} (hc : c < 2 ^ 31) : nI c < x ↔ c < x.toNatClampNeg := by
  obtain ⟨n, hn, rfl⟩ := nI_of h
  rw [nI_clamp hn]
  exact nI_ltI hc hn
theorem le_c {x : Int32} (h : ¬ x < 0) {c : Nat} (hc : c < 2 ^ 31) : x ≤ nI c ↔ x.toNatClampNeg ≤ c := by
  obtain ⟨n, hn, rfl⟩ := nI_of h
  rw [nI_clamp hn]
  exact nI_leI hn hc
theorem xPr_in {P : rr_T} {B i c : Nat} {fs : Nat → Int32} (hc : c < 16) : (xPr P B i fs).1 (16 * (B + i) + c) = fs c := by
  show (if 16 * (B + i) ≤ 16 * (B + i) + c ∧ 16 * (B + i) + c < 16 * (B + i) + 16 then fs (16 * (B + i) + c - 16 * (B + i)) else P.1 (16 * (B + i) + c)) = fs c
  rw [if_pos ⟨by omega, by omega⟩, Nat.add_sub_cancel_left]
theorem xPr_out {P : rr_T} {B i k : Nat} {fs : Nat → Int32} (h : k < 16 * (B + i) ∨ 16 * (B + i) + 16 ≤ k) : (xPr P B i fs).1 k = P.1 k := by
  show (if 16 * (B + i) ≤ k ∧ k < 16 * (B + i) + 16 then fs (k - 16 * (B + i)) else P.1 k) = P.1 k
  rw [if_neg (by omega)]
theorem xPr_l {P : rr_T} {B i : Nat} {fs : Nat → Int32} : (xPr P B i fs).2.2.2 B = max (P.2.2.2 B) (i + 1) := by simp [xPr, va_up]
theorem xPr_m {P : rr_T} {B i m : Nat} {fs : Nat → Int32} (h : m ≠ B) : (xPr P B i fs).2.2.2 m = P.2.2.2 m := by simp [xPr, va_up, h]
section XSET2
variable {A : Sh} {Z S : rr_T} {qs : List Ru} {ps : List Sp}
theorem uX_r36 {q : Ru} {x1 x2 x3 x4 : Int32} {u v : Nat} (hr : rsX Z S qs) (h1 : x1 = nI q.1) (b1 : q.1 < 2 ^ 31) (h2 : ¬ q.1 = 6 → x2 = nI q.2.1 ∧ x3 = nI q.2.2.1 ∧ q.2.2.1 + 1 < 2 ^ 31 ∧ (¬ q.1 = 0 → x4 = nI q.2.2.2 - 1 ∧ q.2.2.2 < 2 ^ 31)) : ∃ Z' S', JX10_rule_36 Z S x1 x2 x3 x4 u v () = some ((if qs.length = 6 then -104 else nI qs.length), Z', S', u + 1, v + 4) ∧ frX [97] [] S S' ∧ rsX Z' S' (if qs.length = 6 then qs else qs ++ [q]) ∧ ∀ ps, tpX Z S ps → tpX Z' S' ps := by
  obtain ⟨g, hg, hg2⟩ : ∃ g, fRi x1 x3 x4 = some g ∧ (¬ q.1 = 6 → ¬ q.1 = 0 → g = nI (gn q) - 1) := by
    rw [fRi]
    by_cases e : x4 = x3
    · rw [if_pos e]
      by_cases e1 : x1 = 1
      · rw [if_pos e1]
        refine ⟨_, rfl, fun w1 w2 => ?_⟩
        obtain ⟨k2, k3, k4, k5⟩ := h2 w1
        obtain ⟨k6, k7⟩ := k5 w2
        have q1 : q.1 = 1 := (nI_eq (b := 1) b1 (by decide)).mp (by rw [← h1]; exact e1)
        rw [gn, if_pos ⟨Or.inl q1, (m1_eqN k7 k4).mp (by rw [← k6, ← k3]; exact e)⟩]
        rfl
      · rw [if_neg e1]
        by_cases e2 : x1 = 2
        · rw [if_pos e2]
          refine ⟨_, rfl, fun w1 w2 => ?_⟩
          obtain ⟨k2, k3, k4, k5⟩ := h2 w1
          obtain ⟨k6, k7⟩ := k5 w2
          have q1 : q.1 = 2 := (nI_eq (b := 2) b1 (by decide)).mp (by rw [← h1]; exact e2)
          rw [gn, if_pos ⟨Or.inr q1, (m1_eqN k7 k4).mp (by rw [← k6, ← k3]; exact e)⟩]
          rfl
        · rw [if_neg e2]
          refine ⟨_, rfl, fun w1 w2 => ?_⟩
          rw [gn, if_neg (fun w => by rcases w.1 with w | w; exact e1 (by rw [h1, w]; rfl); exact e2 (by rw [h1, w]; rfl))]
          exact ((h2 w1).2.2.2 w2).1
    · rw [if_neg e]
      refine ⟨_, rfl, fun w1 w2 => ?_⟩
      obtain ⟨k2, k3, k4, k5⟩ := h2 w1
      obtain ⟨k6, k7⟩ := k5 w2
      rw [gn, if_neg (fun w => e (by rw [k6, k3]; exact (m1_eqN k7 k4).mpr w.2))]
      exact k6
  obtain ⟨r1, r2, r3, r4, r5⟩ := hr
  rw [JX10_rule_36, hg, Option.bind_some, fX7_add, r1]
  by_cases e6 : qs.length = 6
  · rw [if_neg (show ¬ nI qs.length < 6 by rw [e6]; decide), if_pos e6, if_pos e6, Option.bind_some]
    exact ⟨Z, S, rfl, frX_r _ _ _, ⟨r1, r2, r3, r4, r5⟩, fun _ h => h⟩
  · rw [if_pos (show nI qs.length < 6 from nI_lt (b := 6) (by omega) (by decide)), if_pos (show (inb (nI qs.length) 6 && decide ((nI qs.length).toNatClampNeg ≤ Z.2.2.2 34)) = true by rw [inb_nI (by omega) (by decide), nI_clamp (by omega), decide_eq_true r3]; rfl), Option.bind_some, if_neg e6, if_neg e6, nI_1, nI_pred, nI_clamp (by omega)]
    have hlen : (qs ++ [q]).length = qs.length + 1 := by rw [List.length_append, List.length_singleton]
    have f1 : frX [97] [] S (pI S 97 (nI (qs.length + 1))) := frX_pI (frX_r _ _ _) (by simp)
    refine ⟨_, _, rfl, f1, ⟨by rw [pI_s, hlen], by rw [hlen]; omega, by rw [hlen, xPr_l]; omega, by rw [xPr_l]; omega, fun i hi => ?_⟩, fun ps ht => ?_⟩
    · rw [hlen] at hi
      by_cases e : i = qs.length
      · rw [e, gD_e]
        refine ⟨by rw [h1.symm]; exact xPr_in (c := 0) (by decide), fun w => ?_⟩
        obtain ⟨k2, k3, k4, k5⟩ := h2 w
        exact ⟨by rw [← k2]; exact xPr_in (c := 1) (by decide), by rw [← k3]; exact xPr_in (c := 2) (by decide), fun w2 => by rw [← hg2 w w2]; exact xPr_in (c := 3) (by decide)⟩
      · rw [gD_l (by omega)]
        obtain ⟨m1, m2⟩ := r5 i (by omega)
        refine ⟨by rw [xPr_out (by omega)]; exact m1, fun w => ?_⟩
        obtain ⟨m3, m4, m5⟩ := m2 w
        exact ⟨by rw [xPr_out (by omega)]; exact m3, by rw [xPr_out (by omega)]; exact m4, fun w2 => by rw [xPr_out (by omega)]; exact m5 w2⟩
    · obtain ⟨t1, t2, t3, t4, t5⟩ := ht
      refine ⟨by rw [frX_1 f1 (by simp)]; exact t1, t2, by rw [xPr_m (by decide)]; exact t3, by rw [xPr_m (by decide)]; exact t4, fun i hi => ?_⟩
      obtain ⟨m1, m2, m3, m4, m5⟩ := t5 i hi
      exact ⟨by rw [xPr_out (by omega)]; exact m1, by rw [xPr_out (by omega)]; exact m2, by rw [xPr_out (by omega)]; exact m3, fun w => by rw [xPr_out (by omega)]; exact m4 w, fun w => by rw [xPr_out (by omega)]; exact m5 w⟩
theorem pX_hasF (hA : okA A) (hS : shX S A) {k : Nat} (hk : k < shK A) (y : Int32) : (out y (shC A k) → fX8_hasField Z S (nI k) y = some 0) ∧ (¬ out y (shC A k) → fX8_hasField Z S (nI k) y = some 1) := by
  have hK := hA.1
  obtain ⟨t1, t2⟩ := pX_typeOf (P := Z) hA hS hk y
  constructor
  · intro h
    rw [fX8_hasField, t1 h, Option.bind_some, if_pos rfl]
  · intro h
    obtain ⟨f, hf, rfl, hf31⟩ := out_of h
    have hty := hA.2.2.2.2.2.1 k f hk hf
    rw [fX8_hasField, t2 f hf rfl, Option.bind_some, if_neg (nI_m1 (by omega))]
theorem pX_isRf (hA : okA A) (hS : shX S A) {k f : Nat} (hk : k < shK A) (hf : f < shC A k) : fX8_isRef Z S (nI k) (nI f) = some (if shT A k f < 4 then 1 else 0) := by
  have hK := hA.1
  have hty := hA.2.2.2.2.2.1 k f hk hf
  obtain ⟨t1, t2⟩ := pX_typeOf (P := Z) hA hS hk (nI f)
  rw [fX8_isRef, t2 f hf rfl, Option.bind_some, pX_isRefType (by omega), Option.bind_some]
  by_cases e : shT A k f < 4
  · rw [if_pos e]; rfl
  · rw [if_neg e]; rfl
theorem pX_isNb (hA : okA A) (hS : shX S A) {k f : Nat} (hk : k < shK A) (hf : f < shC A k) : fX8_isNumber Z S (nI k) (nI f) = some (if shT A k f < 4 then 0 else 1) := by
  have hK := hA.1
  have hty := hA.2.2.2.2.2.1 k f hk hf
  obtain ⟨t1, t2⟩ := pX_typeOf (P := Z) hA hS hk (nI f)
  rw [fX8_isNumber, t2 f hf rfl, Option.bind_some]
  by_cases e : shT A k f < 4
  · rw [if_pos e, if_pos (show nI (shT A k f) < 4 from nI_lt (b := 4) e (by decide))]
  · rw [if_neg e, if_neg (show ¬ nI (shT A k f) < 4 from nI_nlt (b := 4) (by omega) (by omega))]
theorem pX_rule {u v : Nat} (hV : okV A) (hS : shX S A) (hr : rsX Z S qs) (s k f g : Int32) : ∃ Z' S' u' v', fX10_rule Z S s k f g u v = some ((spRule A qs s k f g).1, Z', S', u', v') ∧ frX [97] [] S S' ∧ rsX Z' S' (spRule A qs s k f g).2 ∧ (∀ ps, tpX Z S ps → tpX Z' S' ps) ∧ u' ≤ u + 1 ∧ v' ≤ v + 4 := by
  have hA := hV.1
  have hK := hA.1
  have n10 : ¬ (1 : Int32) = 0 := by decide
  have stay : ∀ (w : Int32), spRule A qs s k f g = (w, qs) → fX10_rule Z S s k f g u v = some (w, Z, S, u, v) → ∃ Z' S' u' v', fX10_rule Z S s k f g u v = some ((spRule A qs s k f g).1, Z', S', u', v') ∧ frX [97] [] S S' ∧ rsX Z' S' (spRule A qs s k f g).2 ∧ (∀ ps, tpX Z S ps → tpX Z' S' ps) ∧ u' ≤ u + 1 ∧ v' ≤ v + 4 := by
    intro w e1 e2
    rw [e1]
    exact ⟨Z, S, u, v, e2, frX_r _ _ _, hr, fun _ h => h, by omega, by omega⟩
  have add : ∀ (q : Ru), spRule A qs s k f g = (if qs.length = 6 then (-104, qs) else (nI qs.length, qs ++ [q])) → fX10_rule Z S s k f g u v = JX10_rule_36 Z S s k f g u v () → s = nI q.1 → q.1 < 2 ^ 31 → (¬ q.1 = 6 → k = nI q.2.1 ∧ f = nI q.2.2.1 ∧ q.2.2.1 + 1 < 2 ^ 31 ∧ (¬ q.1 = 0 → g = nI q.2.2.2 - 1 ∧ q.2.2.2 < 2 ^ 31)) → ∃ Z' S' u' v', fX10_rule Z S s k f g u v = some ((spRule A qs s k f g).1, Z', S', u', v') ∧ frX [97] [] S S' ∧ rsX Z' S' (spRule A qs s k f g).2 ∧ (∀ ps, tpX Z S ps → tpX Z' S' ps) ∧ u' ≤ u + 1 ∧ v' ≤ v + 4 := by
    intro q e1 e2 e3 e4 e5
    obtain ⟨Z', S', a1, a2, a3, a4⟩ := uX_r36 (u := u) (v := v) hr e3 e4 e5
    rw [e1, e2]
    by_cases e6 : qs.length = 6
    · rw [if_pos e6] at a1 a3 ⊢
      exact ⟨Z', S', u + 1, v + 4, a1, a2, a3, a4, Nat.le_refl _, Nat.le_refl _⟩
    · rw [if_neg e6] at a1 a3 ⊢
      exact ⟨Z', S', u + 1, v + 4, a1, a2, a3, a4, Nat.le_refl _, Nat.le_refl _⟩
  by_cases s6 : s = 6
  · exact add (6, 0, 0, 0) (by rw [spRule, if_pos s6]) (by rw [fX10_rule, if_pos s6]) s6 (by decide) (fun w => absurd rfl w)
  · by_cases h1 : out k (shK A)
    · refine stay (-101) (by rw [spRule, if_neg s6, if_pos (show k < 0 ∨ shK A ≤ k.toNatClampNeg from h1)]) ?_
      rw [fX10_rule, if_neg s6, fX10_namesKnown, fX8_hasField, pX_typeOfO hA hS h1, Option.bind_some, if_pos rfl, Option.bind_some, if_pos rfl, Option.bind_some, if_pos rfl]
    · have h1' : ¬ (k < 0 ∨ shK A ≤ k.toNatClampNeg) := h1
      obtain ⟨κ, hκ, rfl, hκ31⟩ := out_of h1
      have ck : (nI κ).toNatClampNeg = κ := nI_clamp hκ31
      have hC := hA.2.2.2.2.1 κ (by omega)
      obtain ⟨f1, f2⟩ := pX_hasF (Z := Z) hA hS hκ f
      obtain ⟨g1, g2⟩ := pX_hasF (Z := Z) hA hS hκ g
      by_cases h2 : out f (shC A κ)
      · refine stay (-101) (by rw [spRule, if_neg s6, if_neg h1', ck, if_pos (show f < 0 ∨ shC A κ ≤ f.toNatClampNeg from h2)]) ?_
        rw [fX10_rule, if_neg s6, fX10_namesKnown, f1 h2, Option.bind_some, if_pos rfl, Option.bind_some, if_pos rfl]
      · have h2' : ¬ (f < 0 ∨ shC A (nI κ).toNatClampNeg ≤ f.toNatClampNeg) := by rw [ck]; exact h2
        have enk : fX10_namesKnown Z S s (nI κ) f g = if s = 0 ∨ ((s = 1 ∨ s = 2) ∧ g = -1) then some 1 else JX10_namesKnown_39 Z S (nI κ) g 0 := by
          rw [fX10_namesKnown, f2 h2, Option.bind_some, if_neg n10]
          by_cases s0 : s = 0
          · rw [if_pos s0, if_pos (Or.inl s0)]; rfl
          · rw [if_neg s0]
            by_cases gm : g = -1
            · rw [if_pos gm]
              by_cases s1 : s = 1
              · rw [if_pos s1, if_pos (Or.inr ⟨Or.inl s1, gm⟩)]; rfl
              · rw [if_neg s1]
                by_cases s2 : s = 2
                · rw [if_pos s2, if_pos (Or.inr ⟨Or.inr s2, gm⟩)]; rfl
                · rw [if_neg s2, if_neg (fun w => by rcases w with w | ⟨w | w, -⟩; exact s0 w; exact s1 w; exact s2 w)]
            · rw [if_neg gm, if_neg (fun w => by rcases w with w | ⟨-, w⟩; exact s0 w; exact gm w)]
        by_cases h3 : ¬ s = 0 ∧ ¬ ((s = 1 ∨ s = 2) ∧ g = -1) ∧ out g (shC A κ)
        · refine stay (-101) (by rw [spRule, if_neg s6, if_neg h1', if_neg h2', ck, if_pos (show ¬ s = 0 ∧ ¬ ((s = 1 ∨ s = 2) ∧ g = -1) ∧ (g < 0 ∨ shC A κ ≤ g.toNatClampNeg) from h3)]) ?_
          rw [fX10_rule, if_neg s6, enk, if_neg (fun w => by rcases w with w | w; exact h3.1 w; exact h3.2.1 w), JX10_namesKnown_39, if_pos rfl, g1 h3.2.2, Option.bind_some, if_pos rfl, Option.bind_some, if_pos rfl]
        · have h3' : ¬ (¬ s = 0 ∧ ¬ ((s = 1 ∨ s = 2) ∧ g = -1) ∧ (g < 0 ∨ shC A (nI κ).toNatClampNeg ≤ g.toNatClampNeg)) := by rw [ck]; exact h3
          have hg : ¬ s = 0 → ¬ ((s = 1 ∨ s = 2) ∧ g = -1) → ¬ out g (shC A κ) := fun w1 w2 w3 => h3 ⟨w1, w2, w3⟩
          have enk1 : fX10_namesKnown Z S s (nI κ) f g = some 1 := by
            rw [enk]
            by_cases w : s = 0 ∨ ((s = 1 ∨ s = 2) ∧ g = -1)
            · rw [if_pos w]
            · rw [if_neg w, JX10_namesKnown_39, if_pos rfl, g2 (hg (fun z => w (Or.inl z)) (fun z => w (Or.inr z))), Option.bind_some, if_neg n10]
          obtain ⟨φ, hφ, rfl, hφ31⟩ := out_of h2
          have cf : (nI φ).toNatClampNeg = φ := nI_clamp hφ31
          have e1 : fX10_rule Z S s (nI κ) (nI φ) g u v = (fX10_sortsFit Z S s (nI κ) (nI φ) g).bind (fun r3 => if r3 = 0 then some ((-102), Z, S, u, v) else JX10_rule_36 Z S s (nI κ) (nI φ) g u v ()) := by
            rw [fX10_rule, if_neg s6, enk1, Option.bind_some, if_neg n10]
          by_cases hs : s < 0 ∨ 5 < s.toNatClampNeg
          · refine stay (-102) (by rw [spRule, if_neg s6, if_neg h1', if_neg h2', if_neg h3', if_pos hs]) ?_
            have sn : ∀ m : Nat, m ≤ 5 → ¬ s = nI m := fun m hm w => by
              rw [w] at hs
              rcases hs with hs | hs
              · exact nI_pos (by omega) hs
              · rw [nI_clamp (by omega)] at hs; omega
            rw [e1, fX10_sortsFit, pX_isRf hA hS hκ hφ, Option.bind_some]
            by_cases e : shT A κ φ < 4
            · rw [if_pos e, if_neg n10, if_neg (show ¬ s = 0 from sn 0 (by omega)), if_neg (show ¬ s = 1 from sn 1 (by omega)), if_neg (show ¬ s = 2 from sn 2 (by omega)), if_neg (show ¬ s = 3 from sn 3 (by omega)), if_neg (show ¬ s = 4 from sn 4 (by omega)), if_neg (show ¬ s = 5 from sn 5 (by omega)), Option.bind_some, if_pos rfl]
            · rw [if_neg e, if_pos rfl, Option.bind_some, if_pos rfl]
          · have s0' : ¬ s < 0 := fun w => hs (Or.inl w)
            by_cases h5 : shT A κ φ < 4
            · have esf : fX10_sortsFit Z S s (nI κ) (nI φ) g = if s = 0 then some 1 else if s = 1 then JX10_sortsFit_54 Z S (nI κ) g () else if s = 2 then JX10_sortsFit_54 Z S (nI κ) g () else if s = 3 then (fX8_isRef Z S (nI κ) g).bind (fun r6 => if r6 &&& 1 = r6 then some r6 else none) else if s = 4 then JX10_sortsFit_90 Z S (nI κ) g () else if s = 5 then JX10_sortsFit_90 Z S (nI κ) g () else some 0 := by
                rw [fX10_sortsFit, pX_isRf hA hS hκ hφ, Option.bind_some, if_pos h5, if_neg n10]
              have h5' : ¬ ¬ shT A (nI κ).toNatClampNeg (nI φ).toNatClampNeg < 4 := by rw [ck, cf]; exact fun w => w h5
              have hs5 : s.toNatClampNeg ≤ 5 := by omega
              obtain ⟨σ, hσ, rfl⟩ := nI_of s0'
              have cs : (nI σ).toNatClampNeg = σ := nI_clamp hσ
              rw [cs] at hs5
              have sI : ∀ m : Nat, m < 10 → (nI σ = nI m ↔ σ = m) := fun m hm => nI_eq hσ (by omega)
              have w0 : nI σ = 0 ↔ σ = 0 := sI 0 (by omega)
              have w1 : nI σ = 1 ↔ σ = 1 := sI 1 (by omega)
              have w2 : nI σ = 2 ↔ σ = 2 := sI 2 (by omega)
              have w3 : nI σ = 3 ↔ σ = 3 := sI 3 (by omega)
              have w4 : nI σ = 4 ↔ σ = 4 := sI 4 (by omega)
              have w5 : nI σ = 5 ↔ σ = 5 := sI 5 (by omega)
              have good : fX10_sortsFit Z S (nI σ) (nI κ) (nI φ) g = some 1 → ¬ ((nI σ = 1 ∨ nI σ = 2 ∨ nI σ = 3) ∧ ¬ ((nI σ = 1 ∨ nI σ = 2) ∧ g = -1) ∧ ¬ shT A κ g.toNatClampNeg < 4) → ¬ ((nI σ = 4 ∨ nI σ = 5) ∧ shT A κ g.toNatClampNeg < 4) → ∃ Z' S' u' v', fX10_rule Z S (nI σ) (nI κ) (nI φ) g u v = some ((spRule A qs (nI σ) (nI κ) (nI φ) g).1, Z', S', u', v') ∧ frX [97] [] S S' ∧ rsX Z' S' (spRule A qs (nI σ) (nI κ) (nI φ) g).2 ∧ (∀ ps, tpX Z S ps → tpX Z' S' ps) ∧ u' ≤ u + 1 ∧ v' ≤ v + 4 := by
                intro z1 z2 z3
                refine add (σ, κ, φ, if nI σ = 0 ∨ g = -1 then 0 else g.toNatClampNeg + 1) (by rw [spRule, if_neg s6, if_neg h1', if_neg h2', if_neg h3', if_neg hs, if_neg h5', ck, if_neg z2, if_neg z3, cs, cf]) (by rw [e1, z1, Option.bind_some, if_neg n10]) rfl hσ (fun _ => ⟨rfl, rfl, by show φ + 1 < 2 ^ 31; omega, fun n0 => ?_⟩)
                have n0 : ¬ σ = 0 := n0
                show g = nI (if nI σ = 0 ∨ g = -1 then 0 else g.toNatClampNeg + 1) - 1 ∧ (if nI σ = 0 ∨ g = -1 then 0 else g.toNatClampNeg + 1) < 2 ^ 31
                by_cases gm : g = -1
                · rw [if_pos (Or.inr gm), gm]; exact ⟨rfl, by decide⟩
                · rw [if_neg (fun w => by rcases w with w | w; exact n0 (w0.mp w); exact gm w)]
                  have hno := hg (fun w => n0 (w0.mp w)) (fun w => gm w.2)
                  obtain ⟨γ, hγ, rfl, hγ31⟩ := out_of hno
                  rw [nI_clamp hγ31, nI_pred]
                  exact ⟨rfl, by omega⟩
              have bad : fX10_sortsFit Z S (nI σ) (nI κ) (nI φ) g = some 0 → (((nI σ = 1 ∨ nI σ = 2 ∨ nI σ = 3) ∧ ¬ ((nI σ = 1 ∨ nI σ = 2) ∧ g = -1) ∧ ¬ shT A κ g.toNatClampNeg < 4) ∨ ((nI σ = 4 ∨ nI σ = 5) ∧ shT A κ g.toNatClampNeg < 4)) → ∃ Z' S' u' v', fX10_rule Z S (nI σ) (nI κ) (nI φ) g u v = some ((spRule A qs (nI σ) (nI κ) (nI φ) g).1, Z', S', u', v') ∧ frX [97] [] S S' ∧ rsX Z' S' (spRule A qs (nI σ) (nI κ) (nI φ) g).2 ∧ (∀ ps, tpX Z S ps → tpX Z' S' ps) ∧ u' ≤ u + 1 ∧ v' ≤ v + 4 := by
                intro z1 z2
                refine stay (-102) ?_ (by rw [e1, z1, Option.bind_some, if_pos rfl])
                rw [spRule, if_neg s6, if_neg h1', if_neg h2', if_neg h3', if_neg hs, if_neg h5', ck]
                by_cases y : (nI σ = 1 ∨ nI σ = 2 ∨ nI σ = 3) ∧ ¬ ((nI σ = 1 ∨ nI σ = 2) ∧ g = -1) ∧ ¬ shT A κ g.toNatClampNeg < 4
                · rw [if_pos y]
                · rw [if_neg y, if_pos (by rcases z2 with z2 | z2; exact absurd z2 y; exact z2)]
              rcases (show σ = 0 ∨ (σ = 1 ∨ σ = 2) ∨ σ = 3 ∨ (σ = 4 ∨ σ = 5) by omega) with c | c | c | c
              · exact good (by rw [esf, if_pos (w0.mpr c)]) (fun w => by rcases w.1 with w | w | w; have := w1.mp w; omega; have := w2.mp w; omega; have := w3.mp w; omega) (fun w => by rcases w.1 with w | w; have := w4.mp w; omega; have := w5.mp w; omega)
              · have c12 : nI σ = 1 ∨ nI σ = 2 := by rcases c with c | c; exact Or.inl (w1.mpr c); exact Or.inr (w2.mpr c)
                have n45 : ¬ ((nI σ = 4 ∨ nI σ = 5) ∧ shT A κ g.toNatClampNeg < 4) := fun w => by rcases w.1 with w | w; have := w4.mp w; omega; have := w5.mp w; omega
                have es : fX10_sortsFit Z S (nI σ) (nI κ) (nI φ) g = JX10_sortsFit_54 Z S (nI κ) g () := by
                  rw [esf, if_neg (fun w => by have := w0.mp w; omega)]
                  rcases c12 with c12 | c12
                  · rw [if_pos c12]
                  · rw [if_neg (fun w => by have := w1.mp w; have := w2.mp c12; omega), if_pos c12]
                by_cases gm : g = -1
                · exact good (by rw [es, JX10_sortsFit_54, if_pos gm]) (fun w => w.2.1 ⟨c12, gm⟩) n45
                · have hno := hg (fun w => by have := w0.mp w; omega) (fun w => gm w.2)
                  obtain ⟨γ, hγ, rfl, hγ31⟩ := out_of hno
                  rw [nI_clamp hγ31] at good bad
                  by_cases e : shT A κ γ < 4
                  · exact good (by rw [es, JX10_sortsFit_54, if_neg gm, pX_isRf hA hS hκ hγ, Option.bind_some, if_pos e, if_neg n10]) (fun w => w.2.2 e) (by rw [nI_clamp hγ31] at n45; exact n45)
                  · exact bad (by rw [es, JX10_sortsFit_54, if_neg gm, pX_isRf hA hS hκ hγ, Option.bind_some, if_neg e, if_pos rfl]) (Or.inl ⟨by rcases c12 with w | w; exact Or.inl w; exact Or.inr (Or.inl w), fun w => gm w.2, e⟩)
              · have c3 := w3.mpr c
                have hno := hg (fun w => by have := w0.mp w; omega) (fun w => by rcases w.1 with w | w; have := w1.mp w; omega; have := w2.mp w; omega)
                have es : fX10_sortsFit Z S (nI σ) (nI κ) (nI φ) g = (fX8_isRef Z S (nI κ) g).bind (fun r6 => if r6 &&& 1 = r6 then some r6 else none) := by
                  rw [esf, if_neg (fun w => by have := w0.mp w; omega), if_neg (fun w => by have := w1.mp w; omega), if_neg (fun w => by have := w2.mp w; omega), if_pos c3]
                obtain ⟨γ, hγ, rfl, hγ31⟩ := out_of hno
                rw [nI_clamp hγ31] at good bad
                by_cases e : shT A κ γ < 4
                · exact good (by rw [es, pX_isRf hA hS hκ hγ, Option.bind_some, if_pos e]; rfl) (fun w => w.2.2 e) (fun w => by rcases w.1 with w | w; have := w4.mp w; omega; have := w5.mp w; omega)
                · exact bad (by rw [es, pX_isRf hA hS hκ hγ, Option.bind_some, if_neg e]; rfl) (Or.inl ⟨Or.inr (Or.inr c3), fun w => by rcases w.1 with w | w; have := w1.mp w; omega; have := w2.mp w; omega, e⟩)
              · have c45 : nI σ = 4 ∨ nI σ = 5 := by rcases c with c | c; exact Or.inl (w4.mpr c); exact Or.inr (w5.mpr c)
                have hno := hg (fun w => by have := w0.mp w; omega) (fun w => by rcases w.1 with w | w; have := w1.mp w; omega; have := w2.mp w; omega)
                have es : fX10_sortsFit Z S (nI σ) (nI κ) (nI φ) g = JX10_sortsFit_90 Z S (nI κ) g () := by
                  rw [esf, if_neg (fun w => by have := w0.mp w; omega), if_neg (fun w => by have := w1.mp w; omega), if_neg (fun w => by have := w2.mp w; omega), if_neg (fun w => by have := w3.mp w; omega)]
                  rcases c45 with c45 | c45
                  · rw [if_pos c45]
                  · rw [if_neg (fun w => by have := w4.mp w; have := w5.mp c45; omega), if_pos c45]
                obtain ⟨γ, hγ, rfl, hγ31⟩ := out_of hno
                rw [nI_clamp hγ31] at good bad
                by_cases e : shT A κ γ < 4
                · exact bad (by rw [es, JX10_sortsFit_90, pX_isNb hA hS hκ hγ, Option.bind_some, if_pos e]; rfl) (Or.inr ⟨c45, e⟩)
                · exact good (by rw [es, JX10_sortsFit_90, pX_isNb hA hS hκ hγ, Option.bind_some, if_neg e]; rfl) (fun w => by rcases w.1 with w | w | w; have := w1.mp w; omega; have := w2.mp w; omega; have := w3.mp w; omega) (fun w => e w.2)
            · refine stay (-102) ?_ (by rw [e1, fX10_sortsFit, pX_isRf hA hS hκ hφ, Option.bind_some, if_neg h5, if_pos rfl, Option.bind_some, if_pos rfl])
              rw [spRule, if_neg s6, if_neg h1', if_neg h2', if_neg h3', if_neg hs, ck, cf, if_pos h5]
theorem spRule_pre (s k f g : Int32) : ∃ l, (spRule A qs s k f g).2 = qs ++ l := by
  unfold spRule
  repeat' split
  all_goals first | exact ⟨[], (List.append_nil _).symm⟩ | exact ⟨_, rfl⟩
theorem uX_addStep {p : Sp} {x1 x2 x3 x4 x5 : Int32} (ht : tpX Z S ps) (h1 : x1 = nI p.1) (h2 : x2 = nI p.2.1) (h3 : x3 = nI p.2.2.1) (h4 : ¬ p.1 = 2 → x4 = nI p.2.2.2.1) (h5 : ¬ p.1 = 0 → x5 = nI p.2.2.2.2) : ∃ Z' F, fX4_add Z S (xS5 x1 x2 x3 x4 x5) = some ((if ps.length = 16 then -104 else nI ps.length), Z', F) ∧ frX [129, 408] [] S F ∧ tpX Z' F (if ps.length = 16 then ps else ps ++ [p]) ∧ (∀ qs, rsX Z S qs → rsX Z' F qs) ∧ ((if ps.length = 16 then -104 else nI ps.length) = (-104 : Int32) → F = S ∧ (if ps.length = 16 then ps else ps ++ [p]) = ps) := by
  obtain ⟨r1, r2, r3, r4, r5⟩ := ht
  rw [fX4_add, r1]
  by_cases e6 : ps.length = 16
  · rw [if_neg (show ¬ nI ps.length < 16 by rw [e6]; decide), if_pos e6, if_pos e6]
    exact ⟨Z, S, rfl, frX_r _ _ _, ⟨r1, r2, r3, r4, r5⟩, fun qs h => h, fun _ => ⟨rfl, rfl⟩⟩
  · rw [if_pos (show nI ps.length < 16 from nI_lt (b := 16) (by omega) (by decide)), if_pos (show (inb (nI ps.length) 16 && decide ((nI ps.length).toNatClampNeg ≤ Z.2.2.2 40)) = true by rw [inb_nI (by omega) (by decide), nI_clamp (by omega), decide_eq_true r3]; rfl), if_neg e6, if_neg e6, nI_1, nI_pred, nI_clamp (by omega)]
    have hlen : (ps ++ [p]).length = ps.length + 1 := by rw [List.length_append, List.length_singleton]
    have f1 : frX [129, 408] [] S (pI S 129 (nI (ps.length + 1))) := frX_pI (frX_r _ _ _) (by simp)
    refine ⟨_, _, rfl, f1, ⟨by rw [pI_s, hlen], by rw [hlen]; omega, by rw [hlen, xPr_l]; omega, by rw [xPr_l]; omega, fun i hi => ?_⟩, fun qs ht => ?_, fun w => absurd w (nI_104 (by omega))⟩
    · rw [hlen] at hi
      by_cases e : i = ps.length
      · rw [e, gD_e]
        exact ⟨by rw [← h1]; exact xPr_in (c := 0) (by decide), by rw [← h2]; exact xPr_in (c := 1) (by decide), by rw [← h3]; exact xPr_in (c := 2) (by decide), fun w => by rw [← h4 w]; exact xPr_in (c := 3) (by decide), fun w => by rw [← h5 w]; exact xPr_in (c := 4) (by decide)⟩
      · rw [gD_l (by omega)]
        obtain ⟨m1, m2, m3, m4, m5⟩ := r5 i (by omega)
        exact ⟨by rw [xPr_out (by omega)]; exact m1, by rw [xPr_out (by omega)]; exact m2, by rw [xPr_out (by omega)]; exact m3, fun w => by rw [xPr_out (by omega)]; exact m4 w, fun w => by rw [xPr_out (by omega)]; exact m5 w⟩
    · obtain ⟨t1, t2, t3, t4, t5⟩ := ht
      refine ⟨by rw [frX_1 f1 (by simp)]; exact t1, t2, by rw [xPr_m (by decide)]; exact t3, by rw [xPr_m (by decide)]; exact t4, fun i hi => ?_⟩
      obtain ⟨m1, m2⟩ := t5 i hi
      refine ⟨by rw [xPr_out (by omega)]; exact m1, fun w => ?_⟩
      obtain ⟨m3, m4, m5⟩ := m2 w
      exact ⟨by rw [xPr_out (by omega)]; exact m3, by rw [xPr_out (by omega)]; exact m4, fun w2 => by rw [xPr_out (by omega)]; exact m5 w2⟩
theorem uX_s66 {p : Sp} {x1 x2 x3 x4 x5 : Int32} {u v : Nat} (ht : tpX Z S ps) (h1 : x1 = nI p.1) (h2 : x2 = nI p.2.1) (h3 : x3 = nI p.2.2.1) (h4 : ¬ p.1 = 2 → x4 = nI p.2.2.2.1) (h5 : ¬ p.1 = 0 → x5 = nI p.2.2.2.2) : ∃ Z' S', JX10_step_66 Z S x1 x2 x3 x4 x5 u v () = some ((if ps.length = 16 then -104 else nI ps.length), Z', S', u + 1, v + 5) ∧ frX [129, 408] [] S S' ∧ tpX Z' S' (if ps.length = 16 then ps else ps ++ [p]) ∧ (∀ qs, rsX Z S qs → rsX Z' S' qs) ∧ ((S' = S ∧ (if ps.length = 16 then ps else ps ++ [p]) = ps) ∨ S'.1 408 = 0) := by
  obtain ⟨Z', F, b1, b2, b3, b4, b5⟩ := uX_addStep ht h1 h2 h3 h4 h5
  rw [JX10_step_66, Option.bind_some, b1, Option.bind_some]
  generalize (if ps.length = 16 then -104 else nI ps.length) = w at b5 ⊢
  by_cases e : w = -104
  · rw [if_pos e]
    exact ⟨Z', F, rfl, b2, b3, b4, Or.inl (b5 e)⟩
  · rw [if_neg e, fX1_forget, rr_l_e, Option.bind_some]
    have f0 : frX [408] [] F (pI F 408 0) := frX_pI (frX_r _ _ _) (by simp)
    exact ⟨Z', pI F 408 0, rfl, frX_pI b2 (by simp), ⟨by rw [pI_n (by decide)]; exact b3.1, b3.2⟩, fun qs h => rsX_fr (ls := []) (frY_x f0) (by simp) (b4 qs h), Or.inr (pI_s _ _ _)⟩
theorem pX_step {u v : Nat} (ht : tpX Z S ps) (x y z a b : Int32) : ∃ Z' S' u' v', fX10_step Z S x y z a b u v = some ((spStep ps x y z a b).1, Z', S', u', v') ∧ frX [129, 408] [] S S' ∧ tpX Z' S' (spStep ps x y z a b).2 ∧ (∀ qs, rsX Z S qs → rsX Z' S' qs) ∧ ((S' = S ∧ (spStep ps x y z a b).2 = ps) ∨ S'.1 408 = 0) ∧ u' ≤ u + 1 ∧ v' ≤ v + 5 := by
  have n10 : ¬ (1 : Int32) = 0 := by decide
  have stay : spStep ps x y z a b = (-102, ps) → fX10_step Z S x y z a b u v = some (-102, Z, S, u, v) → ∃ Z' S' u' v', fX10_step Z S x y z a b u v = some ((spStep ps x y z a b).1, Z', S', u', v') ∧ frX [129, 408] [] S S' ∧ tpX Z' S' (spStep ps x y z a b).2 ∧ (∀ qs, rsX Z S qs → rsX Z' S' qs) ∧ ((S' = S ∧ (spStep ps x y z a b).2 = ps) ∨ S'.1 408 = 0) ∧ u' ≤ u + 1 ∧ v' ≤ v + 5 := by
    intro e1 e2
    rw [e1]
    exact ⟨Z, S, u, v, e2, frX_r _ _ _, ht, fun _ h => h, Or.inl ⟨rfl, rfl⟩, by omega, by omega⟩
  by_cases h1 : x < 0 ∨ 2 < x.toNatClampNeg
  · refine stay (by rw [spStep, if_pos h1]) ?_
    rw [fX10_step]
    by_cases q : x < 0
    · rw [if_pos q]
    · rw [if_neg q, if_pos (show 2 < x from (gt_c (c := 2) q (by decide)).mpr (by rcases h1 with h1 | h1; exact absurd h1 q; exact h1))]
  · have x0 : ¬ x < 0 := fun w => h1 (Or.inl w)
    have x2 : x.toNatClampNeg ≤ 2 := by omega
    have ex : ¬ 2 < x := fun w => h1 (Or.inr ((gt_c (c := 2) x0 (by decide)).mp w))
    by_cases h2 : y < 0 ∨ 3 < y.toNatClampNeg
    · refine stay (by rw [spStep, if_neg h1, if_pos h2]) ?_
      rw [fX10_step, if_neg x0, if_neg ex, fX10_isVariable]
      by_cases q : y < 0
      · rw [if_pos q, Option.bind_some, if_pos rfl]
      · have : ¬ y ≤ nI 3 := fun w => by rcases h2 with h2 | h2; exact q h2; have := (le_c q (by decide)).mp w; omega
        have : (4 : Int32) ≤ y := by
          rw [← cl_nI q]
          exact nI_le (a := 4) (by rcases h2 with h2 | h2; exact absurd h2 q; omega) (cl_31 q)
        rw [if_neg q, if_pos this, Option.bind_some, if_pos rfl]
    · have y0 : ¬ y < 0 := fun w => h2 (Or.inl w)
      have ey : fX10_isVariable y = some 1 := by
        rw [← cl_nI y0]
        exact pX_isVar (by omega)
      by_cases h3 : z < 0 ∨ 3 < z.toNatClampNeg
      · refine stay (by rw [spStep, if_neg h1, if_neg h2, if_pos h3]) ?_
        rw [fX10_step, if_neg x0, if_neg ex, ey, Option.bind_some, if_neg n10]
        by_cases q : z < 0
        · rw [if_pos q]
        · have : ¬ z < 4 := by
            rw [← cl_nI q]
            exact nI_nlt (b := 4) (by rcases h3 with h3 | h3; exact absurd h3 q; omega) (cl_31 q)
          rw [if_neg q, if_neg this]
      · have z0 : ¬ z < 0 := fun w => h3 (Or.inl w)
        have ez : z < 4 := by
          rw [← cl_nI z0]
          exact nI_lt (b := 4) (by omega) (by decide)
        have e1 : fX10_step Z S x y z a b u v = if x = 2 then JX10_step_47 Z S x y z a b u v () else if a < 0 then some ((-102), Z, S, u, v) else if a ≤ 3 then JX10_step_47 Z S x y z a b u v () else some ((-102), Z, S, u, v) := by
          rw [fX10_step, if_neg x0, if_neg ex, ey, Option.bind_some, if_neg n10, if_neg z0, if_pos ez]
        by_cases h4 : ¬ x = 2 ∧ (a < 0 ∨ 3 < a.toNatClampNeg)
        · refine stay (by rw [spStep, if_neg h1, if_neg h2, if_neg h3, if_pos h4]) ?_
          rw [e1, if_neg h4.1]
          by_cases q : a < 0
          · rw [if_pos q]
          · rw [if_neg q, if_neg (fun w => by have := (le_c (c := 3) q (by decide)).mp w; rcases h4.2 with h | h; exact q h; omega)]
        · have ha : ¬ x = 2 → ¬ a < 0 ∧ a.toNatClampNeg ≤ 3 := fun w => ⟨fun q => h4 ⟨w, Or.inl q⟩, by
            rcases Nat.lt_or_ge 3 a.toNatClampNeg with q | q
            · exact absurd ⟨w, Or.inr q⟩ h4
            · exact q⟩
          have e2 : fX10_step Z S x y z a b u v = JX10_step_47 Z S x y z a b u v () := by
            rw [e1]
            by_cases w : x = 2
            · rw [if_pos w]
            · obtain ⟨w1, w2⟩ := ha w
              rw [if_neg w, if_neg w1, if_pos (show a ≤ 3 from (le_c (c := 3) w1 (by decide)).mpr w2)]
          by_cases h5 : ¬ x = 0 ∧ (b < 0 ∨ 16 < b.toNatClampNeg)
          · refine stay (by rw [spStep, if_neg h1, if_neg h2, if_neg h3, if_neg h4, if_pos h5]) ?_
            rw [e2, JX10_step_47, if_neg h5.1]
            by_cases q : b < 0
            · rw [if_pos q]
            · rw [if_neg q, if_neg (fun w => by have := (le_c (c := 16) q (by decide)).mp w; rcases h5.2 with h | h; exact q h; omega)]
          · have hb : ¬ x = 0 → ¬ b < 0 ∧ b.toNatClampNeg ≤ 16 := fun w => ⟨fun q => h5 ⟨w, Or.inl q⟩, by
              rcases Nat.lt_or_ge 16 b.toNatClampNeg with q | q
              · exact absurd ⟨w, Or.inr q⟩ h5
              · exact q⟩
            have e3 : fX10_step Z S x y z a b u v = JX10_step_66 Z S x y z a b u v () := by
              rw [e2, JX10_step_47]
              by_cases w : x = 0
              · rw [if_pos w]
              · obtain ⟨w1, w2⟩ := hb w
                rw [if_neg w, if_neg w1, if_pos (show b ≤ 16 from (le_c (c := 16) w1 (by decide)).mpr w2)]
            have x31 := cl_31 x0
            obtain ⟨Z', S', a1, a2, a3, a4, a5⟩ := uX_s66 (u := u) (v := v) (x4 := a) (x5 := b) (p := (x.toNatClampNeg, y.toNatClampNeg, z.toNatClampNeg, (if x = 2 then 0 else a.toNatClampNeg), (if x = 0 then 0 else b.toNatClampNeg))) ht (cl_nI x0).symm (cl_nI y0).symm (cl_nI z0).symm (fun w => by
              have w' : ¬ x = 2 := fun e => w (by show x.toNatClampNeg = 2; rw [e]; rfl)
              show a = nI (if x = 2 then 0 else a.toNatClampNeg)
              rw [if_neg w', cl_nI (ha w').1]) (fun w => by
              have w' : ¬ x = 0 := fun e => w (by show x.toNatClampNeg = 0; rw [e]; rfl)
              show b = nI (if x = 0 then 0 else b.toNatClampNeg)
              rw [if_neg w', cl_nI (hb w').1])
            rw [e3, spStep, if_neg h1, if_neg h2, if_neg h3, if_neg h4, if_neg h5]
            by_cases e6 : ps.length = 16
            · rw [if_pos e6] at a1 a3 a5 ⊢
              exact ⟨Z', S', u + 1, v + 5, a1, a2, a3, a4, a5, Nat.le_refl _, Nat.le_refl _⟩
            · rw [if_neg e6] at a1 a3 a5 ⊢
              exact ⟨Z', S', u + 1, v + 5, a1, a2, a3, a4, a5, Nat.le_refl _, Nat.le_refl _⟩
end XSET2
