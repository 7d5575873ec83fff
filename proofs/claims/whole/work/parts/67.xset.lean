/-! ===== L3: the class: kind, field, input, bound, about, clear, erase ===== -/
/-- X stands as it did, or its caches are gone -/
def chX (S S' : rr_T) (same : Prop) : Prop := (S' = S ∧ same) ∨ (S'.1 275 = 0 ∧ S'.1 408 = 0)
section XSET
variable {A : Sh} {Z S : rr_T} {qs : List Ru} {ps : List Sp} {tw : List Int32}
theorem pX_fgt (Z S : rr_T) : fX10_forgetRows Z S = some (pI (pI S 275 0) 408 0) := by
  rw [fX10_forgetRows, fX0_forget, rr_l_e, Option.bind_some, fX1_forget, rr_l_e, Option.bind_some]
theorem fgt_f (S : rr_T) : frX [275, 408] [] S (pI (pI S 275 0) 408 0) := frX_pI (frX_pI (frX_r _ _ _) (by simp)) (by simp)
theorem fgt_1 (S : rr_T) : (pI (pI S 275 0) 408 0).1 275 = 0 ∧ (pI (pI S 275 0) 408 0).1 408 = 0 := ⟨by rw [pI_n (by decide), pI_s], pI_s _ _ _⟩
theorem nI_104 {n : Nat} (h : n ≤ 16) : ¬ nI n = -104 := fun w => by
  have w := congrArg Int32.toInt w
  rw [nI_toInt (by omega), show (-104 : Int32).toInt = -104 by decide] at w
  omega
/-- the rows are other ones when the shape has changed, but not when it refused to -/
theorem pX_aft {A' : Sh} {F : rr_T} {v : Int32} {is as : List Nat} (hf : frX is as S F) (h1 : 275 ∈ is) (h2 : 408 ∈ is) (hS : shX F A') (hs : v = -104 → F = S ∧ A' = A) : ∃ S', fX10_afterShape Z F v = some (v, S') ∧ frX is as S S' ∧ shX S' A' ∧ chX S S' (A' = A) := by
  rw [fX10_afterShape]
  by_cases e : v = -104
  · rw [if_pos e]
    obtain ⟨e1, e2⟩ := hs e
    exact ⟨F, rfl, hf, hS, Or.inl ⟨e1, e2⟩⟩
  · rw [if_neg e, pX_fgt, Option.bind_some]
    exact ⟨_, rfl, frX_pI (frX_pI hf h1) h2, shX_fr (fgt_f F) (by simp) (by simp) hS, Or.inr (fgt_1 F)⟩
theorem pX_bound (hV : okV A) (hS : shX S A) (x : Int32) : ∃ S', fX10_bound Z S x = some ((spBound A x).1, S') ∧ frX [22, 275, 408] [] S S' ∧ shX S' (spBound A x).2 ∧ chX S S' ((spBound A x).2 = A) := by
  have hB := hV.1.2.2.2.1
  rw [fX10_bound, spBound, hS.2.2.1]
  by_cases h1 : x < 1
  · rw [if_pos h1, if_pos (Or.inl h1)]
    exact ⟨S, rfl, frX_r _ _ _, hS, Or.inl ⟨rfl, rfl⟩⟩
  · rw [if_neg h1]
    by_cases h5 : x ≤ 5
    · rw [if_pos h5, if_neg (show ¬ (x < 1 ∨ 5 < x) from fun w => by rcases w with w | w; exact h1 w; exact absurd h5 (Int32.not_le.mpr w)), rr_l_e]
      have hx0 : ¬ x < 0 := fun w => h1 (Int32.lt_trans w (by decide))
      obtain ⟨n, hn, rfl⟩ := nI_of hx0
      have n5 : n ≤ 5 := (nI_leI (b := 5) hn (by decide)).mp h5
      rw [nI_clamp hn]
      by_cases e : n = shB A
      · rw [if_pos (by rw [e])]
        exact ⟨S, rfl, frX_r _ _ _, by rw [e]; exact hS, Or.inl ⟨rfl, by rw [e]; rfl⟩⟩
      · rw [if_neg (fun w => e ((nI_eq hn (by omega)).mp w)), pX_fgt, Option.bind_some, rr_l_e]
        have f1 : frX [22, 275, 408] [] S (pI (pI (pI S 275 0) 408 0) 22 (nI n)) := frX_pI (frX_w (fgt_f S) (by simp) (by simp)) (by simp)
        obtain ⟨s1, s2, s3, s4, s5, s6, s7⟩ := hS
        refine ⟨_, rfl, f1, ⟨by rw [frX_1 f1 (by simp)]; exact s1, by rw [frX_1 f1 (by simp)]; exact s2, pI_s _ _ _, s4, s5, s6, s7⟩, Or.inr ⟨?_, ?_⟩⟩
        · rw [pI_n (by decide)]; exact (fgt_1 S).1
        · rw [pI_n (by decide)]; exact (fgt_1 S).2
    · rw [if_neg h5, if_pos (Or.inr (Int32.not_le.mp h5))]
      exact ⟨S, rfl, frX_r _ _ _, hS, Or.inl ⟨rfl, rfl⟩⟩
def spI2 (A : Sh) (k : Nat) : Int32 × Sh := if shI A = 2 then (-104, A) else (nI (shI A), addI A k)
theorem uX_addInput (hV : okV A) (hS : shX S A) {k : Nat} (hk : k < shK A) : ∃ F, fX8_addInput Z S (nI k) = some ((spI2 A k).1, F) ∧ frX [21, 275, 408] [5] S F ∧ shX F (spI2 A k).2 ∧ ((spI2 A k).1 = -104 → F = S ∧ (spI2 A k).2 = A) := by
  have hI := hV.1.2.1
  have hK := hV.1.1
  rw [fX8_addInput, hS.2.1, spI2]
  by_cases e : shI A = 2
  · rw [if_neg (show ¬ nI (shI A) < 2 by rw [e]; decide), if_pos e]
    exact ⟨S, rfl, frX_r _ _ _, hS, fun _ => ⟨rfl, rfl⟩⟩
  · rw [if_pos (show nI (shI A) < 2 from nI_lt (b := 2) (by omega) (by decide)), if_pos (inb_nI (by omega) (by decide)), if_neg e, rr_l_e, rr_l_e]
    have e21 : (pA S 5 (nI (shI A)) (nI k)).1 21 = nI (shI A) := hS.2.1
    rw [e21, nI_1, pI_s, nI_pred]
    have f2 : frX [21, 275, 408] [5] S (pI (pA S 5 (nI (shI A)) (nI k)) 21 (nI (shI A + 1))) := frX_pI (frX_pA (frX_r _ _ _) (by simp)) (by simp)
    obtain ⟨s1, s2, s3, s4, s5, s6, s7⟩ := hS
    refine ⟨_, rfl, f2, ⟨by rw [frX_1 f2 (by simp)]; exact s1, pI_s _ _ _, by rw [frX_1 f2 (by simp)]; exact s3, by rw [frX_2 f2 (by simp)]; exact s4, by rw [frX_2 f2 (by simp)]; exact s5, by rw [frX_2 f2 (by simp)]; exact s6, fun i hi => ?_⟩, fun w => absurd w (nI_104 (by omega))⟩
    have hi : i < shI A + 1 := hi
    rw [pI_2, pA_s, nI_clamp (by omega)]
    show _ = nI (upn (shN A) (shI A) k i)
    by_cases z : i = shI A
    · rw [z, upd_s, upn_s]
    · rw [upd_n z, upn_n z]; exact s7 i (by omega)
theorem pX_input (hV : okV A) (hS : shX S A) (x : Int32) : ∃ S', fX10_input Z S x = some ((spInput A x).1, S') ∧ frX [21, 275, 408] [5] S S' ∧ shX S' (spInput A x).2 ∧ chX S S' ((spInput A x).2 = A) := by
  have hI := hV.1.2.1
  have hK := hV.1.1
  obtain ⟨k1, k2⟩ := pX_isKind (P := Z) hV.1 hS x
  rw [fX10_input, spInput]
  by_cases h1 : out x (shK A)
  · rw [k1 h1, Option.bind_some, if_pos rfl, if_pos (show x < 0 ∨ shK A ≤ x.toNatClampNeg from h1)]
    exact ⟨S, rfl, frX_r _ _ _, hS, Or.inl ⟨rfl, rfl⟩⟩
  · rw [k2 h1, Option.bind_some, if_neg (show ¬ (1 : Int32) = 0 by decide), if_neg (show ¬ (x < 0 ∨ shK A ≤ x.toNatClampNeg) from h1)]
    obtain ⟨k, hk, rfl, hk31⟩ := out_of h1
    rw [nI_clamp hk31]
    obtain ⟨F, b1, b2, b3, b4⟩ := uX_addInput (Z := Z) hV hS hk
    obtain ⟨S', d1, d2, d3, d4⟩ := pX_aft (Z := Z) b2 (by simp) (by simp) b3 b4
    rw [b1, Option.bind_some, d1, Option.bind_some]
    exact ⟨S', rfl, d2, d3, d4⟩
theorem addF_X {k t : Nat} {S' : rr_T} (hV : okV A) (hS : shX S A) (hk : k < shK A) (hC : shC A k < 4) (e0 : S'.1 20 = S.1 20) (e1 : S'.1 21 = S.1 21) (e2 : S'.1 22 = S.1 22) (a2 : S'.2.1 2 = S.2.1 2) (a3 : S'.2.1 3 = upd (S.2.1 3) k (nI (shC A k + 1))) (a4 : S'.2.1 4 = upd (S.2.1 4) (4 * k + shC A k) (nI t)) (a5 : S'.2.1 5 = S.2.1 5) : shX S' (addF A k t) := by
  have hK := hV.1.1
  obtain ⟨s1, s2, s3, s4, s5, s6, s7⟩ := hS
  refine ⟨by rw [e0]; exact s1, by rw [e1]; exact s2, by rw [e2]; exact s3, fun k' hk' => ?_, fun k' f hk' hf => ?_, by rw [a2]; exact s6, by rw [a5]; exact s7⟩
  · rw [a3]
    show _ = nI (upn (shC A) k (shC A k + 1) k')
    by_cases e : k' = k
    · rw [e, upd_s, upn_s]
    · rw [upd_n e, upn_n e]; exact s4 k' hk'
  · have hk' : k' < shK A := hk'
    have hf : f < upn (shC A) k (shC A k + 1) k' := hf
    have hC' := hV.1.2.2.2.2.1 k' (by omega)
    show _ = nI (if k' = k ∧ f = shC A k then t else shT A k' f)
    rw [a4]
    by_cases e : k' = k ∧ f = shC A k
    · rw [if_pos e, e.1, e.2, upd_s]
    · rw [if_neg e]
      have hf' : f < shC A k' := by
        by_cases e2 : k' = k
        · subst e2
          rw [upn_s] at hf
          have : ¬ f = shC A k' := fun w => e ⟨rfl, w⟩
          omega
        · rw [upn_n e2] at hf; exact hf
      have hne : ¬ 4 * k' + f = 4 * k + shC A k := by
        intro w
        exact e ⟨by omega, by omega⟩
      rw [upd_n hne]
      exact s5 k' f hk' hf'
def spF3 (A : Sh) (k t : Nat) : Int32 × Sh := if shC A k = 4 then (-104, A) else (nI (shC A k), addF A k t)
theorem uX_addField (hV : okV A) (hS : shX S A) {k t : Nat} {y z : Int32} (hk : k < shK A) (hy : (y = 0 ∧ z = nI t) ∨ (¬ y = 0 ∧ 4 + z = nI t)) : ∃ F, fX8_addField Z S (nI k) y z = some ((spF3 A k t).1, F) ∧ frX [275, 408] [3, 4] S F ∧ shX F (spF3 A k t).2 ∧ ((spF3 A k t).1 = -104 → F = S ∧ (spF3 A k t).2 = A) := by
  have hK := hV.1.1
  have hC := hV.1.2.2.2.2.1 k (by omega)
  obtain ⟨-, k2⟩ := pX_isKind (P := Z) hV.1 hS (nI k)
  rw [fX8_addField, pX_fieldsOf hV.1 hS hk, Option.bind_some, k2 (not_out (by omega) hk), Option.bind_some, if_neg (show ¬ (1 : Int32) = 0 by decide), spF3]
  by_cases e : shC A k = 4
  · rw [if_neg (show ¬ nI (shC A k) < 4 by rw [e]; decide), if_pos e]
    exact ⟨S, rfl, frX_r _ _ _, hS, fun _ => ⟨rfl, rfl⟩⟩
  · have e45 : (if y = 0 then JX8_addField_45 S (nI k) (nI (shC A k)) z else JX8_addField_45 S (nI k) (nI (shC A k)) (4 + z)) = JX8_addField_45 S (nI k) (nI (shC A k)) (nI t) := by
      rcases hy with ⟨y1, y2⟩ | ⟨y1, y2⟩
      · rw [if_pos y1, y2]
      · rw [if_neg y1, y2]
    rw [if_pos (show nI (shC A k) < 4 from nI_lt (b := 4) (by omega) (by decide)), if_neg e, e45, JX8_addField_45, ix4', if_pos (inb_nI (by omega) (by decide)), rr_l_e, if_pos (inb_nI (by omega) (by decide)), rr_l_e, nI_1]
    have f2 : frX [275, 408] [3, 4] S (pA (pA S 4 (nI (4 * k + shC A k)) (nI t)) 3 (nI k) (nI (shC A k + 1))) := frX_pA (frX_pA (frX_r _ _ _) (by simp)) (by simp)
    refine ⟨_, rfl, f2, addF_X hV hS hk (by omega) (frX_1 f2 (by simp)) (frX_1 f2 (by simp)) (frX_1 f2 (by simp)) (frX_2 f2 (by simp)) ?_ ?_ (frX_2 f2 (by simp)), fun w => absurd w (nI_104 (by omega))⟩
    · rw [pA_s, nI_clamp (by omega), pA_n (by decide)]
    · rw [pA_n (by decide), pA_s, nI_clamp (by omega)]
theorem uX_field51 (hV : okV A) (hS : shX S A) {k t : Nat} {y z : Int32} (hk : k < shK A) (hy : (y = 0 ∧ z = nI t) ∨ (¬ y = 0 ∧ 4 + z = nI t)) : ∃ S', JX10_field_51 Z S (nI k) y z () = some ((spF2 A k t).1, S') ∧ frX [275, 408] [3, 4] S S' ∧ shX S' (spF2 A k t).2 ∧ chX S S' ((spF2 A k t).2 = A) := by
  have hK := hV.1.1
  have hC := hV.1.2.2.2.2.1 k (by omega)
  rw [JX10_field_51, pX_isSuper hV hS hk, Option.bind_some, spF2]
  by_cases hs : supB A k = true
  · rw [if_pos hs, if_pos hs, if_neg (show ¬ (1 : Int32) = 0 by decide)]
    exact ⟨S, rfl, frX_r _ _ _, hS, Or.inl ⟨rfl, rfl⟩⟩
  · rw [if_neg hs, if_neg hs, if_pos rfl]
    obtain ⟨F, b1, b2, b3, b4⟩ := uX_addField (Z := Z) hV hS hk hy
    obtain ⟨S', d1, d2, d3, d4⟩ := pX_aft (Z := Z) b2 (by simp) (by simp) b3 b4
    rw [b1, Option.bind_some, d1, Option.bind_some]
    exact ⟨S', rfl, d2, d3, d4⟩
theorem pX_field (hV : okV A) (hS : shX S A) (x y z : Int32) : ∃ S', fX10_field Z S x y z = some ((spField A x y z).1, S') ∧ frX [275, 408] [3, 4] S S' ∧ shX S' (spField A x y z).2 ∧ chX S S' ((spField A x y z).2 = A) := by
  have hK := hV.1.1
  have n10 : ¬ (1 : Int32) = 0 := by decide
  have stay : ∀ (v : Int32), spField A x y z = (v, A) → fX10_field Z S x y z = some (v, S) → ∃ S', fX10_field Z S x y z = some ((spField A x y z).1, S') ∧ frX [275, 408] [3, 4] S S' ∧ shX S' (spField A x y z).2 ∧ chX S S' ((spField A x y z).2 = A) := by
    intro v e1 e2
    rw [e1]
    exact ⟨S, e2, frX_r _ _ _, hS, Or.inl ⟨rfl, rfl⟩⟩
  obtain ⟨k1, k2⟩ := pX_isKind (P := Z) hV.1 hS x
  obtain ⟨z1, z2⟩ := pX_isKind (P := Z) hV.1 hS z
  by_cases h1 : out x (shK A)
  · exact stay (-101) (by rw [spField, if_pos (show x < 0 ∨ shK A ≤ x.toNatClampNeg from h1)]) (by rw [fX10_field, k1 h1, Option.bind_some, if_pos rfl])
  · have h1' : ¬ (x < 0 ∨ shK A ≤ x.toNatClampNeg) := h1
    by_cases y0 : y = 0
    · by_cases h2 : out z (shK A)
      · exact stay (-101) (by rw [spField, if_neg h1', if_pos ⟨y0, h2⟩]) (by rw [fX10_field, k2 h1, Option.bind_some, if_neg n10, if_pos y0, z1 h2, Option.bind_some, if_pos rfl])
      · rw [spField_eq h1' (fun w => h2 w.2) (by rw [y0]; decide) (fun w => by rw [y0] at w; exact absurd w.1 (by decide)), if_pos y0, fX10_field, k2 h1, Option.bind_some, if_neg n10, if_pos y0, z2 h2, Option.bind_some, if_neg n10, JX10_field_29, if_pos y0]
        obtain ⟨k, hk, rfl, hk31⟩ := out_of h1
        obtain ⟨t, ht, rfl, ht31⟩ := out_of h2
        rw [nI_clamp hk31, nI_clamp ht31]
        exact uX_field51 hV hS hk (Or.inl ⟨y0, rfl⟩)
    · have h2 : ¬ (y = 0 ∧ (z < 0 ∨ shK A ≤ z.toNatClampNeg)) := fun w => y0 w.1
      have e1 : fX10_field Z S x y z = if y = 1 then (if z < 1 then some (-102, S) else if z ≤ 3 then JX10_field_51 Z S x y z () else some (-102, S)) else some (-102, S) := by
        rw [fX10_field, k2 h1, Option.bind_some, if_neg n10, if_neg y0, JX10_field_29, if_neg y0]
      by_cases y1 : y = 1
      · have h3 : ¬ (y < 0 ∨ 1 < y.toNatClampNeg) := by rw [y1]; decide
        rw [if_pos y1] at e1
        by_cases h4 : z < 1
        · exact stay (-102) (by rw [spField, if_neg h1', if_neg h2, if_neg h3, if_pos ⟨y1, Or.inl h4⟩]) (by rw [e1, if_pos h4])
        · rw [if_neg h4] at e1
          by_cases h5 : z ≤ 3
          · rw [if_pos h5] at e1
            have hz0 : ¬ z < 0 := fun w => h4 (Int32.lt_trans w (by decide))
            rw [e1, spField_eq h1' h2 h3 (fun w => by rcases w.2 with q | q; exact h4 q; exact absurd h5 (Int32.not_le.mpr q)), if_neg y0]
            obtain ⟨k, hk, rfl, hk31⟩ := out_of h1
            obtain ⟨n, hn, rfl⟩ := nI_of hz0
            rw [nI_clamp hk31, nI_clamp hn]
            exact uX_field51 hV hS hk (Or.inr ⟨y0, nI_add 4 n⟩)
          · exact stay (-102) (by rw [spField, if_neg h1', if_neg h2, if_neg h3, if_pos ⟨y1, Or.inr (Int32.not_le.mp h5)⟩]) (by rw [e1, if_neg h5])
      · refine stay (-102) ?_ (by rw [e1, if_neg y1])
        have h3 : y < 0 ∨ 1 < y.toNatClampNeg := by
          by_cases q : y < 0
          · exact Or.inl q
          · obtain ⟨b, hb, rfl⟩ := nI_of q
            rw [nI_clamp hb]
            have b0 : ¬ b = 0 := fun w => y0 (by rw [w]; rfl)
            have b1 : ¬ b = 1 := fun w => y1 (by rw [w]; rfl)
            exact Or.inr (by omega)
        rw [spField, if_neg h1', if_neg h2, if_pos h3]
theorem addK_X {j : Option Nat} {S' : rr_T} {b : Nat} (hV : okV A) (hK : shK A < 4) (hS : shX S A) (hj : ∀ i, j = some i → i < shK A) (e0 : S'.1 20 = nI (shK A + 1)) (e1 : S'.1 21 = S.1 21) (e2 : S'.1 22 = S.1 22) (hb : b < 16) (b1 : S'.2.1 2 (shK A) = nI b) (b2 : ∀ k, ¬ k = shK A → S'.2.1 2 k = S.2.1 2 k) (b3 : ∀ t, t < 4 → (decide (shK A = t) || kU A j t) = decide (b / 2 ^ t % 2 = 1)) (c1 : S'.2.1 3 (shK A) = nI (kC A j)) (c2 : ∀ k, ¬ k = shK A → S'.2.1 3 k = S.2.1 3 k) (d1 : ∀ g i, j = some i → g < shC A i → S'.2.1 4 (4 * shK A + g) = S.2.1 4 (4 * i + g)) (d2 : ∀ i, i < 4 * shK A → S'.2.1 4 i = S.2.1 4 i) (a5 : S'.2.1 5 = S.2.1 5) : shX S' (addK A j) := by
  obtain ⟨s1, s2, s3, s4, s5, s6, s7⟩ := hS
  refine ⟨e0, by rw [e1]; exact s2, by rw [e2]; exact s3, fun k hk => ?_, fun k f hk hf => ?_, fun k hk => ?_, by rw [a5]; exact s7⟩
  · have hk : k < shK A + 1 := hk
    show _ = nI (if k = shK A then kC A j else shC A k)
    by_cases e : k = shK A
    · rw [e, c1, if_pos rfl]
    · rw [c2 k e, if_neg e]; exact s4 k (by omega)
  · have hk : k < shK A + 1 := hk
    have hf : f < (if k = shK A then kC A j else shC A k) := hf
    show _ = nI (if k = shK A then kT A j f else shT A k f)
    by_cases e : k = shK A
    · rw [if_pos e] at hf ⊢
      cases j with
      | none => exact absurd hf (Nat.not_lt_zero _)
      | some i =>
        rw [e, d1 f i rfl hf]
        exact s5 i f (hj i rfl) hf
    · rw [if_neg e] at hf ⊢
      have hC := hV.1.2.2.2.2.1 k (by omega)
      rw [d2 _ (by omega)]
      exact s5 k f (by omega) hf
  · have hk : k < shK A + 1 := hk
    have hu : ∀ k t, shU (addK A j) k t = if k = shK A then (decide (k = t) || kU A j t) else shU A k t := fun _ _ => rfl
    by_cases e : k = shK A
    · subst e
      exact ⟨b, hb, b1, fun t ht => by rw [hu, if_pos rfl]; exact b3 t ht⟩
    · obtain ⟨w, w1, w2, w3⟩ := s6 k (by omega)
      exact ⟨w, w1, by rw [b2 k e]; exact w2, fun t ht => by rw [hu, if_neg e]; exact w3 t ht⟩
theorem uX_addKind (hV : okV A) (hS : shX S A) {x : Int32} {j : Option Nat} (hx : (j = none ∧ x = -1) ∨ ∃ i, j = some i ∧ i < shK A ∧ x = nI i) : ∃ F, fX8_addKind Z S x = some ((if shK A = 4 then -104 else nI (shK A)), F) ∧ frX [20, 275, 408] [2, 3, 4] S F ∧ shX F (if shK A = 4 then A else addK A j) ∧ ((if shK A = 4 then -104 else nI (shK A)) = (-104 : Int32) → F = S ∧ (if shK A = 4 then A else addK A j) = A) := by
  have hK := hV.1.1
  have n10 : ¬ (1 : Int32) = 0 := by decide
  rw [fX8_addKind, hS.1]
  by_cases e4 : shK A = 4
  · rw [if_neg (show ¬ nI (shK A) < 4 by rw [e4]; decide), if_pos e4, if_pos e4]
    exact ⟨S, rfl, frX_r _ _ _, hS, fun _ => ⟨rfl, rfl⟩⟩
  · have hb4 : inb (nI (shK A)) 4 = true := inb_nI (by omega) (by decide)
    have hcK : (nI (shK A)).toNatClampNeg = shK A := nI_clamp (by omega)
    rw [if_pos (show nI (shK A) < 4 from nI_lt (b := 4) (by omega) (by decide)), if_neg e4, if_neg e4]
    simp only [rr_l, if_pos hb4, hcK]
    rw [bit_p (shK A) (by omega)]
    have f3 : frX [20, 275, 408] [2, 3, 4] S (pA (pA S 2 (nI (shK A)) (nI (2 ^ shK A))) 3 (nI (shK A)) 0) := frX_pA (frX_pA (frX_r _ _ _) (by simp)) (by simp)
    have e20 : (pA (pA S 2 (nI (shK A)) (nI (2 ^ shK A))) 3 (nI (shK A)) 0).1 20 = nI (shK A) := hS.1
    have r2 : (pA (pA S 2 (nI (shK A)) (nI (2 ^ shK A))) 3 (nI (shK A)) 0).2.1 2 = upd (S.2.1 2) (shK A) (nI (2 ^ shK A)) := by rw [pA_n (by decide), pA_s, hcK]
    have r3 : (pA (pA S 2 (nI (shK A)) (nI (2 ^ shK A))) 3 (nI (shK A)) 0).2.1 3 = upd (S.2.1 3) (shK A) 0 := by rw [pA_s, hcK, pA_n (by decide)]
    have r4 : (pA (pA S 2 (nI (shK A)) (nI (2 ^ shK A))) 3 (nI (shK A)) 0).2.1 4 = S.2.1 4 := by rw [pA_n (by decide), pA_n (by decide)]
    generalize pA (pA S 2 (nI (shK A)) (nI (2 ^ shK A))) 3 (nI (shK A)) 0 = S3 at f3 e20 r2 r3 r4 ⊢
    have hp16 : 2 ^ shK A < 16 := Nat.pow_lt_pow_right (m := shK A) (n := 4) (by decide) (by omega)
    have ek : fX8_isKind Z S3 x = @ite _ (out x (shK A)) (Classical.propDecidable _) (some 0) (some 1) := by rw [fX8_isKind, e20, tst_o (by omega)]
    rcases hx with ⟨rfl, rfl⟩ | ⟨i, rfl, hi, rfl⟩
    · rw [ek, if_pos (show out (-1) (shK A) from Or.inl (by decide)), Option.bind_some, if_pos rfl, JX8_addKind_85, rr_l_e, e20, nI_1]
      have f5 : frX [20, 275, 408] [2, 3, 4] S (pI S3 20 (nI (shK A + 1))) := frX_pI f3 (by simp)
      refine ⟨_, rfl, f5, addK_X (b := 2 ^ shK A) hV (by omega) hS (fun i w => by cases w) (pI_s _ _ _) (frX_1 f5 (by simp)) (frX_1 f5 (by simp)) hp16 (by rw [pI_2, r2, upd_s]) (fun k hk => by rw [pI_2, r2, upd_n hk]) (fun t ht => ?_) (by rw [pI_2, r3, upd_s]; rfl) (fun k hk => by rw [pI_2, r3, upd_n hk]) (fun g i w => by cases w) (fun i _ => by rw [pI_2, r4]) (frX_2 f5 (by simp)), fun w => absurd w (nI_104 (by omega))⟩
      have := bit_1 (shK A) (by omega) t ht
      rw [show kU A none t = false from rfl, Bool.or_false]
      exact decide_eq_decide.mpr this.symm
    · have hbi : inb (nI i) 4 = true := inb_nI (by omega) (by decide)
      have hci : (nI i).toNatClampNeg = i := nI_clamp (by omega)
      have hne : ¬ i = shK A := by omega
      obtain ⟨w, w1, w2, w3⟩ := hS.2.2.2.2.2.1 i hi
      have hCi := hV.1.2.2.2.2.1 i (by omega)
      have g1 : inb (nI (i * 4)) 17 = true := inb_nI (by omega) (by decide)
      have g2 : inb (nI (shK A * 4)) 17 = true := inb_nI (by omega) (by decide)
      have g3 : inb 4 17 = true := by decide
      have g4 : (4 : Int32).toNatClampNeg = 4 := by decide
      have g5 : (nI (i * 4)).toNatClampNeg = i * 4 := nI_clamp (by omega)
      have g6 : (nI (shK A * 4)).toNatClampNeg = shK A * 4 := nI_clamp (by omega)
      rw [ek, if_neg (not_out (by omega) hi), Option.bind_some, if_neg n10, if_pos hbi, if_pos hbi, hci, r2, upd_s, upd_n hne, w2, bit_o (shK A) (by omega) w w1, show nI i * (4 : Int32) = nI (i * 4) from pk_mul i 4, show nI (shK A) * (4 : Int32) = nI (shK A * 4) from pk_mul (shK A) 4, if_pos ⟨g1, g2, g3, by rw [g4, g5]; omega, by rw [g4, g6]; omega⟩]
      have e37 : (pA S3 2 (nI (shK A)) (nI (2 ^ shK A ||| w))).2.1 3 i = nI (shC A i) := by rw [pA_n (by decide), r3, upd_n hne]; exact hS.2.2.2.1 i hi
      rw [e37, JX8_addKind_85, rr_l_e]
      obtain ⟨o1, o2⟩ := bit_q (shK A) (by omega) w w1
      have f8 : frX [20, 275, 408] [2, 3, 4] S (pA (pA S3 2 (nI (shK A)) (nI (2 ^ shK A ||| w))) 3 (nI (shK A)) (nI (shC A i))) := frX_pA (frX_pA f3 (by simp)) (by simp)
      have v2 : (pA (pA S3 2 (nI (shK A)) (nI (2 ^ shK A ||| w))) 3 (nI (shK A)) (nI (shC A i))).2.1 2 = upd (upd (S.2.1 2) (shK A) (nI (2 ^ shK A))) (shK A) (nI (2 ^ shK A ||| w)) := by rw [pA_n (by decide), pA_s, hcK, r2]
      have v3 : (pA (pA S3 2 (nI (shK A)) (nI (2 ^ shK A ||| w))) 3 (nI (shK A)) (nI (shC A i))).2.1 3 = upd (upd (S.2.1 3) (shK A) 0) (shK A) (nI (shC A i)) := by rw [pA_s, hcK, pA_n (by decide), r3]
      have v4 : (pA (pA S3 2 (nI (shK A)) (nI (2 ^ shK A ||| w))) 3 (nI (shK A)) (nI (shC A i))).2.1 4 = S.2.1 4 := by rw [pA_n (by decide), pA_n (by decide), r4]
      have v20 : (pA (pA S3 2 (nI (shK A)) (nI (2 ^ shK A ||| w))) 3 (nI (shK A)) (nI (shC A i))).1 20 = nI (shK A) := e20
      generalize pA (pA S3 2 (nI (shK A)) (nI (2 ^ shK A ||| w))) 3 (nI (shK A)) (nI (shC A i)) = S8 at f8 v2 v3 v4 v20 ⊢
      have x1 : ∀ m, ¬ m = 4 → (xC4 S8 (nI (i * 4)) (nI (shK A * 4)) 4).2.1 m = S8.2.1 m := fun m hm => by simp [xC4, va_up, hm]
      have x4 : (xC4 S8 (nI (i * 4)) (nI (shK A * 4)) 4).2.1 4 = va_cpy (S.2.1 4) (S.2.1 4) (i * 4) (shK A * 4) 4 := by rw [← v4]; simp [xC4, va_up, g4, g5, g6]
      have f9 : frX [20, 275, 408] [2, 3, 4] S (xC4 S8 (nI (i * 4)) (nI (shK A * 4)) 4) := ⟨⟨fun k hk => f8.1.1 k hk, fun n hn => by rw [x1 n (fun e => hn (by rw [e]; simp))]; exact f8.1.2 n hn⟩, f8.2⟩
      have z20 : (xC4 S8 (nI (i * 4)) (nI (shK A * 4)) 4).1 20 = nI (shK A) := v20
      rw [z20, nI_1]
      have f10 : frX [20, 275, 408] [2, 3, 4] S (pI (xC4 S8 (nI (i * 4)) (nI (shK A * 4)) 4) 20 (nI (shK A + 1))) := frX_pI f9 (by simp)
      refine ⟨_, rfl, f10, addK_X (b := 2 ^ shK A ||| w) hV (by omega) hS (fun i' w' => by cases w'; exact hi) (pI_s _ _ _) (frX_1 f10 (by simp)) (frX_1 f10 (by simp)) o1 (by rw [pI_2, x1 2 (by decide), v2, upd_s]) (fun k hk => by rw [pI_2, x1 2 (by decide), v2, upd_n hk, upd_n hk]) (fun t ht => ?_) (by rw [pI_2, x1 3 (by decide), v3, upd_s]; rfl) (fun k hk => by rw [pI_2, x1 3 (by decide), v3, upd_n hk, upd_n hk]) (fun g i' w' hg => ?_) (fun p hp => ?_) (frX_2 f10 (by simp)), fun w => absurd w (nI_104 (by omega))⟩
      · have := o2 t ht
        rw [show kU A (some i) t = shU A i t from rfl, w3 t ht]
        rw [← Bool.decide_or]
        exact decide_eq_decide.mpr this.symm
      · cases w'
        rw [pI_2, x4, pk_cpy_in (by omega) (by omega), show i * 4 + (4 * shK A + g - shK A * 4) = 4 * i + g by omega]
      · rw [pI_2, x4, pk_cpy_out (by omega)]
theorem uX_kind19 (hV : okV A) (hS : shX S A) {x : Int32} {j : Option Nat} (hx : (j = none ∧ x = -1) ∨ ∃ i, j = some i ∧ i < shK A ∧ x = nI i) : ∃ S', JX10_kind_19 Z S x () = some ((if shK A = 4 then -104 else nI (shK A)), S') ∧ frX [20, 275, 408] [2, 3, 4] S S' ∧ shX S' (if shK A = 4 then A else addK A j) ∧ chX S S' ((if shK A = 4 then A else addK A j) = A) := by
  obtain ⟨F, b1, b2, b3, b4⟩ := uX_addKind (Z := Z) hV hS hx
  obtain ⟨S', d1, d2, d3, d4⟩ := pX_aft (Z := Z) b2 (by simp) (by simp) b3 b4
  rw [JX10_kind_19, b1, Option.bind_some, d1, Option.bind_some]
  exact ⟨S', rfl, d2, d3, d4⟩
theorem pX_kind (hV : okV A) (hS : shX S A) (x : Int32) : ∃ S', fX10_kind Z S x = some ((spKind A x).1, S') ∧ frX [20, 275, 408] [2, 3, 4] S S' ∧ shX S' (spKind A x).2 ∧ chX S S' ((spKind A x).2 = A) := by
  have hK := hV.1.1
  rw [fX10_kind, spKind]
  by_cases e : x = -1
  · rw [if_pos e, if_pos e]
    obtain ⟨S', a1, a2, a3, a4⟩ := uX_kind19 (Z := Z) (x := x) (j := none) hV hS (Or.inl ⟨rfl, e⟩)
    by_cases e4 : shK A = 4
    · rw [if_pos e4] at a1 a3 a4 ⊢
      exact ⟨S', a1, a2, a3, a4⟩
    · rw [if_neg e4] at a1 a3 a4 ⊢
      exact ⟨S', a1, a2, a3, a4⟩
  · rw [if_neg e, if_neg e]
    obtain ⟨k1, k2⟩ := pX_isKind (P := Z) hV.1 hS x
    by_cases h1 : out x (shK A)
    · rw [k1 h1, Option.bind_some, if_pos rfl, if_pos (show x < 0 ∨ shK A ≤ x.toNatClampNeg from h1)]
      exact ⟨S, rfl, frX_r _ _ _, hS, Or.inl ⟨rfl, rfl⟩⟩
    · rw [k2 h1, Option.bind_some, if_neg (show ¬ (1 : Int32) = 0 by decide), if_neg (show ¬ (x < 0 ∨ shK A ≤ x.toNatClampNeg) from h1)]
      obtain ⟨i, hi, rfl, hi31⟩ := out_of h1
      obtain ⟨S', a1, a2, a3, a4⟩ := uX_kind19 (Z := Z) (x := nI i) (j := some i) hV hS (Or.inr ⟨i, rfl, hi, rfl⟩)
      rw [nI_clamp hi31]
      by_cases e4 : shK A = 4
      · rw [if_pos e4] at a1 a3 a4 ⊢
        exact ⟨S', a1, a2, a3, a4⟩
      · rw [if_neg e4] at a1 a3 a4 ⊢
        exact ⟨S', a1, a2, a3, a4⟩
theorem pX_about (hV : okV A) (hS : shX S A) (hr : rsX Z S qs) (ht : tpX Z S ps) (hw : twX S tw) (x : Int32) : fX10_about Z S x = some (spAbout A qs ps tw x) := by
  have hK := hV.1.1
  rw [fX10_about, spAbout, hS.1, hS.2.1, hS.2.2.1, hr.1, ht.1, hw.1]
  by_cases h0 : x = 0
  · rw [if_pos h0, if_pos h0]
  rw [if_neg h0, if_neg h0]
  by_cases h1 : x = 1
  · rw [if_pos h1, if_pos h1]
  rw [if_neg h1, if_neg h1]
  by_cases h2 : x = 2
  · rw [if_pos h2, if_pos h2]
  rw [if_neg h2, if_neg h2]
  by_cases h3 : x = 3
  · rw [if_pos h3, if_pos h3]
  rw [if_neg h3, if_neg h3]
  by_cases h4 : x = 4
  · rw [if_pos h4, if_pos h4]
  rw [if_neg h4, if_neg h4]
  by_cases h5 : x = 5
  · rw [if_pos h5, if_pos h5]
  rw [if_neg h5, if_neg h5]
  by_cases h10 : x < 10
  · rw [if_pos h10, if_pos (Or.inl h10)]
  · have hx0 : ¬ x < 0 := fun w => h10 (Int32.lt_trans w (by decide))
    obtain ⟨n, hn, rfl⟩ := nI_of hx0
    have n10 : 10 ≤ n := (nI_leI (a := 10) (by decide) hn).mp (Int32.not_lt.mp h10)
    rw [if_neg h10, show nI n - 10 = nI (n - 10) from pk_sub (b := 10) n10, nI_clamp hn]
    obtain ⟨k1, k2⟩ := pX_isKind (P := Z) hV.1 hS (nI (n - 10))
    by_cases e : n - 10 < shK A
    · rw [k2 (not_out (by omega) e), Option.bind_some, if_neg (show ¬ (1 : Int32) = 0 by decide), pX_fieldsOf hV.1 hS e, Option.bind_some, if_neg (show ¬ (nI n < 10 ∨ 10 + shK A ≤ n) from fun w => by rcases w with w | w; exact h10 w; omega)]
    · rw [k1 ((out_nI (by omega)).mpr (by omega)), Option.bind_some, if_pos rfl, if_pos (Or.inr (by omega))]
theorem pX_clear {u v : Nat} (hr : rsX Z S qs) (hcp : capX S) (hc : caX A qs S) : ∃ S' u' v', fX10_clear Z S u v = some (nI qs.length, S', u', v') ∧ frY [97, 277, 278] [20] [20] S S' ∧ rsX Z S' [] ∧ caX A [] S' ∧ capX S' ∧ pt S u v S' u' v' := by
  have hL := allR_len A
  have rs0 : ∀ S', S'.1 97 = 0 → rsX Z S' [] := fun S' e => ⟨e, Nat.zero_le _, Nat.zero_le _, hr.2.2.2.1, fun i hi => absurd hi (Nat.not_lt_zero _)⟩
  rw [fX10_clear]
  rcases hc with hc | ⟨h1, h2⟩
  · obtain ⟨S1, a1, a2, a3⟩ := pX_keep0 (P := Z) (u := u) (v := v) hc
    rw [a1, Option.bind_some]
    dsimp only
    rw [fX7_drop, rr_l_e, rr_l_e, Option.bind_some, frX_1 a2 (by simp), hr.1]
    have f2 : frX [97, 277, 278] [] S (pI S1 97 0) := frX_pI (frX_w a2 (by simp) (by simp)) (by simp)
    exact ⟨_, u, v, rfl, frY_x (frX_w f2 (by simp) (by simp)), rs0 _ (pI_s _ _ _), Or.inl (by rw [frX_1 f2 (by simp)]; exact hc), capX_x f2 hcp, pt_x f2⟩
  · obtain ⟨S1, u1, v1, a1, a2, a3, a4, a5, a6⟩ := pX_keep1 (P := Z) (u := u) (v := v) (n := (allR A).length) h1.1 h1.2.1.1 hL hcp
    rw [a1, Option.bind_some]
    dsimp only
    rw [fX7_drop, rr_l_e, rr_l_e, Option.bind_some, a2.1.1 97 (by simp), hr.1]
    have f2 : frX [97] [] S1 (pI S1 97 0) := frX_pI (frX_r _ _ _) (by simp)
    have f3 : frY [97, 277, 278] [20] [20] S (pI S1 97 0) := frY_t (frY_w a2 (by simp) (by simp) (by simp)) (frY_x (frX_w f2 (by simp) (by simp)))
    refine ⟨_, u1, v1, rfl, f3, rs0 _ (pI_s _ _ _), Or.inr ⟨liX_fY f3 (by simp) (by simp) (by simp) (by simp) h1, fun h4 => ⟨0, Nat.zero_le _, ?_, ?_⟩⟩, capX_x f2 a5, pt_t a6 (pt_x f2)⟩
    · rw [pI_n (by decide)]; exact a3
    · rw [List.take_zero, keF_nil0]
      exact kpX_fr (ls := []) (frY_x f2) (by simp) (by simp) (by simp) (a4 h4)
theorem pX_erase (ht : tpX Z S ps) : ∃ S', fX10_erase Z S = some (nI ps.length, S') ∧ frX [129, 408] [] S S' ∧ tpX Z S' [] ∧ S'.1 408 = 0 := by
  rw [fX10_erase, fX1_forget, rr_l_e, Option.bind_some, fX4_drop, rr_l_e, rr_l_e, Option.bind_some]
  have e129 : (pI S 408 0).1 129 = nI ps.length := by rw [pI_n (by decide)]; exact ht.1
  rw [e129]
  exact ⟨_, rfl, frX_pI (frX_pI (frX_r _ _ _) (by simp)) (by simp), ⟨pI_s _ _ _, Nat.zero_le _, Nat.zero_le _, ht.2.2.2.1, fun i hi => absurd hi (Nat.not_lt_zero _)⟩, by rw [pI_n (by decide), pI_s]⟩
end XSET
