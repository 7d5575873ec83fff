/-! ===== L3: the class: ends, end, look, endOf ===== -/
theorem cN_len (Q : Nat → Bool) : ∀ n, cN Q n = ((List.range n).filter Q).length := by
  intro n
  induction n with
  | zero => rfl
  | succ n ih =>
    show cN Q n + _ = _
    rw [List.range_succ, List.filter_append, List.length_append, ih, List.filter_cons]
    by_cases h : Q n = true
    · rw [if_pos h, if_pos h]; rfl
    · rw [if_neg h, if_neg h]; rfl
section XENDS
variable {A : Sh} {qs : List Ru} {ps : List Sp} {Z : rr_T}
theorem xI_E {S S' : rr_T} {u v u' v' : Nat} (h : xI A qs Z S) (e : xE A qs S u v S' u' v') : xI A qs Z S' := ⟨h.1, h.2.1, xE_sh e h.2.2.1, rsX_fr e.1 (by simp) h.2.2.2.1, e.2.2.2.1, Or.inr ⟨e.2.1, e.2.2.1⟩⟩
theorem yI_x {S S' : rr_T} {u v u' v' : Nat} (h : yI A qs ps Z S) (e : xE A qs S u v S' u' v') : yI A qs ps Z S' := ⟨xI_E h.1 e, tpX_fr e.1 (by simp) h.2.1, h.2.2.1, enI_fY e.1 (by simp) (by simp) (by simp) h.2.2.2⟩
theorem yI_E {S S' : rr_T} {u v u' v' : Nat} (h : yI A qs ps Z S) (e : yE A qs ps S u v S' u' v') : yI A qs ps Z S' := ⟨⟨h.1.1, h.1.2.1, shX_fY e.1 (by simp) (by simp) h.1.2.2.1, rsX_fr e.1 (by simp) h.1.2.2.2.1, e.2.2.2.1, Or.inr ⟨e.2.1, e.2.2.1⟩⟩, tpX_fr e.1 (by simp) h.2.1, h.2.2.1, e.2.2.2.2.2⟩
theorem yE_x {S S' : rr_T} {u v u' v' : Nat} (h : enI A ps S) (e : xE A qs S u v S' u' v') : yE A qs ps S u v S' u' v' := ⟨frY_w e.1 (by simp) (by simp) (by simp), e.2.1, e.2.2.1, e.2.2.2.1, e.2.2.2.2, enI_fY e.1 (by simp) (by simp) (by simp) h⟩
theorem yE_t {S S1 S2 : rr_T} {u v u1 v1 u2 v2 : Nat} (h : yE A qs ps S u v S1 u1 v1) (g : yE A qs ps S1 u1 v1 S2 u2 v2) : yE A qs ps S u v S2 u2 v2 := ⟨frY_t h.1 g.1, g.2.1, g.2.2.1, g.2.2.2.1, pt_t h.2.2.2.2.1 g.2.2.2.2.1, g.2.2.2.2.2⟩
/-- another cursor, another play -/
theorem yE_cu {S S' S'' : rr_T} {u v u' v' : Nat} {r : Rw} (h : yE A qs ps S u v S' u' v') (f : frX (hR ++ yR) (hQ ++ yQ) S' S'') (hok : okR A r.2 r.1) (hc : cuX A S'' r) : yE A qs ps S u v S'' u' v' := ⟨frY_t h.1 (frY_x (frX_w f (by simp) (by simp))), liX_of (ls := []) (frY_x f) (by simp) (by simp) h.2.1 hok hc, sfX_fY (ls := []) (frY_x f) (by simp) (by simp) (by simp) h.2.2.1, capX_x f h.2.2.2.1, pt_t h.2.2.2.2.1 (pt_x f), enI_fY (ls := []) (frY_x f) (by simp) (by simp) (by simp) h.2.2.2.2.2⟩
theorem pX_ends {S : rr_T} {u v : Nat} (h : yI A qs ps Z S) : ∃ S' u' v', fX10_ends Z S u v = some (spEnds A ps, S', u', v') ∧ yE A qs ps S u v S' u' v' := by
  obtain ⟨S1, u1, v1, a1, a2, a3, -⟩ := pX_gather (u := u) (v := v) h
  refine ⟨S1, u1, v1, ?_, a2⟩
  rw [fX10_ends, a1, Option.bind_some, spEnds]
  dsimp only
  by_cases h4 : (allR A).length ≤ 4000
  · rw [if_pos h4, if_pos h4, if_neg (show ¬ (1 : Int32) = 0 by decide), (a3 h4).1]
  · rw [if_neg h4, if_neg h4, if_pos rfl]
theorem enA_lt {i : Nat} (h : i < (enA A ps).length) : (enA A ps).getD i 0 < (allR A).length := ((enA_is A ps).1 _ (getD_mem h)).1
theorem pX_replay {S : rr_T} (hA : okA A) (hS : shX S A) (hli : liX A S) (hcp : capX S) (ht : tpX Z S ps) (hG : okG ps) (h4 : (allR A).length ≤ 4000) (hga : gaX A ps S) (x : Int32) : (out x (enA A ps).length → fX1_replay Z S x = some (0, S)) ∧ (¬ out x (enA A ps).length → ∃ S', fX1_replay Z S x = some (1, S') ∧ frX (hR ++ yR) (hQ ++ yQ) S S' ∧ (∃ r, okR A r.2 r.1 ∧ cuX A S' r) ∧ pyX S' (pyA A ps ((enA A ps).getD x.toNatClampNeg 0)).2.2 ∧ S'.1 344 = nI (pyA A ps ((enA A ps).getD x.toNatClampNeg 0)).2.1 ∧ S'.1 345 = nI (pyA A ps ((enA A ps).getD x.toNatClampNeg 0)).1) := by
  have hEl : (enA A ps).length ≤ (allR A).length := isE_len (enA_is A ps)
  obtain ⟨c1, c2, c3, c4⟩ := hga
  rw [fX1_replay, c1]
  constructor
  · intro h
    rcases h with h | h
    · rw [if_pos h]
    · by_cases h0 : x < 0
      · rw [if_pos h0]
      · obtain ⟨k, hk, rfl⟩ := nI_of h0
        rw [nI_clamp hk] at h
        rw [if_neg h0, if_neg (nI_nlt h hk)]
  · intro h
    obtain ⟨k, hk, rfl, hk31⟩ := out_of h
    obtain ⟨-, -, -, -, -, j, j0, -, -, -, -, j5⟩ := hcp
    have hpj : 2 ^ j ≤ 2 ^ 8 := Nat.pow_le_pow_right (by decide) j0
    obtain ⟨g1, g2, r0, g3, g4⟩ := hli
    have hlt := enA_lt hk
    have hw := allR_get hlt
    obtain ⟨S1, a1, a2, a3⟩ := pX_load (P := Z) hA hS g3 g4 g2 (by omega) hlt rfl hw
    obtain ⟨S2, b1, b2, b3, b4, b5⟩ := pX_run (Z := Z) (ps := ps) hA (hpR_ok hA hw) hG (shX_fr a2 (by simp) (by simp) hS) (hpX_of hA hw a3) (tpX_fr (ls := []) (frY_x a2) (by simp) ht)
    rw [nI_clamp hk31]
    refine ⟨S2, ?_, frX_t (frX_w a2 (by simp) (by simp)) (frX_w b2 (by simp) (by simp)), ⟨_, hw.1, cuX_fr b2 (by simp) (by simp) a3⟩, b3, b4, b5⟩
    rw [if_neg (nI_pos hk31), if_pos (nI_lt hk (by omega)), if_pos (inb_nI (by omega) (by omega)), c3 k hk, a1, Option.bind_some, b1, Option.bind_some]
/-- a row's end -/
theorem part_row {S : rr_T} {i k : Nat} (hcp : capX S) (hga : gaX A ps S) (hi : i < (allR A).length) (hk : k < (enA A ps).length) : ∃ p, fX1_partOf Z S (nI i) = some (nI p) ∧ p < (enA A ps).length ∧ kyA A ps ((enA A ps).getD p 0) = kyA A ps i ∧ (p = k ↔ kyA A ps i = kyA A ps ((enA A ps).getD k 0)) := by
  obtain ⟨-, -, -, -, -, j, j0, -, -, j3, j4, -⟩ := hcp
  have hpj : 2 ^ j ≤ 2 ^ 8 := Nat.pow_le_pow_right (by decide) j0
  obtain ⟨c1, c2, c3, c4⟩ := hga
  obtain ⟨l, p, p1, p2, p3, p4, p5, p6⟩ := c4 i hi
  refine ⟨p, pX_partOf p1 p2 (by omega) (by omega) p3 p4, p5, p6, fun w => by rw [← w, p6], fun w => ?_⟩
  exact pw_one (enA_is A ps).2.1 p5 hk (by rw [p6, w])
theorem uX_size {S : rr_T} {k : Nat} (hcp : capX S) (hga : gaX A ps S) (h4 : (allR A).length ≤ 4000) (e289 : S.1 289 = nI (allR A).length) (hk : k < (enA A ps).length) : ∀ (m i f : Nat), i + m = (allR A).length → m + 1 ≤ f → rr_loop f (LX1_sizeOf_4 Z S (nI k)) (nI (cN (fun i => decide (kyA A ps i = kyA A ps ((enA A ps).getD k 0))) i), nI i) = some (nI (cN (fun i => decide (kyA A ps i = kyA A ps ((enA A ps).getD k 0))) (allR A).length)) := by
  have hEl : (enA A ps).length ≤ (allR A).length := isE_len (enA_is A ps)
  intro m
  induction m with
  | zero =>
    intro i f hi hf
    obtain ⟨f, rfl⟩ : ∃ g, f = g + 1 := ⟨f - 1, by omega⟩
    obtain rfl : i = (allR A).length := by omega
    rw [loop_s, LX1_sizeOf_4]
    dsimp only
    rw [e289, if_pos (nI_le (Nat.le_refl _) (by omega))]
  | succ m ih =>
    intro i f hi hf
    obtain ⟨f, rfl⟩ : ∃ g, f = g + 1 := ⟨f - 1, by omega⟩
    have hiN : i < (allR A).length := by omega
    obtain ⟨p, p1, p2, p3, p4⟩ := part_row (Z := Z) hcp hga hiN hk
    rw [← ih (i + 1) f (by omega) (by omega), loop_s, LX1_sizeOf_4]
    dsimp only
    rw [e289, if_neg (nI_ge hiN (by omega)), p1, Option.bind_some]
    have ec : cN (fun i => decide (kyA A ps i = kyA A ps ((enA A ps).getD k 0))) (i + 1) = cN (fun i => decide (kyA A ps i = kyA A ps ((enA A ps).getD k 0))) i + (if decide (kyA A ps i = kyA A ps ((enA A ps).getD k 0)) = true then 1 else 0) := rfl
    rw [ec]
    by_cases e : kyA A ps i = kyA A ps ((enA A ps).getD k 0)
    · rw [if_pos (show nI p = nI k by rw [p4.mpr e]), if_pos (decide_eq_true e), nI_1, nI_1]
    · rw [if_neg (fun w => e (p4.mp ((nI_eq (by omega) (by omega)).mp w))), if_neg (by rw [decide_eq_false e]; simp), nI_1]; rfl
theorem uX_kin {S : rr_T} {k : Nat} (hcp : capX S) (hga : gaX A ps S) (h4 : (allR A).length ≤ 4000) (hkp : kpX S (keA A qs)) (hk : k < (enA A ps).length) : ∀ (m i f : Nat), i + m = (keA A qs).length → m + 1 ≤ f → rr_loop f (LX1_keptIn_4 Z S (nI k)) (nI (((keA A qs).take i).filter (fun i => decide (kyA A ps i = kyA A ps ((enA A ps).getD k 0)))).length, nI i) = some (nI ((keA A qs).filter (fun i => decide (kyA A ps i = kyA A ps ((enA A ps).getD k 0)))).length) := by
  have hEl : (enA A ps).length ≤ (allR A).length := isE_len (enA_is A ps)
  have hKl := keA_len (A := A) (qs := qs)
  obtain ⟨b1, b2, b3⟩ := id hkp
  obtain ⟨a, ha, ec⟩ := hcp.2.2.2.2.1
  have hpa : 2 ^ a ≤ 2 ^ 8 := Nat.pow_le_pow_right (by decide) ha
  intro m
  induction m with
  | zero =>
    intro i f hi hf
    obtain ⟨f, rfl⟩ : ∃ g, f = g + 1 := ⟨f - 1, by omega⟩
    obtain rfl : i = (keA A qs).length := by omega
    rw [loop_s, LX1_keptIn_4]
    dsimp only
    rw [b1, if_pos (nI_le (Nat.le_refl _) (by omega)), List.take_length]
  | succ m ih =>
    intro i f hi hf
    obtain ⟨f, rfl⟩ : ∃ g, f = g + 1 := ⟨f - 1, by omega⟩
    have hiN : i < (keA A qs).length := by omega
    obtain ⟨p, p1, p2, p3, p4⟩ := part_row (Z := Z) hcp hga (keA_get hiN) hk
    have ekr : fX0_keptRow Z S (nI i) = some (nI ((keA A qs).getD i 0)) := by
      rw [fX0_keptRow, fX0_isKeptNumber, if_neg (nI_pos (by omega)), b1, if_neg (nI_ge hiN (by omega)), Option.bind_some, if_neg (show ¬ (1 : Int32) = 0 by decide), if_pos (inb_nI (by omega) (by omega)), nI_clamp (by omega), b3 i hiN]
    rw [← ih (i + 1) f (by omega) (by omega), loop_s, LX1_keptIn_4]
    dsimp only
    rw [b1, if_neg (nI_ge hiN (by omega)), ekr, Option.bind_some, p1, Option.bind_some, List.take_succ_eq_append_getElem hiN, ← gD_g (d := 0) hiN, List.filter_append, List.length_append, List.filter_cons]
    by_cases e : kyA A ps ((keA A qs).getD i 0) = kyA A ps ((enA A ps).getD k 0)
    · rw [if_pos (show nI p = nI k by rw [p4.mpr e]), if_pos (decide_eq_true e), nI_1, nI_1]; rfl
    · rw [if_neg (fun w => e (p4.mp ((nI_eq (by omega) (by omega)).mp w))), if_neg (by rw [decide_eq_false e]; simp), nI_1]; rfl
theorem keA_cN (Q : Nat → Bool) : ((keA A qs).filter Q).length = cN (fun i => Q i && kpR A qs ((allR A).getD i d0)) (allR A).length := by
  rw [cN_len, keA, keF_rng, List.filter_filter]
theorem pX_end {S : rr_T} {u v : Nat} (h : yI A qs ps Z S) (x y : Int32) : ∃ S' u' v', fX10_end Z S x y u v = some (spEnd A qs ps x y, S', u', v') ∧ yE A qs ps S u v S' u' v' := by
  obtain ⟨S1, u1, v1, a1, a2, a3, -⟩ := pX_gather (u := u) (v := v) h
  have h1 := yI_E h a2
  have hA := h.1.1.1
  rw [fX10_end, a1, Option.bind_some, spEnd]
  dsimp only
  by_cases h4 : (allR A).length ≤ 4000
  · rw [if_pos h4, if_pos h4, if_neg (show ¬ (1 : Int32) = 0 by decide)]
    obtain ⟨r1, r2⟩ := pX_replay (Z := Z) (ps := ps) hA h1.1.2.2.1 a2.2.1 a2.2.2.2.1 h1.2.1 h.2.2.1 h4 (a3 h4) x
    by_cases ho : out x (enA A ps).length
    · rw [r1 ho, Option.bind_some]
      dsimp only
      rw [if_pos rfl, if_pos (show x < 0 ∨ (enA A ps).length ≤ x.toNatClampNeg from ho)]
      exact ⟨S1, u1, v1, rfl, a2⟩
    · obtain ⟨S2, b1, b2, ⟨r, b3, b4⟩, b5, b6, b7⟩ := r2 ho
      have hE2 := yE_cu a2 b2 b3 b4
      have h2 := yI_E h hE2
      rw [b1, Option.bind_some, if_neg (show ¬ (x < 0 ∨ (enA A ps).length ≤ x.toNatClampNeg) from ho)]
      dsimp only
      rw [if_neg (show ¬ (1 : Int32) = 0 by decide)]
      obtain ⟨k, hk, rfl, hk31⟩ := out_of ho
      rw [nI_clamp hk31] at b5 b6 b7 ⊢
      have hga2 : gaX A ps S2 := gaX_fY (ls := []) (frY_x b2) (by simp) (by simp) (by simp) (a3 h4)
      by_cases y0 : y = 0
      · rw [if_pos y0, if_pos y0, b7]
        exact ⟨S2, u1, v1, rfl, hE2⟩
      · rw [if_neg y0, if_neg y0]
        by_cases y1 : y = 1
        · rw [if_pos y1, if_pos y1, b5.2.2.2.2.2.1]
          exact ⟨S2, u1, v1, rfl, hE2⟩
        · rw [if_neg y1, if_neg y1]
          by_cases y2 : y = 2
          · have hz := uX_size (Z := Z) hE2.2.2.2.1 hga2 h4 hE2.2.1.2.1.1 hk (allR A).length 0 FU (by omega) (by show _ ≤ 5000; omega)
            have hz : fX1_sizeOf Z S2 (nI k) = _ := hz
            rw [if_pos y2, if_pos y2, hz, Option.bind_some]
            exact ⟨S2, u1, v1, rfl, hE2⟩
          · rw [if_neg y2, if_neg y2]
            by_cases y3 : y = 3
            · obtain ⟨S3, u3, v3, c1, c2, c3⟩ := pX_sift (u := u1) (v := v1) h2.1
              have hE3 := yE_t hE2 (yE_x h2.2.2.2 c2)
              have hKl := keA_len (A := A) (qs := qs)
              have hz := uX_kin (Z := Z) (ps := ps) c2.2.2.2.1 (gaX_fY c2.1 (by simp) (by simp) (by simp) hga2) h4 (c3 h4).1 hk (keA A qs).length 0 FU (by omega) (by show _ ≤ 5000; omega)
              have hz : fX1_keptIn Z S3 (nI k) = _ := hz
              rw [if_pos y3, if_pos y3, c1, Option.bind_some]
              dsimp only
              rw [if_pos h4, if_neg (show ¬ (1 : Int32) = 0 by decide), hz, Option.bind_some, keA_cN]
              exact ⟨S3, u3, v3, rfl, hE3⟩
            · rw [if_neg y3, if_neg y3]
              by_cases y4 : y = 4
              · rw [if_pos y4, if_pos y4, b6]
                exact ⟨S2, u1, v1, rfl, hE2⟩
              · rw [if_neg y4, if_neg y4]
                exact ⟨S2, u1, v1, rfl, hE2⟩
  · rw [if_neg h4, if_neg h4, if_pos rfl]
    exact ⟨S1, u1, v1, rfl, a2⟩
theorem pX_look {S : rr_T} {u v : Nat} (h : yI A qs ps Z S) (x y : Int32) : ∃ S' u' v', fX10_look Z S x y u v = some (spLook A ps x y, S', u', v') ∧ yE A qs ps S u v S' u' v' := by
  obtain ⟨S1, u1, v1, a1, a2, a3, -⟩ := pX_gather (u := u) (v := v) h
  have h1 := yI_E h a2
  have hA := h.1.1.1
  rw [fX10_look, a1, Option.bind_some, spLook]
  dsimp only
  by_cases h4 : (allR A).length ≤ 4000
  · rw [if_pos h4, if_pos h4, if_neg (show ¬ (1 : Int32) = 0 by decide)]
    obtain ⟨r1, r2⟩ := pX_replay (Z := Z) (ps := ps) hA h1.1.2.2.1 a2.2.1 a2.2.2.2.1 h1.2.1 h.2.2.1 h4 (a3 h4) x
    by_cases ho : out x (enA A ps).length
    · rw [r1 ho, Option.bind_some]
      dsimp only
      rw [if_pos rfl, if_pos (by rcases ho with ho | ho; exact Or.inl ho; exact Or.inr (Or.inr ho))]
      exact ⟨S1, u1, v1, rfl, a2⟩
    · obtain ⟨S2, b1, b2, ⟨r, b3, b4⟩, b5, b6, b7⟩ := r2 ho
      have hE2 := yE_cu a2 b2 b3 b4
      rw [b1, Option.bind_some]
      dsimp only
      rw [if_neg (show ¬ (1 : Int32) = 0 by decide)]
      obtain ⟨k, hk, rfl, hk31⟩ := out_of ho
      rw [nI_clamp hk31] at b5 ⊢
      by_cases hy : y < 0
      · rw [if_neg (Int32.not_le.mpr hy), if_pos (Or.inr (Or.inl hy))]
        exact ⟨S2, u1, v1, rfl, hE2⟩
      · obtain ⟨i, hi, rfl⟩ := nI_of hy
        have l1 := (pyA_ok (ps := ps) hA h.2.2.1 (enA_lt hk)).1
        have e340 : S2.1 340 = nI (lkA A ps ((enA A ps).getD k 0)).length := b5.2.2.2.2.2.1
        rw [if_pos (nI_pos' hi), nI_clamp hi, if_neg (show ¬ (nI k < 0 ∨ nI i < 0 ∨ (enA A ps).length ≤ k) from fun w => by rcases w with w | w | w; exact nI_pos hk31 w; exact hy w; omega), fX3_lookAt, if_neg hy, e340]
        by_cases hlt : i < (lkA A ps ((enA A ps).getD k 0)).length
        · have e24 : S2.2.1 24 i = nI ((lkA A ps ((enA A ps).getD k 0)).getD i 0) := b5.2.2.2.2.2.2 i hlt
          rw [if_neg (nI_ge hlt (by omega)), if_pos (inb_nI (by omega) (by decide)), nI_clamp hi, e24, Option.bind_some, if_pos hlt]
          exact ⟨S2, u1, v1, rfl, hE2⟩
        · rw [if_pos (nI_le (by omega) hi), Option.bind_some, if_neg hlt]
          exact ⟨S2, u1, v1, rfl, hE2⟩
  · rw [if_neg h4, if_neg h4, if_pos rfl]
    exact ⟨S1, u1, v1, rfl, a2⟩
theorem pX_endOf {S : rr_T} {u v : Nat} (h : yI A qs ps Z S) (x : Int32) : ∃ S' u' v', fX10_endOf Z S x u v = some (spEndOf A qs ps x, S', u', v') ∧ yE A qs ps S u v S' u' v' := by
  obtain ⟨S1, u1, v1, a1, a2, a3⟩ := pX_sift (u := u) (v := v) h.1
  have h1 := yI_x h a2
  have hE1 := yE_x h.2.2.2 a2
  rw [fX10_endOf, a1, Option.bind_some, spEndOf]
  dsimp only
  by_cases h4 : (allR A).length ≤ 4000
  · rw [if_pos h4, if_pos h4, if_neg (show ¬ (1 : Int32) = 0 by decide)]
    obtain ⟨S2, u2, v2, b1, b2, b3, b4⟩ := pX_gather (u := u1) (v := v1) h1
    have hE2 := yE_t hE1 b2
    have hkp : kpX S2 (keA A qs) := b4 a2.2.1.1 _ (a3 h4).1
    obtain ⟨q1, q2, q3⟩ := id hkp
    have hKl := keA_len (A := A) (qs := qs)
    rw [b1, Option.bind_some]
    dsimp only
    rw [if_pos h4, if_neg (show ¬ (1 : Int32) = 0 by decide), fX0_isKeptNumber, q1, tst_o (by omega)]
    by_cases ho : out x (keA A qs).length
    · rw [if_pos ho, Option.bind_some, if_pos rfl, if_pos (show x < 0 ∨ (keA A qs).length ≤ x.toNatClampNeg from ho)]
      exact ⟨S2, u2, v2, rfl, hE2⟩
    · rw [if_neg ho, Option.bind_some, if_neg (show ¬ (1 : Int32) = 0 by decide), if_neg (show ¬ (x < 0 ∨ (keA A qs).length ≤ x.toNatClampNeg) from ho)]
      obtain ⟨i, hi, rfl, hi31⟩ := out_of ho
      obtain ⟨a, ha, ec⟩ := b2.2.2.2.1.2.2.2.2.1
      have hpa : 2 ^ a ≤ 2 ^ 8 := Nat.pow_le_pow_right (by decide) ha
      have ekr : fX0_keptRow Z S2 (nI i) = some (nI ((keA A qs).getD i 0)) := by
        rw [fX0_keptRow, fX0_isKeptNumber, if_neg (nI_pos (by omega)), q1, if_neg (nI_ge hi (by omega)), Option.bind_some, if_neg (show ¬ (1 : Int32) = 0 by decide), if_pos (inb_nI (by omega) (by omega)), nI_clamp (by omega), q3 i hi]
      have hg := keA_get hi
      obtain ⟨-, -, -, -, -, j, j0, -, -, j3, j4, -⟩ := b2.2.2.2.1
      have hpj : 2 ^ j ≤ 2 ^ 8 := Nat.pow_le_pow_right (by decide) j0
      obtain ⟨l, p, p1, p2, p3, p4, p5, p6⟩ := (b3 h4).2.2.2 _ hg
      rw [ekr, Option.bind_some, pX_partOf p1 p2 (by omega) (by omega) p3 p4, Option.bind_some, nI_clamp hi31, poA_eq (enA_is A ps) p5 p6]
      exact ⟨S2, u2, v2, rfl, hE2⟩
  · rw [if_neg h4, if_neg h4, if_pos rfl]
    exact ⟨S1, u1, v1, rfl, hE1⟩
end XENDS
