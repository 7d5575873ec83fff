/-! ===== L3: the reference's playAll ===== -/
abbrev wR : List Nat := [33, 37, 41, 42, 49, 50, 52, 53]
abbrev wA : List Nat := [20, 21, 22, 23, 24, 25, 26, 27, 28, 29, 31, 32, 33, 34, 35, 36]
abbrev aR : List Nat := [21, 22, 25, 28, 33, 37, 41, 42, 49, 50, 52, 53]
abbrev aA : List Nat := [16, 17, 18, 19, 20, 21, 22, 23, 24, 25, 26, 27, 28, 29, 30, 31, 32, 33, 34, 35, 36]
section MALL
variable {A : Sh} {qs : List Ru} {ps : List Sp} {M : rr_T}
theorem uM_pa78 {rec : Int32 × rr_T → Option (Int32 × rr_T)} {w : rr_T} {l : List Nat} {j : Nat} (hj : j < 4000) (hl : l.length ≤ 18) (hc : ∀ p, l.getD p 0 < 128) : ∀ (m p f : Nat) (M : rr_T), p + m = l.length → m + 1 ≤ f → M.1 50 = nI l.length → (∀ p, p < l.length → M.2.1 36 p = nI (l.getD p 0)) → (∀ p', p' < p → M.2.1 20 (20 * j + p') = nI (l.getD p' 0)) → ∃ M', rr_loop f (LM_playAll_78 rec (nI j, w)) (nI p, M) = JM_playAll_110 rec (nI j, w) M' ∧ frM [] [20] M M' ∧ (∀ p', p' < l.length → M'.2.1 20 (20 * j + p') = nI (l.getD p' 0)) ∧ ∀ k, k < 20 * j → M'.2.1 20 k = M.2.1 20 k := by
  intro m
  induction m with
  | zero =>
    intro p f M hp hf e50 h36 hs
    obtain ⟨f, rfl⟩ : ∃ g, f = g + 1 := ⟨f - 1, by omega⟩
    refine ⟨M, ?_, frM_r _ _ _, fun p' h => hs p' (by omega), fun _ _ => rfl⟩
    rw [loop_s, LM_playAll_78]
    dsimp only
    rw [e50, if_pos (nI_le (by omega) (by omega))]
  | succ m ih =>
    intro p f M hp hf e50 h36 hs
    obtain ⟨f, rfl⟩ : ∃ g, f = g + 1 := ⟨f - 1, by omega⟩
    obtain ⟨M', g1, g2, g3, g4⟩ := ih (p + 1) f (pA M 20 (nI (20 * j + p)) (nI (l.getD p 0))) (by omega) (by omega) e50 (fun q hq => by rw [pA_n (by decide)]; exact h36 q hq) (fun p' h => by
      rw [pA_s, nI_clamp (by omega)]
      by_cases e : p' = p
      · rw [e, upd_s]
      · rw [upd_n (by omega)]; exact hs p' (by omega))
    refine ⟨M', ?_, frM_t (frM_pA (frM_r [] [20] M) (by simp)) g2, g3, fun k hk => ?_⟩
    · rw [loop_s, LM_playAll_78]
      dsimp only
      rw [e50, if_neg (nI_ge (by omega) (by omega)), if_pos (inb_nI (by omega) (by decide)), ix20, if_pos (inb_nI (by omega) (by decide)), nI_clamp (show p < 2 ^ 31 by omega), h36 p (by omega), nby (hc p), rr_l_e, nI_1]
      exact g1
    · rw [g4 k hk, pA_s, nI_clamp (by omega), upd_n (by omega)]
/-- what holds between two rows that are played -/
def paI (A : Sh) (qs : List Ru) (ps : List Sp) (j : Nat) (E : List Nat) (M : rr_T) : Prop := shM M A ∧ tpM M ps ∧ stM A qs (allR A) M ∧ lksM A ps j M ∧ enM E M ∧ isE (kyA A ps) j E
theorem lksM_fr {is as : List Nat} {M M' : rr_T} {n : Nat} (f : frM is as M M') (h2 : ∀ n ∈ [20, 21, 22, 23], n ∉ as) (h : lksM A ps n M) : lksM A ps n M' := by
  unfold lksM
  rw [f.2 20 (h2 20 (by simp)), f.2 21 (h2 21 (by simp)), f.2 22 (h2 22 (by simp)), f.2 23 (h2 23 (by simp))]
  exact h
theorem enM_fr {is as : List Nat} {M M' : rr_T} {E : List Nat} (f : frM is as M M') (h1 : 33 ∉ is) (h2 : 24 ∉ as) (h : enM E M) : enM E M' := by
  unfold enM
  rw [f.1 33 h1, f.2 24 h2]
  exact h
theorem okL_128 {l : List Nat} (h : okL l) (p : Nat) : l.getD p 0 < 128 := by
  have := okL_get h p
  unfold okC at this
  omega
theorem plF_o {H : Hp} : ∀ (n pc dn : Nat) (P : Pl), (plF A H ps n pc dn P).1 ≤ 2 := by
  intro n
  induction n with
  | zero => intro pc dn P; exact Nat.zero_le _
  | succ n ih =>
    intro pc dn P
    unfold plF
    split
    · exact Nat.zero_le _
    · split
      · exact ih _ _ _
      · exact (plS_o _ _).1
theorem pyA_o (j : Nat) : (pyA A ps j).1 ≤ 2 := plF_o _ _ _ _
theorem uM_paRow {rec : Int32 × rr_T → Option (Int32 × rr_T)} {j : Nat} {E : List Nat} (hA : okA A) (hG : okG ps) (h4 : (allR A).length ≤ 4000) (hj : j < (allR A).length) (h : paI A qs ps j E M) : ∃ M' E', LM_playAll_30 rec (nI j, M) = rec (nI (j + 1), M') ∧ frM wR wA M M' ∧ paI A qs ps (j + 1) E' M' := by
  obtain ⟨hS, ht, hst, hlk, hen, hE⟩ := h
  have hw : okW A ((allR A).getD j d0) := allR_get hj
  obtain ⟨o1, o2, o3⟩ := pyA_ok (ps := ps) hA hG hj
  have po := pyA_o (A := A) (ps := ps) j
  obtain ⟨M1, a1, a2, a3⟩ := pM_load (i := j) hA (by omega) hw.1 hS (hst.2.1 j hj).1
  have hS1 := shM_fr a2 (by simp) (by simp) hS
  have ht1 := tpM_fr a2 (by simp) (by simp) ht
  obtain ⟨M2, b1, b2, b3, b4⟩ := pM_playHeap hA (hpR_ok hA hw) hG.2 hS1 (hpM_of hA hw a3.2) ht1
  have b1 : fM_playHeap M1 = some (nI (pyA A ps j).1, M2) := b1
  have b4 : M2.1 52 = nI (pyA A ps j).2.1 := b4
  have b5 : M2.1 50 = nI (lkA A ps j).length := b3.2.2.2.2.2.2.1
  have b6 : ∀ i, i < (lkA A ps j).length → M2.2.1 36 i = nI ((lkA A ps j).getD i 0) := b3.2.2.2.2.2.2.2
  have f3 : frM wR wA M2 (pA (pA (pA M2 22 (nI j) (nI (pyA A ps j).1)) 23 (nI j) (nI (pyA A ps j).2.1)) 21 (nI j) (nI (lkA A ps j).length)) := frM_pA (frM_pA (frM_pA (frM_r _ _ _) (by simp)) (by simp)) (by simp)
  have f3' : frM [] [21, 22, 23] M2 (pA (pA (pA M2 22 (nI j) (nI (pyA A ps j).1)) 23 (nI j) (nI (pyA A ps j).2.1)) 21 (nI j) (nI (lkA A ps j).length)) := frM_pA (frM_pA (frM_pA (frM_r _ _ _) (by simp)) (by simp)) (by simp)
  obtain ⟨M4, c1, c2, c3, c4⟩ := uM_pa78 (rec := rec) (w := M) (show j < 4000 by omega) o1 (okL_128 o2) (lkA A ps j).length 0 FU (pA (pA (pA M2 22 (nI j) (nI (pyA A ps j).1)) 23 (nI j) (nI (pyA A ps j).2.1)) 21 (nI j) (nI (lkA A ps j).length)) (Nat.zero_add _) (by show _ ≤ 5000; omega) b5 (by rw [pA_n (by decide), pA_n (by decide), pA_n (by decide)]; exact b6) (fun p' hp => absurd hp (Nat.not_lt_zero _))
  have c1' : rr_loop FU (LM_playAll_78 rec (nI j, M)) (0, pA (pA (pA M2 22 (nI j) (nI (pyA A ps j).1)) 23 (nI j) (nI (pyA A ps j).2.1)) 21 (nI j) (nI (lkA A ps j).length)) = _ := c1
  have f04 : frM wR wA M M4 := frM_t (frM_w a2 (by simp) (by simp)) (frM_t (frM_w b2 (by simp) (by simp)) (frM_t f3 (frM_w c2 (by simp) (by simp))))
  have k21 : M4.2.1 21 = upd (M.2.1 21) j (nI (lkA A ps j).length) := by rw [c2.2 21 (by simp), pA_s, nI_clamp (by omega), pA_n (by decide), pA_n (by decide), b2.2 21 (by simp), a2.2 21 (by simp)]
  have k22 : M4.2.1 22 = upd (M.2.1 22) j (nI (pyA A ps j).1) := by rw [c2.2 22 (by simp), pA_n (by decide), pA_n (by decide), pA_s, nI_clamp (by omega), b2.2 22 (by simp), a2.2 22 (by simp)]
  have k23 : M4.2.1 23 = upd (M.2.1 23) j (nI (pyA A ps j).2.1) := by rw [c2.2 23 (by simp), pA_n (by decide), pA_s, nI_clamp (by omega), pA_n (by decide), b2.2 23 (by simp), a2.2 23 (by simp)]
  have k20 : ∀ k, k < 20 * j → M4.2.1 20 k = M.2.1 20 k := fun k hk => by rw [c4 k hk, pA_n (by decide), pA_n (by decide), pA_n (by decide), b2.2 20 (by simp), a2.2 20 (by simp)]
  have lk4 : lksM A ps (j + 1) M4 := by
    intro i hi
    rw [k21, k22, k23]
    by_cases e : i = j
    · subst e
      rw [upd_s, upd_s, upd_s]
      exact ⟨rfl, rfl, rfl, c3⟩
    · rw [upd_n e, upd_n e, upd_n e]
      obtain ⟨q1, q2, q3, q4⟩ := hlk i (by omega)
      have := (pyA_ok (ps := ps) hA hG (show i < (allR A).length by omega)).1
      exact ⟨q1, q2, q3, fun p hp => by rw [k20 _ (by omega)]; exact q4 p hp⟩
  have hS4 := shM_fr f04 (by simp) (by simp) hS
  have ht4 := tpM_fr f04 (by simp) (by simp) ht
  have hst4 : stM A qs (allR A) M4 := stM_fr f04 (by simp) (by simp) hst
  have f04' : frM [37, 41, 42, 49, 50, 52, 53] [20, 21, 22, 23, 26, 27, 28, 29, 31, 32, 33, 34, 35, 36] M M4 := frM_t (frM_w a2 (by simp) (by simp)) (frM_t (frM_w b2 (by simp) (by simp)) (frM_t (frM_w f3' (by simp) (by simp)) (frM_w c2 (by simp) (by simp))))
  have hen4 : enM E M4 := enM_fr f04' (by simp) (by simp) hen
  have hEn : ∀ e ∈ E, e < j + 1 := fun e he => by have := (hE.1 e he).1; omega
  have hEl := isE_len hE
  have e0 : LM_playAll_30 rec (nI j, M) = (fM_placeOf M4 (nI j)).bind (fun r15 => if 0 ≤ r15 then rec (nI j + 1, M4) else rr_l (M4.1 33) (fun v16 => rr_loop FU (LM_playAll_125 rec (nI j, M) r15) (v16, M4))) := by
    rw [LM_playAll_30]
    dsimp only
    rw [hst.1, if_neg (nI_ge hj (by omega)), a1, Option.bind_some, b1, Option.bind_some, if_pos (inb_nI (show j < 4000 by omega) (by decide)), rr_l_e, if_pos (inb_nI (show j < 4000 by omega) (by decide)), rr_l_e, if_pos (inb_nI (show j < 4000 by omega) (by decide)), rr_l_e]
    dsimp only
    rw [pA_1, pA_1, pA_1, b4, b5, nby (by omega), nby (by omega), nby (by omega), c1', JM_playAll_110]
  rw [e0]
  rcases pM_placeOf hA hG (show j + 1 ≤ (allR A).length by omega) (by omega) lk4 (Nat.lt_succ_self j) hEn (by omega) hE.2.1 hen4 with ⟨p, p1, p2, p3⟩ | ⟨p, p1, p2, p3, p4⟩
  · rw [p3, Option.bind_some, if_pos (nI_pos' (by omega)), nI_1]
    exact ⟨M4, E, rfl, f04, hS4, ht4, hst4, lk4, hen4, isE_old hE (getD_mem p1) p2⟩
  · rw [p4, Option.bind_some, if_neg (show ¬ (0 : Int32) ≤ nI p - 5000 from Int32.not_le.mpr (pk_sneg (b := 5000) (by decide) (by omega))), rr_l_e, hen4.1]
    obtain ⟨M5, d1, d2, d3⟩ := uM_pa125 (rec := rec) (w := M) (x := j) p1 (by omega) (E.length - p) E.length FU M4 (by omega) (Nat.le_refl _) (by show _ ≤ 5000; omega) hen4.1 hen4.2 (fun i i1 i2 => by omega)
    refine ⟨M5, insL p j E, d1, frM_t f04 (frM_w d2 (by simp) (by simp)), shM_fr d2 (by simp) (by simp) hS4, tpM_fr d2 (by simp) (by simp) ht4, stM_fr d2 (by simp) (by simp) hst4, lksM_fr d2 (by simp) lk4, d3, ?_⟩
    refine isE_new (l := E.take p) (m := E.drop p) (by rw [List.take_append_drop]; exact hE) (fun e he => ?_) (fun e he => ?_)
    · obtain ⟨i, hi, rfl⟩ := List.mem_iff_getElem.mp he
      rw [List.length_take] at hi
      rw [List.getElem_take, ← gD_g (d := 0) (show i < E.length by omega)]
      exact p2 i (by omega)
    · obtain ⟨i, hi, rfl⟩ := List.mem_iff_getElem.mp he
      rw [List.length_drop] at hi
      rw [List.getElem_drop, ← gD_g (d := 0) (show p + i < E.length by omega)]
      exact p3 (p + i) (by omega) (by omega)
theorem uM_pa30 (hA : okA A) (hG : okG ps) (h4 : (allR A).length ≤ 4000) : ∀ (m j f : Nat) (E : List Nat) (M : rr_T), j + m = (allR A).length → m + 1 ≤ f → paI A qs ps j E M → ∃ M' E', rr_loop f LM_playAll_30 (nI j, M) = JM_playAll_181 M' ∧ frM wR wA M M' ∧ paI A qs ps (allR A).length E' M' := by
  intro m
  induction m with
  | zero =>
    intro j f E M hj hf h
    obtain ⟨f, rfl⟩ : ∃ g, f = g + 1 := ⟨f - 1, by omega⟩
    obtain rfl : j = (allR A).length := by omega
    refine ⟨M, E, ?_, frM_r _ _ _, h⟩
    rw [loop_s, LM_playAll_30]
    dsimp only
    rw [h.2.2.1.1, if_pos (nI_le (Nat.le_refl _) (by omega))]
  | succ m ih =>
    intro j f E M hj hf h
    obtain ⟨f, rfl⟩ : ∃ g, f = g + 1 := ⟨f - 1, by omega⟩
    obtain ⟨M1, E1, a1, a2, a3⟩ := uM_paRow (rec := rr_loop f LM_playAll_30) hA hG h4 (show j < (allR A).length by omega) h
    obtain ⟨M2, E2, b1, b2, b3⟩ := ih (j + 1) f E1 M1 (by omega) (by omega) a3
    exact ⟨M2, E2, by rw [loop_s, a1]; exact b1, frM_t a2 b2, b3⟩
theorem uM_pa183 (hA : okA A) (hG : okG ps) (h4 : (allR A).length ≤ 4000) {E : List Nat} : ∀ (m j f : Nat) (M : rr_T), j + m = (allR A).length → m + 1 ≤ f → paI A qs ps (allR A).length E M → (∀ i, i < j → ∃ p, p < E.length ∧ kyA A ps (E.getD p 0) = kyA A ps i ∧ M.2.1 25 i = nI p) → ∃ M', rr_loop f LM_playAll_183 (nI j, M) = some (1, M') ∧ frM [] [25] M M' ∧ ∀ i, i < (allR A).length → ∃ p, p < E.length ∧ kyA A ps (E.getD p 0) = kyA A ps i ∧ M'.2.1 25 i = nI p := by
  intro m
  induction m with
  | zero =>
    intro j f M hj hf h hs
    obtain ⟨f, rfl⟩ : ∃ g, f = g + 1 := ⟨f - 1, by omega⟩
    obtain rfl : j = (allR A).length := by omega
    refine ⟨M, ?_, frM_r _ _ _, hs⟩
    rw [loop_s, LM_playAll_183]
    dsimp only
    rw [h.2.2.1.1, if_pos (nI_le (Nat.le_refl _) (by omega))]
  | succ m ih =>
    intro j f M hj hf h hs
    obtain ⟨f, rfl⟩ : ∃ g, f = g + 1 := ⟨f - 1, by omega⟩
    obtain ⟨hS, ht, hst, hlk, hen, hE⟩ := h
    have hEl := isE_len hE
    have hfound : ∃ p, p < E.length ∧ kyA A ps (E.getD p 0) = kyA A ps j ∧ fM_placeOf M (nI j) = some (nI p) := by
      rcases pM_placeOf hA hG (Nat.le_refl _) h4 hlk (show j < (allR A).length by omega) (fun e he => (hE.1 e he).1) (by omega) hE.2.1 hen with z | ⟨p, p1, p2, p3, p4⟩
      · exact z
      · obtain ⟨e, he, k⟩ := hE.2.2 j (by omega)
        obtain ⟨i, hi, rfl⟩ := List.mem_iff_getElem.mp he
        rw [← gD_g (d := 0) hi] at k
        rcases Nat.lt_or_ge i p with z | z
        · have := p2 i z; omega
        · have := p3 i z hi; omega
    obtain ⟨p, p1, p2, p3⟩ := hfound
    have f1 : frM [] [25] M (pA M 25 (nI j) (nI p)) := frM_pA (frM_r _ _ _) (by simp)
    obtain ⟨M', b1, b2, b3⟩ := ih (j + 1) f (pA M 25 (nI j) (nI p)) (by omega) (by omega) ⟨shM_fr f1 (by simp) (by simp) hS, tpM_fr f1 (by simp) (by simp) ht, stM_fr f1 (by simp) (by simp) hst, lksM_fr f1 (by simp) hlk, enM_fr f1 (by simp) (by simp) hen, hE⟩ (fun i hi => by
      rw [pA_s, nI_clamp (by omega)]
      by_cases e : i = j
      · subst e; exact ⟨p, p1, p2, upd_s _ _ _⟩
      · rw [upd_n e]; exact hs i (by omega))
    refine ⟨M', ?_, frM_t f1 b2, b3⟩
    rw [loop_s, LM_playAll_183]
    dsimp only
    rw [hst.1, if_neg (nI_ge (by omega) (by omega)), p3, Option.bind_some, if_pos (inb_nI (by omega) (by decide)), rr_l_e, nI_1]
    exact b1
/-- M's ends are told -/
def plyM (A : Sh) (ps : List Sp) (M : rr_T) : Prop := ∃ E, lksM A ps (allR A).length M ∧ enM E M ∧ isE (kyA A ps) (allR A).length E ∧ ∀ i, i < (allR A).length → ∃ p, p < E.length ∧ kyA A ps (E.getD p 0) = kyA A ps i ∧ M.2.1 25 i = nI p
def plI (A : Sh) (ps : List Sp) (M : rr_T) : Prop := M.1 28 = 0 ∨ (M.1 28 = 1 ∧ M.1 21 = 1 ∧ (allR A).length ≤ 4000 ∧ plyM A ps M)
theorem pM_playAll (h : frI A qs M) (ht : tpM M ps) (hG : okG ps) (hc : plI A ps M) : ∃ M', fM_playAll M = some ((if (allR A).length ≤ 4000 then 1 else 0), M') ∧ frM aR aA M M' ∧ M'.1 21 = 1 ∧ frsM A qs M' ∧ plI A ps M' ∧ ((allR A).length ≤ 4000 → plyM A ps M') := by
  obtain ⟨h1, h2, h3, h4, h5⟩ := h
  obtain ⟨M1, a1, a2, a3, a4, a5⟩ := pM_freshen h1 h2 h3 h4 h5
  have a2' : frM aR aA M M1 := frM_w a2 (by simp) (by simp)
  rw [fM_playAll, a1, Option.bind_some]
  by_cases e : (allR A).length ≤ 4000
  · rw [if_pos e, if_neg (show ¬ (1 : Int32) = 0 by decide)]
    rcases hc with hc | ⟨c1, c2, c3, c4⟩
    · have e28 : M1.1 28 = 0 := by rw [a2.1 28 (by simp)]; exact hc
      have f2 : frM (28 :: wR) wA M1 (pI (pI M1 28 1) 33 0) := frM_pI (frM_pI (frM_r _ _ _) (by simp)) (by simp)
      have hS1 := shM_fr a2 (by simp) (by simp) h3
      have ht1 := tpM_fr a2 (by simp) (by simp) ht
      obtain ⟨M3, E, b1, b2, b3⟩ := uM_pa30 (qs := qs) (ps := ps) h1.1 hG e (allR A).length 0 FU [] (pI (pI M1 28 1) 33 0) (Nat.zero_add _) (by show _ ≤ 5000; omega) ⟨shM_fr f2 (by simp) (by simp) hS1, tpM_fr f2 (by simp) (by simp) ht1, stM_fr f2 (by simp) (by simp) (a4.2 e), fun i hi => absurd hi (Nat.not_lt_zero _), ⟨by rw [pI_s]; rfl, fun i hi => absurd hi (Nat.not_lt_zero _)⟩, isE_0 _⟩
      obtain ⟨M4, d1, d2, d3⟩ := uM_pa183 h1.1 hG e (allR A).length 0 FU M3 (Nat.zero_add _) (by show _ ≤ 5000; omega) b3 (fun i hi => absurd hi (Nat.not_lt_zero _))
      obtain ⟨-, -, g3, g4, g5, g6⟩ := b3
      have hp : plyM A ps M4 := ⟨E, lksM_fr d2 (by simp) g4, enM_fr d2 (by simp) (by simp) g5, g6, d3⟩
      have f24 : frM (28 :: wR) wA M1 M4 := frM_t f2 (frM_t (frM_w b2 (by simp) (by simp)) (frM_w d2 (by simp) (by simp)))
      have f04 : frM aR aA M M4 := frM_t a2' (frM_w f24 (by simp) (by simp))
      have e21 : M4.1 21 = 1 := by rw [f24.1 21 (by simp)]; exact a3
      refine ⟨M4, ?_, f04, e21, ⟨by rw [f24.1 22 (by simp)]; exact a4.1, fun _ => stM_fr d2 (by simp) (by simp) g3⟩, ?_, fun _ => hp⟩
      · have b1' : rr_loop FU LM_playAll_30 (0, pI (pI M1 28 1) 33 0) = JM_playAll_181 M3 := b1
        have d1' : rr_loop FU LM_playAll_183 (0, M3) = some (1, M4) := d1
        rw [show ((1 : Int32), M1).2.1 28 = M1.1 28 from rfl, e28, if_pos rfl, rr_l_e, rr_l_e, b1', JM_playAll_181, d1']
      · exact Or.inr ⟨by rw [d2.1 28 (by simp), b2.1 28 (by simp), pI_n (by decide), pI_s], e21, e, hp⟩
    · have em := a5 c2
      subst em
      rw [show ((1 : Int32), M1).2.1 28 = M1.1 28 from rfl, c1, if_neg (show ¬ (1 : Int32) = 0 by decide)]
      exact ⟨M1, rfl, a2', a3, a4, Or.inr ⟨c1, c2, c3, c4⟩, fun _ => c4⟩
  · rw [if_neg e, if_pos rfl]
    refine ⟨M1, rfl, a2', a3, a4, ?_, fun z => absurd z e⟩
    rcases hc with hc | ⟨c1, c2, c3, c4⟩
    · exact Or.inl (by rw [a2.1 28 (by simp)]; exact hc)
    · exact absurd c3 e
end MALL
