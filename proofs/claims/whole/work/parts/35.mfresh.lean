/-! ===== L3: the reference's rows and kept rows (freshen) ===== -/
theorem gD_l {α : Type} {l l' : List α} {d : α} {n : Nat} (h : n < l.length) : (l ++ l').getD n d = l.getD n d := by
  rw [List.getD_eq_getElem?_getD, List.getD_eq_getElem?_getD, List.getElem?_append_left h]
theorem gD_e {α : Type} {l : List α} {x d : α} : (l ++ [x]).getD l.length d = x := by
  rw [List.getD_eq_getElem?_getD, List.getElem?_append_right (Nat.le_refl _)]
  simp
theorem gD_g {α : Type} {l : List α} {d : α} {n : Nat} (h : n < l.length) : l.getD n d = l[n] := by
  rw [List.getD_eq_getElem?_getD, List.getElem?_eq_getElem h]
  rfl
theorem nby {c : Nat} (h : c < 128) : vp_nar .byte ((nI c).toInt8.toInt32) = nI c := by
  rw [pk_vb]
  revert c
  decide
theorem nby2 {c : Nat} (h : c < 128) : vp_nar .byte (nI c).toInt8.toInt32 = nI c := nby h
abbrev Rw : Type := Nat × (Nat → Nat)
def d0 : Rw := (0, fun _ => 0)
def q0 : Ru := (0, 0, 0, 0)
/-- a heap holds to all rules -/
noncomputable def kpR (A : Sh) (qs : List Ru) (r : Rw) : Bool := qs.all (fun q => hol A q (hpR A r))
/-- the numbers of the rows that hold to the rules -/
noncomputable def keF (A : Sh) (qs : List Ru) : Nat → List Rw → List Nat
  | _, [] => []
  | i, r :: t => (if kpR A qs r = true then [i] else []) ++ keF A qs (i + 1) t
theorem keF_app {A : Sh} {qs : List Ru} : ∀ (l l' : List Rw) (i : Nat), keF A qs i (l ++ l') = keF A qs i l ++ keF A qs (i + l.length) l' := by
  intro l
  induction l with
  | nil => intro l' i; rfl
  | cons r t ih =>
    intro l' i
    show (if kpR A qs r = true then [i] else []) ++ keF A qs (i + 1) (t ++ l') = ((if kpR A qs r = true then [i] else []) ++ keF A qs (i + 1) t) ++ keF A qs (i + (t.length + 1)) l'
    rw [ih, List.append_assoc, show i + 1 + t.length = i + (t.length + 1) by omega]
theorem keF_one {A : Sh} {qs : List Ru} (l : List Rw) (r : Rw) : keF A qs 0 (l ++ [r]) = keF A qs 0 l ++ (if kpR A qs r = true then [l.length] else []) := by
  rw [keF_app, Nat.zero_add]
  show _ ++ ((if kpR A qs r = true then [l.length] else []) ++ []) = _
  rw [List.append_nil]
theorem keF_len {A : Sh} {qs : List Ru} : ∀ (l : List Rw) (i : Nat), (keF A qs i l).length ≤ l.length := by
  intro l
  induction l with
  | nil => intro i; exact Nat.le_refl _
  | cons r t ih =>
    intro i
    show ((if kpR A qs r = true then [i] else []) ++ keF A qs (i + 1) t).length ≤ t.length + 1
    have := ih (i + 1)
    rw [List.length_append]
    by_cases h : kpR A qs r = true
    · rw [if_pos h]; simp; omega
    · rw [if_neg h]; simp; omega
theorem keF_in {A : Sh} {qs : List Ru} : ∀ (l : List Rw) (i x : Nat), x ∈ keF A qs i l → i ≤ x ∧ x < i + l.length := by
  intro l
  induction l with
  | nil => intro i x h; simp [keF] at h
  | cons r t ih =>
    intro i x h
    rcases List.mem_append.mp h with h | h
    · by_cases hk : kpR A qs r = true
      · rw [if_pos hk] at h; simp at h; subst h; simp
      · rw [if_neg hk] at h; simp at h
    · obtain ⟨h1, h2⟩ := ih (i + 1) x h
      rw [List.length_cons]
      omega
/-- M's rules -/
def rsM (M : rr_T) (qs : List Ru) : Prop := M.1 8 = nI qs.length ∧ qs.length ≤ 6 ∧ ∀ i, i < qs.length → rlM M i (qs.getD i q0)
theorem rsM_fr {is as : List Nat} {M M' : rr_T} {qs : List Ru} (f : frM is as M M') (h1 : 8 ∉ is) (h2 : ∀ n ∈ [6, 7, 8, 9], n ∉ as) (h : rsM M qs) : rsM M' qs := ⟨by rw [f.1 8 h1]; exact h.1, h.2.1, fun i hi => rlM_fr f h2 (h.2.2 i hi)⟩
/-- M has told the rows D -/
def stM (A : Sh) (qs : List Ru) (D : List Rw) (M : rr_T) : Prop := M.1 22 = nI D.length ∧ (∀ i, i < D.length → rwM M i (D.getD i d0) ∧ M.2.1 19 i = (if kpR A qs (D.getD i d0) = true then 1 else 0)) ∧ M.1 25 = nI (keF A qs 0 D).length ∧ ∀ i, i < (keF A qs 0 D).length → M.2.1 18 i = nI ((keF A qs 0 D).getD i 0)
theorem stM_fr {is as : List Nat} {M M' : rr_T} {A : Sh} {qs : List Ru} {D : List Rw} (f : frM is as M M') (h1 : ∀ n ∈ [22, 25], n ∉ is) (h2 : ∀ n ∈ [16, 17, 18, 19], n ∉ as) (h : stM A qs D M) : stM A qs D M' := by
  unfold stM rwM
  rw [f.1 22 (h1 22 (by simp)), f.1 25 (h1 25 (by simp)), f.2 16 (h2 16 (by simp)), f.2 17 (h2 17 (by simp)), f.2 18 (h2 18 (by simp)), f.2 19 (h2 19 (by simp))]
  exact h
theorem stM_add {A : Sh} {qs : List Ru} {D : List Rw} {r : Rw} {M M' : rr_T} (h : stM A qs D M) (hr : rwM M D.length r) (e22 : M'.1 22 = nI (D.length + 1)) (e16 : M'.2.1 16 = M.2.1 16) (e17 : M'.2.1 17 = M.2.1 17) (e19 : M'.2.1 19 = upd (M.2.1 19) D.length (if kpR A qs r = true then 1 else 0)) (hp : kpR A qs r = true → M'.1 25 = nI ((keF A qs 0 D).length + 1) ∧ M'.2.1 18 = upd (M.2.1 18) (keF A qs 0 D).length (nI D.length)) (hn : ¬ kpR A qs r = true → M'.1 25 = M.1 25 ∧ M'.2.1 18 = M.2.1 18) : stM A qs (D ++ [r]) M' := by
  obtain ⟨h1, h2, h3, h4⟩ := h
  refine ⟨by rw [e22, List.length_append]; rfl, fun i hi => ?_, ?_⟩
  · rw [List.length_append, List.length_singleton] at hi
    unfold rwM
    rw [e16, e17, e19]
    by_cases e : i = D.length
    · subst e
      rw [gD_e, upd_s]
      exact ⟨hr, rfl⟩
    · rw [gD_l (by omega), upd_n e]
      exact h2 i (by omega)
  · rw [keF_one]
    by_cases hk : kpR A qs r = true
    · obtain ⟨p1, p2⟩ := hp hk
      rw [if_pos hk, List.length_append, p1, p2]
      refine ⟨rfl, fun i hi => ?_⟩
      rw [List.length_singleton] at hi
      by_cases e : i = (keF A qs 0 D).length
      · subst e
        rw [gD_e, upd_s]
      · rw [gD_l (by omega), upd_n e]
        exact h4 i (by omega)
    · obtain ⟨p1, p2⟩ := hn hk
      rw [if_neg hk, List.append_nil, p1, p2]
      exact ⟨h3, h4⟩
section MFRESH
variable {A : Sh} {qs : List Ru}
theorem uM_fr71 {rec : Int32 × rr_T → Option (Int32 × rr_T)} {w : rr_T} {r : Rw} {j : Nat} (hj : j < 4000) (h22 : r.1 ≤ 22) (hc : ∀ p, p < r.1 → r.2 p < 128) : ∀ (m p f : Nat) (M : rr_T), p + m = r.1 → m + 1 ≤ f → M.1 22 = nI j → atM M r.2 r.1 → (∀ p', p' < p → M.2.1 16 (22 * j + p') = nI (r.2 p')) → ∃ M', rr_loop f (LM_freshen_71 rec (nI r.1, w)) (nI p, M) = JM_freshen_103 rec (nI r.1, w) M' ∧ frM [] [16] M M' ∧ (∀ p', p' < r.1 → M'.2.1 16 (22 * j + p') = nI (r.2 p')) ∧ ∀ k, k < 22 * j → M'.2.1 16 k = M.2.1 16 k := by
  intro m
  induction m with
  | zero =>
    intro p f M hp hf e22 hat hs
    obtain ⟨f, rfl⟩ : ∃ g, f = g + 1 := ⟨f - 1, by omega⟩
    refine ⟨M, ?_, frM_r _ _ _, fun p' h => hs p' (by omega), fun _ _ => rfl⟩
    rw [loop_s, LM_freshen_71]
    dsimp only
    rw [if_pos (nI_le (by omega) (by omega))]
  | succ m ih =>
    intro p f M hp hf e22 hat hs
    obtain ⟨f, rfl⟩ : ∃ g, f = g + 1 := ⟨f - 1, by omega⟩
    have ix : (22 : Int32) * nI j + nI p = nI (22 * j + p) := by rw [show (22 : Int32) * nI j = nI (22 * j) from pk_mul 22 j, nI_add]
    obtain ⟨M', g1, g2, g3, g4⟩ := ih (p + 1) f (pA M 16 (nI (22 * j + p)) (nI (r.2 p))) (by omega) (by omega) e22 (atM_fr (frM_pA (frM_r [] [16] M) (by simp)) (by simp) hat) (fun p' h => by
      rw [pA_s, nI_clamp (by omega)]
      by_cases e : p' = p
      · rw [e, upd_s]
      · rw [upd_n (by omega)]; exact hs p' (by omega))
    refine ⟨M', ?_, frM_t (frM_pA (frM_r [] [16] M) (by simp)) g2, g3, fun k hk => ?_⟩
    · rw [loop_s, LM_freshen_71]
      dsimp only
      rw [if_neg (nI_ge (by omega) (by omega)), if_pos (inb_nI (by omega) (by decide)), e22, ix, if_pos (inb_nI (by omega) (by decide)), nI_clamp (show p < 2 ^ 31 by omega), hat p (by omega), nby (hc p (by omega)), nI_1]
      exact g1
    · rw [g4 k hk, pA_s, nI_clamp (by omega), upd_n (by omega)]
theorem uM_fr123 {rec : Int32 × rr_T → Option (Int32 × rr_T)} {a6 : Int32 × rr_T} {r : Rw} (hV : okV A) (hW : okW A r) (hQ : ∀ q ∈ qs, okQ A q) : ∀ (m i f : Nat) (b : Bool) (M : rr_T), i + m = qs.length → m + 1 ≤ f → shM M A → hpM M A (hpR A r) → rsM M qs → ∃ M', rr_loop f (LM_freshen_123 rec a6) ((if b = true then 1 else 0), nI i, M) = JM_freshen_147 rec a6 ((if (b && (qs.drop i).all (fun q => hol A q (hpR A r))) = true then 1 else 0), M') ∧ frM [] [30] M M' := by
  intro m
  induction m with
  | zero =>
    intro i f b M hi hf hS hp hr
    obtain ⟨f, rfl⟩ : ∃ g, f = g + 1 := ⟨f - 1, by omega⟩
    refine ⟨M, ?_, frM_r _ _ _⟩
    rw [loop_s, LM_freshen_123]
    dsimp only
    rw [hr.1, if_pos (nI_le (by omega) (by have := hr.2.1; omega)), List.drop_eq_nil_of_le (by omega)]
    simp
  | succ m ih =>
    intro i f b M hi hf hS hp hr
    obtain ⟨f, rfl⟩ : ∃ g, f = g + 1 := ⟨f - 1, by omega⟩
    have h6 := hr.2.1
    rw [loop_s, LM_freshen_123]
    dsimp only
    rw [hr.1, if_neg (nI_ge (by omega) (by omega))]
    cases b with
    | false => exact ⟨M, by rw [if_pos (by decide)]; simp, frM_r _ _ _⟩
    | true =>
      rw [if_neg (by decide)]
      obtain ⟨M1, e1, f1⟩ := pM_holds hV hS (hpR_ok hV.1 hW) hp (show i < 6 by omega) (hr.2.2 i (by omega)) (hQ _ (by rw [gD_g (by omega)]; exact List.getElem_mem _))
      obtain ⟨M2, e2, f2⟩ := ih (i + 1) f (hol A (qs.getD i q0) (hpR A r)) M1 (by omega) (by omega) (shM_fr f1 (by simp) (by simp) hS) (hpM_fr f1 (by simp) (by simp) hp) (rsM_fr f1 (by simp) (by simp) hr)
      refine ⟨M2, ?_, frM_t f1 f2⟩
      rw [e1, Option.bind_some, nI_1]
      rw [e2, List.drop_eq_getElem_cons (show i < qs.length by omega), gD_g (show i < qs.length by omega)]
      rfl
theorem uM_fr147 {rec : Int32 × rr_T → Option (Int32 × rr_T)} {a6 : Int32 × rr_T} {r : Rw} {D : List Rw} {M : rr_T} (hD : D.length < 4000) (h : stM A qs D M) (hr : rwM M D.length r) : ∃ M', JM_freshen_147 rec a6 ((if kpR A qs r = true then 1 else 0), M) = (fM_nextRow M' a6.1).bind (fun z => rec (z.1, z.2)) ∧ frM [22, 25] [18, 19] M M' ∧ stM A qs (D ++ [r]) M' := by
  obtain ⟨h1, h2, h3, h4⟩ := h
  have hl := keF_len (A := A) (qs := qs) D 0
  have c22 : inb (M.1 22) 4000 = true := by rw [h1]; exact inb_nI hD (by decide)
  have c25 : inb (M.1 25) 4000 = true := by rw [h3]; exact inb_nI (by omega) (by decide)
  by_cases hk : kpR A qs r = true
  · rw [if_pos hk]
    refine ⟨pI (pI (pA (pA M 19 (M.1 22) (vp_nar .boolean 1)) 18 (M.1 25) (M.1 22)) 25 (M.1 25 + 1)) 22 (M.1 22 + 1), ?_, ?_, ?_⟩
    · rw [JM_freshen_147, if_pos c22]
      show (if inb (M.1 25) 4000 = true then _ else none) = _
      rw [if_pos c25]
      rfl
    · exact frM_pI (frM_pI (frM_pA (frM_pA (frM_r _ _ _) (by simp)) (by simp)) (by simp)) (by simp)
    · rw [nb1]
      refine stM_add ⟨h1, h2, h3, h4⟩ hr ?_ ?_ ?_ ?_ (fun _ => ?_) (fun z => absurd hk z)
      · rw [pI_s, h1, nI_1]
      · rw [pI_2, pI_2, pA_n (by decide), pA_n (by decide)]
      · rw [pI_2, pI_2, pA_n (by decide), pA_n (by decide)]
      · rw [pI_2, pI_2, pA_n (by decide), pA_s, h1, nI_clamp (by omega), if_pos hk]
      · rw [pI_n (by decide), pI_s, pI_2, pI_2, pA_s, pA_n (by decide), h1, h3, nI_clamp (by omega), nI_1]
        exact ⟨rfl, rfl⟩
  · rw [if_neg hk]
    refine ⟨pI (pA M 19 (M.1 22) (vp_nar .boolean 0)) 22 (M.1 22 + 1), ?_, ?_, ?_⟩
    · rw [JM_freshen_147, if_pos c22]
      rfl
    · exact frM_pI (frM_pA (frM_r _ _ _) (by simp)) (by simp)
    · rw [nb0]
      refine stM_add ⟨h1, h2, h3, h4⟩ hr ?_ ?_ ?_ ?_ (fun z => absurd z hk) (fun _ => ?_)
      · rw [pI_s, h1, nI_1]
      · rw [pI_2, pA_n (by decide)]
      · rw [pI_2, pA_n (by decide)]
      · rw [pI_2, pA_s, h1, nI_clamp (by omega), if_neg hk]
      · rw [pI_n (by decide), pI_2, pA_1, pA_n (by decide)]
        exact ⟨rfl, rfl⟩
abbrev fR' : List Nat := [22, 25, 37, 41, 42]
abbrev fR : List Nat := [21, 22, 25, 37, 41, 42]
abbrev fA : List Nat := [16, 17, 18, 19, 26, 27, 28, 29, 30]
theorem okW_c {r : Rw} (hA : okA A) (h : okW A r) : ∀ p, p < r.1 → r.2 p < 14 := fun p hp => by
  have := okR_c hA h.1 hp
  have := hA.1
  omega
theorem stM_16 {D : List Rw} {M M' : rr_T} (hD : ∀ s ∈ D, okW A s) (h : stM A qs D M) (e22 : M'.1 22 = M.1 22) (e25 : M'.1 25 = M.1 25) (e18 : M'.2.1 18 = M.2.1 18) (e19 : M'.2.1 19 = M.2.1 19) (e16 : ∀ k, k < 22 * D.length → M'.2.1 16 k = M.2.1 16 k) (e17 : ∀ k, k < D.length → M'.2.1 17 k = M.2.1 17 k) : stM A qs D M' := by
  obtain ⟨h1, h2, h3, h4⟩ := h
  refine ⟨by rw [e22]; exact h1, fun i hi => ?_, by rw [e25]; exact h3, by rw [e18]; exact h4⟩
  obtain ⟨⟨g1, g2⟩, g3⟩ := h2 i hi
  have hl : (D.getD i d0).1 ≤ 22 := okR_22 (hD _ (by rw [gD_g hi]; exact List.getElem_mem _)).1
  refine ⟨⟨by rw [e17 i hi]; exact g1, fun p hp => by rw [e16 _ (by omega)]; exact g2 p hp⟩, by rw [e19]; exact g3⟩
/-- one row is told -/
theorem uM_frRow {rec : Int32 × rr_T → Option (Int32 × rr_T)} {w : rr_T} {r : Rw} {D : List Rw} {M : rr_T} (hV : okV A) (hW : okW A r) (hQ : ∀ q ∈ qs, okQ A q) (hDk : ∀ s ∈ D, okW A s) (hD : D.length < 4000) (hS : shM M A) (hr : rsM M qs) (hat : atM M r.2 r.1) (h : stM A qs D M) : ∃ M', rr_loop FU (LM_freshen_71 rec (nI r.1, w)) (0, M) = (fM_nextRow M' (nI r.1)).bind (fun z => rec (z.1, z.2)) ∧ frM fR' fA M M' ∧ stM A qs (D ++ [r]) M' ∧ atM M' r.2 r.1 := by
  have h22 := okR_22 hW.1
  obtain ⟨M1, a1, a2, a3, a4⟩ := uM_fr71 (rec := rec) (w := w) hD h22 (fun p hp => by have := okW_c hV.1 hW p hp; omega) r.1 0 FU M (by omega) (by show _ ≤ 5000; omega) h.1 hat (fun p' hp => absurd hp (Nat.not_lt_zero _))
  have e22 : M1.1 22 = nI D.length := by rw [a2.1 22 (by simp)]; exact h.1
  have f2 : frM [] [17] M1 (pA M1 17 (nI D.length) (nI r.1)) := frM_pA (frM_r _ _ _) (by simp)
  have hS2 := shM_fr f2 (by simp) (by simp) (shM_fr a2 (by simp) (by simp) hS)
  have hat2 := atM_fr f2 (by simp) (atM_fr a2 (by simp) hat)
  obtain ⟨M3, b1, b2, b3⟩ := pM_go hV.1 hS2 hW.1 hat2
  have hS3 := shM_fr b2 (by simp) (by simp) hS2
  obtain ⟨M4, c1, c2⟩ := uM_fr123 (rec := rec) (a6 := (nI r.1, w)) hV hW hQ qs.length 0 FU true M3 (by omega) (by have := hr.2.1; show _ ≤ 5000; omega) hS3 (hpM_of hV.1 hW b3) (rsM_fr b2 (by simp) (by simp) (rsM_fr f2 (by simp) (by simp) (rsM_fr a2 (by simp) (by simp) hr)))
  have k16 : M4.2.1 16 = M1.2.1 16 := by rw [c2.2 16 (by simp), b2.2 16 (by simp), f2.2 16 (by simp)]
  have k17 : M4.2.1 17 = upd (M.2.1 17) D.length (nI r.1) := by rw [c2.2 17 (by simp), b2.2 17 (by simp), pA_s, nI_clamp (by omega), a2.2 17 (by simp)]
  have st4 : stM A qs D M4 := by
    refine stM_16 hDk h ?_ ?_ ?_ ?_ (fun k hk => by rw [k16]; exact a4 k hk) (fun k hk => by rw [k17, upd_n (by omega)])
    · rw [c2.1 22 (by simp), b2.1 22 (by simp), f2.1 22 (by simp), a2.1 22 (by simp)]
    · rw [c2.1 25 (by simp), b2.1 25 (by simp), f2.1 25 (by simp), a2.1 25 (by simp)]
    · rw [c2.2 18 (by simp), b2.2 18 (by simp), f2.2 18 (by simp), a2.2 18 (by simp)]
    · rw [c2.2 19 (by simp), b2.2 19 (by simp), f2.2 19 (by simp), a2.2 19 (by simp)]
  have rw4 : rwM M4 D.length r := ⟨by rw [k17, upd_s], fun p hp => by rw [k16]; exact a3 p hp⟩
  obtain ⟨M5, d1, d2, d3⟩ := uM_fr147 (rec := rec) (a6 := (nI r.1, w)) hD st4 rw4
  have hat4 : atM M4 r.2 r.1 := atM_fr c2 (by simp) (atM_fr b2 (by simp) hat2)
  refine ⟨M5, ?_, ?_, d3, atM_fr d2 (by simp) hat4⟩
  · have a1' : rr_loop FU (LM_freshen_71 rec (nI r.1, w)) (0, M) = JM_freshen_103 rec (nI r.1, w) M1 := a1
    rw [a1', JM_freshen_103]
    dsimp only
    rw [e22, if_pos (inb_nI hD (by decide))]
    simp only [rr_l]
    rw [nby (by omega), b1, Option.bind_some]
    have c1' : rr_loop FU (LM_freshen_123 rec (nI r.1, w)) (1, 0, M3) = _ := c1
    rw [c1']
    have ek : (true && (qs.drop 0).all (fun q => hol A q (hpR A r))) = kpR A qs r := by rw [List.drop_zero]; simp [kpR]
    rw [ek]
    exact d1
  · refine frM_t (frM_w a2 (by simp) (by simp)) (frM_t (frM_w f2 (by simp) (by simp)) (frM_t (frM_w b2 (by simp) (by simp)) (frM_t (frM_w c2 (by simp) (by simp)) (frM_w d2 (by simp) (by simp)))))
theorem rwF_one (r : Rw) : rwF A 1 r = [r] := by
  unfold rwF
  cases nxt A r with
  | none => rfl
  | some s => rfl
theorem uM_fr44 (hV : okV A) (hQ : ∀ q ∈ qs, okQ A q) : ∀ (m : Nat) (D : List Rw) (r : Rw) (M : rr_T) (f : Nat), D.length + (m + 1) = 4001 → m + 3 ≤ f → okW A r → (∀ s ∈ D, okW A s) → shM M A → rsM M qs → atM M r.2 r.1 → stM A qs D M → ∃ M', rr_loop f LM_freshen_44 (nI r.1, M) = some ((if (D ++ rwF A (m + 1) r).length ≤ 4000 then 1 else 0), M') ∧ frM fR' fA M M' ∧ M'.1 22 = nI (D ++ rwF A (m + 1) r).length ∧ ((D ++ rwF A (m + 1) r).length ≤ 4000 → stM A qs (D ++ rwF A (m + 1) r) M') := by
  intro m
  induction m with
  | zero =>
    intro D r M f hD hf hW hDk hS hr hat hst
    obtain ⟨f, rfl⟩ : ∃ g, f = g + 1 + 1 := ⟨f - 2, by omega⟩
    have h22 := okR_22 hW.1
    rw [rwF_one, List.length_append, List.length_singleton, if_neg (show ¬ D.length + 1 ≤ 4000 by omega)]
    rw [loop_s, LM_freshen_44]
    dsimp only
    rw [if_neg (nI_m1 (by omega)), hst.1, if_neg (show ¬ (4000 : Int32) < nI D.length from nI_nlt (a := 4000) (by omega) (by omega)), if_pos (show (4000 : Int32) ≤ nI D.length from nI_le (a := 4000) (by omega) (by omega)), JM_freshen_184]
    simp only [rr_l]
    rw [hst.1, nI_1]
    have f1 : frM fR' fA M (pI M 22 (nI (D.length + 1))) := frM_pI (frM_r _ _ _) (by simp)
    obtain ⟨n1, n2⟩ := pM_nextRow hV.1 hW.1 (shM_fr f1 (by simp) (by simp) hS) (fun p hp => hat p hp)
    have fin : ∀ (x : Int32) (M2 : rr_T), M2.1 22 = nI (D.length + 1) → rr_loop (f + 1) LM_freshen_44 (x, M2) = some (0, M2) := by
      intro x M2 e
      rw [loop_s, LM_freshen_44]
      dsimp only
      have h4 : (4000 : Int32) < nI (D.length + 1) := nI_lt (a := 4000) (by omega) (by omega)
      have e203 : JM_freshen_203 M2 = some (0, M2) := by rw [JM_freshen_203, e, if_pos h4]
      rw [e, if_pos h4, e203]
      split <;> rfl
    cases en : nxt A r with
    | none =>
      obtain ⟨M2, g1, g2⟩ := n1 en
      have e : M2.1 22 = nI (D.length + 1) := by rw [g2.1 22 (by simp), pI_s]
      exact ⟨M2, by rw [g1, Option.bind_some]; exact fin _ _ e, frM_t f1 (frM_w g2 (by simp) (by simp)), e, fun z => by omega⟩
    | some s =>
      obtain ⟨M2, g1, g2, -⟩ := n2 s en
      have e : M2.1 22 = nI (D.length + 1) := by rw [g2.1 22 (by simp), pI_s]
      exact ⟨M2, by rw [g1, Option.bind_some]; exact fin _ _ e, frM_t f1 (frM_w g2 (by simp) (by simp)), e, fun z => by omega⟩
  | succ m ih =>
    intro D r M f hD hf hW hDk hS hr hat hst
    obtain ⟨f, rfl⟩ : ∃ g, f = g + 1 := ⟨f - 1, by omega⟩
    have h22 := okR_22 hW.1
    obtain ⟨M1, a1, a2, a3, a4⟩ := uM_frRow (rec := rr_loop f LM_freshen_44) (w := M) hV hW hQ hDk (by omega) hS hr hat hst
    have hS1 := shM_fr a2 (by simp) (by simp) hS
    have hr1 := rsM_fr a2 (by simp) (by simp) hr
    have hDk1 : ∀ s ∈ D ++ [r], okW A s := fun s hs => by
      rcases List.mem_append.mp hs with z | z
      · exact hDk s z
      · simp at z; rw [z]; exact hW
    have e0 : rr_loop (f + 1) LM_freshen_44 (nI r.1, M) = (fM_nextRow M1 (nI r.1)).bind (fun z => rr_loop f LM_freshen_44 (z.1, z.2)) := by
      rw [loop_s, LM_freshen_44]
      dsimp only
      rw [if_neg (nI_m1 (by omega)), hst.1, if_neg (show ¬ (4000 : Int32) < nI D.length from nI_nlt (b := D.length) (a := 4000) (by omega) (by decide)), if_neg (show ¬ (4000 : Int32) ≤ nI D.length from nI_ge (b := 4000) (by omega) (by decide))]
      exact a1
    rw [e0]
    obtain ⟨n1, n2⟩ := pM_nextRow hV.1 hW.1 hS1 a4
    cases en : nxt A r with
    | none =>
      obtain ⟨M2, g1, g2⟩ := n1 en
      have eL : rwF A (m + 1 + 1) r = [r] := by
        conv => lhs; unfold rwF
        rw [en]
      have hst2 : stM A qs (D ++ [r]) M2 := stM_fr g2 (by simp) (by simp) a3
      have hl : (D ++ [r]).length = D.length + 1 := by rw [List.length_append]; rfl
      rw [eL, if_pos (show (D ++ [r]).length ≤ 4000 by omega)]
      refine ⟨M2, ?_, frM_t a2 (frM_w g2 (by simp) (by simp)), hst2.1, fun _ => hst2⟩
      obtain ⟨f, rfl⟩ : ∃ g, f = g + 1 := ⟨f - 1, by omega⟩
      rw [g1, Option.bind_some, loop_s, LM_freshen_44]
      dsimp only
      rw [if_pos rfl, JM_freshen_203, hst2.1, if_neg (show ¬ (4000 : Int32) < nI (D ++ [r]).length from nI_nlt (a := 4000) (by omega) (by decide))]
    | some s =>
      obtain ⟨M2, g1, g2, g3⟩ := n2 s en
      have eL : D ++ rwF A (m + 1 + 1) r = (D ++ [r]) ++ rwF A (m + 1) s := by
        conv => lhs; unfold rwF
        rw [en]
        simp
      rw [eL]
      obtain ⟨M3, k1, k2, k3, k4⟩ := ih (D ++ [r]) s M2 f (by rw [List.length_append, List.length_singleton]; omega) (by omega) (nxt_ok hW en).1 hDk1 (shM_fr g2 (by simp) (by simp) hS1) (rsM_fr g2 (by simp) (by simp) hr1) g3.1 (stM_fr g2 (by simp) (by simp) a3)
      exact ⟨M3, by rw [g1, Option.bind_some]; exact k1, frM_t a2 (frM_t (frM_w g2 (by simp) (by simp)) k2), k3, k4⟩
/-- M's rows are told and stand as they are -/
def frsM (A : Sh) (qs : List Ru) (M : rr_T) : Prop := M.1 22 = nI (allR A).length ∧ ((allR A).length ≤ 4000 → stM A qs (allR A) M)
theorem pM_freshen {M : rr_T} (hV : okV A) (hQ : ∀ q ∈ qs, okQ A q) (hS : shM M A) (hr : rsM M qs) (hc : M.1 21 = 0 ∨ (M.1 21 = 1 ∧ frsM A qs M)) : ∃ M', fM_freshen M = some ((if (allR A).length ≤ 4000 then 1 else 0), M') ∧ frM fR fA M M' ∧ M'.1 21 = 1 ∧ frsM A qs M' ∧ (M.1 21 = 1 → M' = M) := by
  have hL := allR_len A
  rcases hc with hc | ⟨hc, hf⟩
  · rw [fM_freshen, if_pos hc]
    simp only [rr_l]
    have f1 : frM fR fA M (pI (pI (pI M 21 1) 22 0) 25 0) := frM_pI (frM_pI (frM_pI (frM_r _ _ _) (by simp)) (by simp)) (by simp)
    have hS1 := shM_fr f1 (by simp) (by simp) hS
    have hr1 := rsM_fr f1 (by simp) (by simp) hr
    obtain ⟨M1, a1, a2, a3⟩ := pM_fill (n := 0) (a := fun _ => 0) hV.1 (fun p hp => absurd hp (Nat.not_lt_zero _)) hS1 (fun p hp => absurd hp (Nat.not_lt_zero _))
    have a1' : fM_fill (pI (pI (pI M 21 1) 22 0) 25 0) 0 = some (nI (row0 A).1, M1) := a1
    have st0 : stM A qs [] (pI (pI (pI M 21 1) 22 0) 25 0) := ⟨by rw [pI_n (by decide), pI_s]; rfl, fun i hi => absurd hi (Nat.not_lt_zero _), by rw [pI_s]; rfl, fun i hi => absurd hi (Nat.not_lt_zero _)⟩
    obtain ⟨M2, b1, b2, b3, b4⟩ := uM_fr44 hV hQ 4000 [] (row0 A) M1 FU rfl (by decide) (row0_ok A) (fun s hs => by simp at hs) (shM_fr a2 (by simp) (by simp) hS1) (rsM_fr a2 (by simp) (by simp) hr1) a3.1 (stM_fr a2 (by simp) (by simp) st0)
    rw [List.nil_append] at b1 b3 b4
    refine ⟨M2, by rw [a1', Option.bind_some]; exact b1, frM_t f1 (frM_t (frM_w a2 (by simp) (by simp)) (frM_w b2 (by simp) (by simp))), by rw [b2.1 21 (by simp), a2.1 21 (by simp), pI_n (by decide), pI_n (by decide), pI_s], ⟨b3, b4⟩, fun z => by rw [hc] at z; cases z⟩
  · rw [fM_freshen, if_neg (by rw [hc]; decide), hf.1]
    refine ⟨M, ?_, frM_r _ _ _, hc, hf, fun _ => rfl⟩
    by_cases h : (allR A).length ≤ 4000
    · rw [if_neg (show ¬ (4000 : Int32) < nI (allR A).length from nI_nlt (a := 4000) h (by decide)), if_pos h]
    · rw [if_pos (show (4000 : Int32) < nI (allR A).length from nI_lt (a := 4000) (by omega) (by omega)), if_neg h]
end MFRESH
