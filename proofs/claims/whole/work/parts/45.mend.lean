/-! ===== L3: the reference's ends, end, look, endOf ===== -/
/-- the first rows of the ends -/
noncomputable def enA (A : Sh) (ps : List Sp) : List Nat := @dite _ (∃ E, isE (kyA A ps) (allR A).length E) (Classical.propDecidable _) (fun h => Classical.choose h) (fun _ => [])
theorem enA_eq {A : Sh} {ps : List Sp} {E : List Nat} (h : isE (kyA A ps) (allR A).length E) : enA A ps = E := by
  unfold enA
  rw [dif_pos ⟨E, h⟩]
  exact isE_eq (Classical.choose_spec _) h
def cN (P : Nat → Bool) : Nat → Nat
  | 0 => 0
  | n + 1 => cN P n + (if P n = true then 1 else 0)
theorem cN_le (P : Nat → Bool) : ∀ n, cN P n ≤ n := by
  intro n
  induction n with
  | zero => exact Nat.le_refl _
  | succ n ih => unfold cN; split <;> omega
noncomputable def spEnds (A : Sh) (ps : List Sp) : Int32 := if (allR A).length ≤ 4000 then nI (enA A ps).length else -104
noncomputable def spEnd (A : Sh) (qs : List Ru) (ps : List Sp) (x y : Int32) : Int32 :=
  if (allR A).length ≤ 4000 then
    (if x < 0 ∨ (enA A ps).length ≤ x.toNatClampNeg then -101
    else if y = 0 then nI (pyA A ps ((enA A ps).getD x.toNatClampNeg 0)).1
    else if y = 1 then nI (lkA A ps ((enA A ps).getD x.toNatClampNeg 0)).length
    else if y = 2 then nI (cN (fun i => decide (kyA A ps i = kyA A ps ((enA A ps).getD x.toNatClampNeg 0))) (allR A).length)
    else if y = 3 then nI (cN (fun i => decide (kyA A ps i = kyA A ps ((enA A ps).getD x.toNatClampNeg 0)) && kpR A qs ((allR A).getD i d0)) (allR A).length)
    else if y = 4 then nI (pyA A ps ((enA A ps).getD x.toNatClampNeg 0)).2.1
    else -102)
  else -104
noncomputable def spLook (A : Sh) (ps : List Sp) (x y : Int32) : Int32 :=
  if (allR A).length ≤ 4000 then
    (if x < 0 ∨ y < 0 ∨ (enA A ps).length ≤ x.toNatClampNeg then -101
    else if y.toNatClampNeg < (lkA A ps ((enA A ps).getD x.toNatClampNeg 0)).length then nI ((lkA A ps ((enA A ps).getD x.toNatClampNeg 0)).getD y.toNatClampNeg 0) else -1)
  else -104
/-- the number of a row's end -/
noncomputable def poA (A : Sh) (ps : List Sp) (i : Nat) : Int32 := fstI (fun p => decide (kyA A ps ((enA A ps).getD p 0) = kyA A ps i)) (enA A ps).length 0
noncomputable def spEndOf (A : Sh) (qs : List Ru) (ps : List Sp) (x : Int32) : Int32 :=
  if (allR A).length ≤ 4000 then
    (if x < 0 ∨ (keA A qs).length ≤ x.toNatClampNeg then -101 else poA A ps ((keA A qs).getD x.toNatClampNeg 0))
  else -104
theorem fstI_at {P : Nat → Bool} {p : Nat} (hp : P p = true) : ∀ (m i : Nat), i ≤ p → p < i + m → (∀ q, i ≤ q → q < p → P q = false) → fstI P m i = nI p := by
  intro m
  induction m with
  | zero => intro i h1 h2; omega
  | succ m ih =>
    intro i h1 h2 h3
    unfold fstI
    by_cases e : i = p
    · rw [e, if_pos hp]
    · rw [if_neg (by rw [h3 i (Nat.le_refl _) (by omega)]; decide)]
      exact ih (i + 1) (by omega) (by omega) (fun q q1 q2 => h3 q (by omega) q2)
theorem fstI_no {P : Nat → Bool} : ∀ (m i : Nat), (∀ q, i ≤ q → q < i + m → P q = false) → fstI P m i = -1 := by
  intro m
  induction m with
  | zero => intro i h; rfl
  | succ m ih =>
    intro i h
    unfold fstI
    rw [if_neg (by rw [h i (Nat.le_refl _) (by omega)]; decide)]
    exact ih (i + 1) (fun q q1 q2 => h q (by omega) (by omega))
/-- the place of a key is one -/
theorem pw_one {ky : Nat → Nat} {E : List Nat} (h : E.Pairwise (fun a b => ky a < ky b)) {i j : Nat} (hi : i < E.length) (hj : j < E.length) (e : ky (E.getD i 0) = ky (E.getD j 0)) : i = j := by
  rcases Nat.lt_trichotomy i j with z | z | z
  · have := pw_get E h i j z hj; omega
  · exact z
  · have := pw_get E h j i z hi; omega
theorem poA_eq {A : Sh} {ps : List Sp} {i p : Nat} (hE : isE (kyA A ps) (allR A).length (enA A ps)) (hp : p < (enA A ps).length) (k : kyA A ps ((enA A ps).getD p 0) = kyA A ps i) : poA A ps i = nI p := by
  refine fstI_at (decide_eq_true k) _ 0 (Nat.zero_le _) (by omega) (fun q _ hq => decide_eq_false (fun w => ?_))
  have := pw_one hE.2.1 (show q < (enA A ps).length by omega) hp (w.trans k.symm)
  omega
section MEND
variable {A : Sh} {qs : List Ru} {ps : List Sp} {M : rr_T}
/-- what every asking for ends begins from -/
def plX (A : Sh) (qs : List Ru) (ps : List Sp) (M : rr_T) : Prop := frI A qs M ∧ tpM M ps ∧ okG ps ∧ plI A ps M
/-- and comes to -/
def plE (A : Sh) (qs : List Ru) (ps : List Sp) (M M' : rr_T) : Prop := frM aR aA M M' ∧ M'.1 21 = 1 ∧ frsM A qs M' ∧ plI A ps M'
theorem pM_ends (h : plX A qs ps M) : ∃ M', fM_ends M = some (spEnds A ps, M') ∧ plE A qs ps M M' := by
  obtain ⟨h1, h2, h3, h4⟩ := h
  obtain ⟨M1, a1, a2, a3, a4, a5, a6⟩ := pM_playAll h1 h2 h3 h4
  refine ⟨M1, ?_, a2, a3, a4, a5⟩
  rw [fM_ends, a1, Option.bind_some, spEnds]
  by_cases e : (allR A).length ≤ 4000
  · obtain ⟨E, -, b2, b3, -⟩ := a6 e
    rw [if_pos e, if_pos e, if_neg (show ¬ (1 : Int32) = 0 by decide), enA_eq b3, b2.1]
  · rw [if_neg e, if_neg e, if_pos rfl]
theorem uM_end43 {E : List Nat} {k : Nat} {x2 v3 : Int32} (h4 : (allR A).length ≤ 4000) (hst : stM A qs (allR A) M) (hE : isE (kyA A ps) (allR A).length E) (h25 : ∀ i, i < (allR A).length → ∃ p, p < E.length ∧ kyA A ps (E.getD p 0) = kyA A ps i ∧ M.2.1 25 i = nI p) (hk : k < E.length) : ∀ (m i f : Nat), i + m = (allR A).length → m + 1 ≤ f → rr_loop f (LM_end_43 (nI k) x2 (1, M) v3) (nI (cN (fun i => decide (kyA A ps i = kyA A ps (E.getD k 0))) i), nI (cN (fun i => decide (kyA A ps i = kyA A ps (E.getD k 0)) && kpR A qs ((allR A).getD i d0)) i), nI i) = JM_end_110 x2 (1, M) v3 (nI (cN (fun i => decide (kyA A ps i = kyA A ps (E.getD k 0))) (allR A).length), nI (cN (fun i => decide (kyA A ps i = kyA A ps (E.getD k 0)) && kpR A qs ((allR A).getD i d0)) (allR A).length)) := by
  have hEl := isE_len hE
  intro m
  induction m with
  | zero =>
    intro i f hi hf
    obtain ⟨f, rfl⟩ : ∃ g, f = g + 1 := ⟨f - 1, by omega⟩
    obtain rfl : i = (allR A).length := by omega
    rw [loop_s, LM_end_43]
    dsimp only
    rw [hst.1, if_pos (nI_le (Nat.le_refl _) (by omega))]
  | succ m ih =>
    intro i f hi hf
    obtain ⟨f, rfl⟩ : ∃ g, f = g + 1 := ⟨f - 1, by omega⟩
    obtain ⟨p, p1, p2, p3⟩ := h25 i (by omega)
    have ih' := ih (i + 1) f (by omega) (by omega)
    have e1 : cN (fun i => decide (kyA A ps i = kyA A ps (E.getD k 0))) (i + 1) = cN (fun i => decide (kyA A ps i = kyA A ps (E.getD k 0))) i + (if decide (kyA A ps i = kyA A ps (E.getD k 0)) = true then 1 else 0) := rfl
    have e2 : cN (fun i => decide (kyA A ps i = kyA A ps (E.getD k 0)) && kpR A qs ((allR A).getD i d0)) (i + 1) = cN (fun i => decide (kyA A ps i = kyA A ps (E.getD k 0)) && kpR A qs ((allR A).getD i d0)) i + (if (decide (kyA A ps i = kyA A ps (E.getD k 0)) && kpR A qs ((allR A).getD i d0)) = true then 1 else 0) := rfl
    rw [e1, e2] at ih'
    have h19 := (hst.2.1 i (by omega)).2
    have c1 : inb (nI i) 4000 = true := inb_nI (by omega) (by decide)
    have c2 : (nI i).toNatClampNeg = i := nI_clamp (by omega)
    generalize cN (fun i => decide (kyA A ps i = kyA A ps (E.getD k 0))) i = a at ih' ⊢
    generalize cN (fun i => decide (kyA A ps i = kyA A ps (E.getD k 0)) && kpR A qs ((allR A).getD i d0)) i = b at ih' ⊢
    rw [loop_s, LM_end_43]
    dsimp only
    rw [hst.1, if_neg (nI_ge (by omega) (by omega)), if_pos c1, c2, p3]
    by_cases e : p = k
    · have ek : kyA A ps i = kyA A ps (E.getD k 0) := by rw [← e]; exact p2.symm
      rw [decide_eq_true ek, if_pos rfl] at ih'
      rw [if_pos (show nI p = nI k by rw [e]), JM_end_70, rr_l_e]
      dsimp only
      rw [if_pos c1, c2, p3, if_pos (show nI p = nI k by rw [e]), h19, if_pos c1, nI_1]
      by_cases hkp : kpR A qs ((allR A).getD i d0) = true
      · rw [hkp, if_pos (show (true && true) = true from rfl)] at ih'
        rw [if_pos hkp, if_neg (show ¬ (1 : Int32) = 0 by decide), rr_l_e, nI_1, nI_1]
        exact ih'
      · rw [Bool.eq_false_iff.mpr hkp] at ih'
        rw [if_neg hkp, if_pos rfl, rr_l_e, show nI b + 0 = nI (b + 0) from nI_add b 0, nI_1]
        exact ih'
    · have ek : ¬ kyA A ps i = kyA A ps (E.getD k 0) := fun w => e (pw_one hE.2.1 p1 hk (p2.trans w))
      have ne : ¬ nI p = nI k := fun w => e ((nI_eq (by omega) (by omega)).mp w)
      rw [decide_eq_false ek] at ih'
      rw [if_neg ne, JM_end_70, rr_l_e]
      dsimp only
      rw [if_pos c1, c2, p3, if_neg ne, rr_l_e, show nI b + 0 = nI (b + 0) from nI_add b 0, show nI a + 0 = nI (a + 0) from nI_add a 0, nI_1]
      exact ih'
theorem pM_end (h : plX A qs ps M) (x y : Int32) : ∃ M', fM_end M x y = some (spEnd A qs ps x y, M') ∧ plE A qs ps M M' := by
  obtain ⟨h1, h2, h3, h4⟩ := h
  obtain ⟨M1, a1, a2, a3, a4, a5, a6⟩ := pM_playAll h1 h2 h3 h4
  refine ⟨M1, ?_, a2, a3, a4, a5⟩
  rw [fM_end, a1, Option.bind_some, spEnd]
  by_cases e : (allR A).length ≤ 4000
  · obtain ⟨E, b1, b2, b3, b4⟩ := a6 e
    have hEl := isE_len b3
    rw [if_pos e, if_pos e, if_neg (show ¬ (1 : Int32) = 0 by decide), enA_eq b3]
    dsimp only
    rw [b2.1, in_n (by omega), Option.bind_some]
    by_cases hx : x < 0 ∨ E.length ≤ x.toNatClampNeg
    · rw [if_pos hx, if_pos hx, if_pos rfl]
    · rw [if_neg hx, if_neg hx, if_neg (show ¬ (1 : Int32) = 0 by decide)]
      have hx0 : ¬ x < 0 := fun w => hx (Or.inl w)
      obtain ⟨k, hk, rfl⟩ := nI_of hx0
      rw [nI_clamp hk] at hx ⊢
      have hk' : k < E.length := by omega
      have hm := (b3.1 _ (getD_mem hk')).1
      have u := uM_end43 (qs := qs) (x2 := y) (v3 := nI (E.getD k 0)) e (a4.2 e) b3 b4 hk' (allR A).length 0 FU (Nat.zero_add _) (by show _ ≤ 5000; omega)
      have u' : rr_loop FU (LM_end_43 (nI k) y (1, M1) (nI (E.getD k 0))) (0, 0, 0) = _ := u
      obtain ⟨l1, l2, l3, -⟩ := b1 (E.getD k 0) hm
      rw [if_pos (inb_nI (by omega) (by decide)), rr_l_e, b2.2 k hk', u', JM_end_110]
      dsimp only
      have cE : inb (nI (E.getD k 0)) 4000 = true := inb_nI (by omega) (by decide)
      have cC : (nI (E.getD k 0)).toNatClampNeg = E.getD k 0 := nI_clamp (by omega)
      by_cases y0 : y = 0
      · rw [if_pos y0, if_pos y0, if_pos cE, cC, l2]
      · rw [if_neg y0, if_neg y0]
        by_cases y1 : y = 1
        · rw [if_pos y1, if_pos y1, if_pos cE, cC, l1]
        · rw [if_neg y1, if_neg y1]
          by_cases y2 : y = 2
          · rw [if_pos y2, if_pos y2]
          · rw [if_neg y2, if_neg y2]
            by_cases y3 : y = 3
            · rw [if_pos y3, if_pos y3]
            · rw [if_neg y3, if_neg y3]
              by_cases y4 : y = 4
              · rw [if_pos y4, if_pos y4, if_pos cE, cC, l3]
              · rw [if_neg y4, if_neg y4]
  · rw [if_neg e, if_neg e, if_pos rfl]
theorem pM_look (h : plX A qs ps M) (x y : Int32) : ∃ M', fM_look M x y = some (spLook A ps x y, M') ∧ plE A qs ps M M' := by
  have hA := h.1.1.1
  obtain ⟨h1, h2, h3, h4⟩ := h
  obtain ⟨M1, a1, a2, a3, a4, a5, a6⟩ := pM_playAll h1 h2 h3 h4
  refine ⟨M1, ?_, a2, a3, a4, a5⟩
  rw [fM_look, a1, Option.bind_some, spLook]
  by_cases e : (allR A).length ≤ 4000
  · obtain ⟨E, b1, b2, b3, b4⟩ := a6 e
    have hEl := isE_len b3
    rw [if_pos e, if_pos e, if_neg (show ¬ (1 : Int32) = 0 by decide), enA_eq b3]
    dsimp only
    rw [b2.1, in_n (by omega), Option.bind_some]
    by_cases hx : x < 0 ∨ E.length ≤ x.toNatClampNeg
    · rw [if_pos hx, if_pos rfl, if_pos (by rcases hx with hx | hx; exact Or.inl hx; exact Or.inr (Or.inr hx))]
    · rw [if_neg hx, if_neg (show ¬ (1 : Int32) = 0 by decide)]
      by_cases hy : y < 0
      · rw [if_neg (Int32.not_le.mpr hy), if_pos (Or.inr (Or.inl hy))]
      · have hx0 : ¬ x < 0 := fun w => hx (Or.inl w)
        obtain ⟨k, hk, rfl⟩ := nI_of hx0
        obtain ⟨i, hi, rfl⟩ := nI_of hy
        rw [nI_clamp hk] at hx ⊢
        rw [nI_clamp hi]
        have hk' : k < E.length := by omega
        have hm := (b3.1 _ (getD_mem hk')).1
        obtain ⟨l1, -, -, l4⟩ := b1 (E.getD k 0) hm
        have hl := (pyA_ok (ps := ps) hA h3 hm).1
        have cE : inb (nI (E.getD k 0)) 4000 = true := inb_nI (by omega) (by decide)
        have cC : (nI (E.getD k 0)).toNatClampNeg = E.getD k 0 := nI_clamp (by omega)
        have cK : inb (nI k) 4000 = true := inb_nI (by omega) (by decide)
        rw [if_pos (nI_pos' hi), if_pos cK, if_neg (show ¬ (nI k < 0 ∨ nI i < 0 ∨ E.length ≤ k) from fun w => by rcases w with w | w | w; exact hx0 w; exact hy w; omega), b2.2 k hk', if_pos cE, cC, l1]
        by_cases hy2 : i < (lkA A ps (E.getD k 0)).length
        · rw [if_neg (nI_ge hy2 (by omega)), if_pos hy2, if_pos cK, ix20, if_pos (inb_nI (by omega) (by decide)), nI_clamp (by omega), l4 i hy2]
        · rw [if_pos (nI_le (by omega) hi), if_neg hy2]
  · rw [if_neg e, if_neg e, if_pos rfl]
theorem pM_endOf (h : plX A qs ps M) (x : Int32) : ∃ M', fM_endOf M x = some (spEndOf A qs ps x, M') ∧ plE A qs ps M M' := by
  obtain ⟨h1, h2, h3, h4⟩ := h
  obtain ⟨M1, a1, a2, a3, a4, a5, a6⟩ := pM_playAll h1 h2 h3 h4
  refine ⟨M1, ?_, a2, a3, a4, a5⟩
  rw [fM_endOf, a1, Option.bind_some, spEndOf]
  by_cases e : (allR A).length ≤ 4000
  · obtain ⟨E, b1, b2, b3, b4⟩ := a6 e
    obtain ⟨g1, g2, g3, g4⟩ := a4.2 e
    have g3 : M1.1 25 = nI (keA A qs).length := g3
    have hl := keA_len (A := A) (qs := qs)
    rw [if_pos e, if_pos e, if_neg (show ¬ (1 : Int32) = 0 by decide)]
    dsimp only
    rw [g3, in_n (by omega), Option.bind_some]
    by_cases hx : x < 0 ∨ (keA A qs).length ≤ x.toNatClampNeg
    · rw [if_pos hx, if_pos hx, if_pos rfl]
    · rw [if_neg hx, if_neg hx, if_neg (show ¬ (1 : Int32) = 0 by decide)]
      have hx0 : ¬ x < 0 := fun w => hx (Or.inl w)
      obtain ⟨i, hi, rfl⟩ := nI_of hx0
      rw [nI_clamp hi] at hx ⊢
      have hi' : i < (keA A qs).length := by omega
      have hg := keA_get hi'
      have e18 : M1.2.1 18 i = nI ((keA A qs).getD i 0) := g4 i hi'
      obtain ⟨p, p1, p2, p3⟩ := b4 _ hg
      have hEn := enA_eq b3
      rw [if_pos (inb_nI (by omega) (by decide)), e18, if_pos (inb_nI (by omega) (by decide)), nI_clamp (by omega), p3, poA_eq (p := p) (by rw [hEn]; exact b3) (by rw [hEn]; exact p1) (by rw [hEn]; exact p2)]
  · rw [if_neg e, if_neg e, if_pos rfl]
end MEND
