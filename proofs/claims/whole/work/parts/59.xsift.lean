/-! ===== L3: the class: sift, many, kept, choice, object ===== -/
theorem keF_rng {A : Sh} {qs : List Ru} (L : List Rw) : keF A qs 0 L = (List.range L.length).filter (fun x => kpR A qs (L.getD x d0)) := by
  have key : ∀ n, n ≤ L.length → keF A qs 0 (L.take n) = (List.range n).filter (fun x => kpR A qs (L.getD x d0)) := by
    intro n
    induction n with
    | zero => intro _; rfl
    | succ n ih =>
      intro hn
      have hl : (L.take n).length = n := by rw [List.length_take]; omega
      rw [List.take_succ_eq_append_getElem (show n < L.length by omega), keF_one, hl, ih (by omega), List.range_succ, List.filter_append]
      congr 1
      have e : L.getD n d0 = L[n] := gD_g (show n < L.length by omega)
      by_cases h : kpR A qs L[n] = true
      · rw [if_pos h, List.filter_cons, if_pos (by rw [e]; exact h)]; rfl
      · rw [if_neg h, List.filter_cons, if_neg (by rw [e]; exact h)]; rfl
  have := key L.length (Nat.le_refl _)
  rw [List.take_length] at this
  exact this
/-- the rules from j on -/
noncomputable def frJ (A : Sh) (qs : List Ru) (j x : Nat) : Bool := (qs.drop j).all (fun q => hol A q (hpR A ((allR A).getD x d0)))
theorem keF_sift {A : Sh} {qs : List Ru} (j : Nat) : keF A qs 0 (allR A) = (keF A (qs.take j) 0 (allR A)).filter (frJ A qs j) := by
  rw [keF_rng, keF_rng, List.filter_filter]
  apply List.filter_congr
  intro x _
  unfold kpR frJ
  conv => lhs; rw [← List.take_append_drop j qs]
  rw [List.all_append, Bool.and_comm]
section XSIFT
variable {A : Sh} {P : rr_T} {qs : List Ru}
theorem liX_of {S S' : rr_T} {is as ls : List Nat} {r : Rw} (f : frY is as ls S S') (h1 : ∀ n ∈ [275, 289], n ∉ is) (h3 : 19 ∉ ls) (h : liX A S) (hok : okR A r.2 r.1) (hc : cuX A S' r) : liX A S' := ⟨by rw [f.1.1 275 (h1 275 (by simp))]; exact h.1, rowsX_fr f (h1 289 (by simp)) h3 h.2.1, r, hok, hc⟩
theorem frX_li {S S' : rr_T} (f : frX hR hQ S S') : frY lR lQ [19, 20] S S' := frY_x (frX_w f (by simp) (by simp))
theorem uX_sift27 {K : List Nat} {j u v : Nat} (hV : okV A) (hQ : ∀ q ∈ qs, okQ A q) (h4 : (allR A).length ≤ 4000) (hj : j ≤ qs.length) (hK : ∀ x ∈ K, x < (allR A).length) (hKl : K.length ≤ 4000) : ∀ (m i f : Nat) (S : rr_T), i + m = K.length → m + 1 ≤ f → shX S A → rsX P S qs → capX S → liX A S → S.1 278 = nI j → S.1 277 = nI K.length → K.length ≤ S.2.2.2 20 → (∀ p, p < ((K.take i).filter (frJ A qs j)).length → S.2.1 20 p = nI (((K.take i).filter (frJ A qs j)).getD p 0)) → (∀ p, i ≤ p → p < K.length → S.2.1 20 p = nI (K.getD p 0)) → ∃ S', rr_loop f (LX0_sift_27 P) (nI ((K.take i).filter (frJ A qs j)).length, nI i, S, u, v) = some (1, S', u, v) ∧ frX lR lQ S S' ∧ liX A S' ∧ S'.1 278 = nI qs.length ∧ kpX S' (K.filter (frJ A qs j)) := by
  intro m
  induction m with
  | zero =>
    intro i f S hi hf hS hr hcp hli e278 e277 hcap hp1 hp2
    obtain ⟨f, rfl⟩ : ∃ g, f = g + 1 := ⟨f - 1, by omega⟩
    obtain rfl : i = K.length := by omega
    rw [List.take_length] at hp1 ⊢
    have hfl : (K.filter (frJ A qs j)).length ≤ K.length := List.length_filter_le _ _
    have f1 : frX [277, 278] [] S (pI (pI S 277 (nI (K.filter (frJ A qs j)).length)) 278 (nI qs.length)) := frX_pI (frX_pI (frX_r _ _ _) (by simp)) (by simp)
    obtain ⟨g1, g2, r, g3, g4⟩ := hli
    refine ⟨pI (pI S 277 (nI (K.filter (frJ A qs j)).length)) 278 (nI qs.length), ?_, frX_w f1 (by simp) (by simp), ?_, pI_s _ _ _, by rw [pI_n (by decide), pI_s], by show _ ≤ S.2.2.2 20; omega, hp1⟩
    · rw [loop_s, LX0_sift_27]
      dsimp only
      rw [e277, if_pos (nI_le (Nat.le_refl _) (by omega)), JX0_sift_88]
      dsimp only
      have e97 : (pI S 277 (nI (K.filter (frJ A qs j)).length)).1 97 = nI qs.length := hr.1
      rw [rr_l_e, e97, rr_l_e]
    · exact liX_of (ls := []) (r := r) (frY_x f1) (by simp) (by simp) ⟨g1, g2, r, g3, g4⟩ g3 (cuX_fr f1 (by simp) (by simp) g4)
  | succ m ih =>
    intro i f S hi hf hS hr hcp hli e278 e277 hcap hp1 hp2
    obtain ⟨f, rfl⟩ : ∃ g, f = g + 1 := ⟨f - 1, by omega⟩
    have hiK : i < K.length := by omega
    have hx := hK _ (getD_mem hiK)
    obtain ⟨a, ha, ec⟩ := hcp.2.2.2.2.1
    have hpa : 2 ^ a ≤ 2 ^ 8 := Nat.pow_le_pow_right (by decide) ha
    obtain ⟨g1, g2, r, g3, g4⟩ := hli
    obtain ⟨S1, b1, b2, b3⟩ := pX_load (P := P) hV.1 hS g3 g4 g2 (by omega) hx rfl (allR_get hx)
    have hS1 := shX_fr b2 (by simp) (by simp) hS
    have hr1 : rsX P S1 qs := rsX_fr (ls := []) (frY_x b2) (by simp) hr
    have hw := allR_get hx
    have hli1 : liX A S1 := liX_of (ls := []) (frY_x b2) (by simp) (by simp) ⟨g1, g2, r, g3, g4⟩ hw.1 b3
    have e278' : S1.1 278 = nI j := by rw [frX_1 b2 (by simp)]; exact e278
    have e0 : rr_loop (f + 1) (LX0_sift_27 P) (nI ((K.take i).filter (frJ A qs j)).length, nI i, S, u, v) = if (if frJ A qs j (K.getD i 0) = true then (1 : Int32) else 0) = 0 then rr_loop f (LX0_sift_27 P) (nI ((K.take i).filter (frJ A qs j)).length, nI (i + 1), S1, u, v) else if inb (nI ((K.take i).filter (frJ A qs j)).length) (S1.2.2.2 20) = true then rr_loop f (LX0_sift_27 P) (nI (((K.take i).filter (frJ A qs j)).length + 1), nI (i + 1), pA S1 20 (nI ((K.take i).filter (frJ A qs j)).length) (nI (K.getD i 0)), u, v) else none := by
      rw [loop_s, LX0_sift_27]
      dsimp only
      rw [e277, if_neg (nI_ge hiK (by omega)), if_pos (inb_nI (show i < S.2.2.2 20 by omega) (by omega)), nI_clamp (by omega), hp2 i (Nat.le_refl _) hiK, rr_l_e, b1, Option.bind_some, e278', pX_holdFrom hV hS1 (hpR_ok hV.1 hw) (hpX_of hV.1 hw b3) hr1 hQ hj, Option.bind_some, nI_1, nI_1]
      rfl
    have etk : K.take (i + 1) = K.take i ++ [K.getD i 0] := by rw [List.take_succ_eq_append_getElem hiK, gD_g hiK]
    have hfl : ((K.take i).filter (frJ A qs j)).length ≤ i := by
      have := List.length_filter_le (frJ A qs j) (K.take i)
      rw [List.length_take] at this
      omega
    have hcap1 : K.length ≤ S1.2.2.2 20 := by rw [b2.2]; exact hcap
    have ec1 : S1.2.2.2 20 = 16 * 2 ^ a := by rw [b2.2]; exact ec
    rw [e0]
    have ih' := fun S => ih (i + 1) f S (by omega) (by omega)
    rw [etk, List.filter_append] at ih'
    by_cases hk : frJ A qs j (K.getD i 0) = true
    · rw [show [K.getD i 0].filter (frJ A qs j) = [K.getD i 0] by rw [List.filter_cons, if_pos hk]; rfl] at ih'
      have f2 : frX lR lQ S1 (pA S1 20 (nI ((K.take i).filter (frJ A qs j)).length) (nI (K.getD i 0))) := frX_pA (frX_r _ _ _) (by simp)
      have f2' : frX [] [20] S1 (pA S1 20 (nI ((K.take i).filter (frJ A qs j)).length) (nI (K.getD i 0))) := frX_pA (frX_r _ _ _) (by simp)
      have hli2 : liX A (pA S1 20 (nI ((K.take i).filter (frJ A qs j)).length) (nI (K.getD i 0))) := liX_of (ls := []) (frY_x f2') (by simp) (by simp) hli1 hw.1 (cuX_fr f2' (by simp) (by simp) b3)
      obtain ⟨S', c1, c2, c3, c4, c5⟩ := ih' _ (shX_fr f2' (by simp) (by simp) hS1) (rsX_fr (ls := []) (frY_x f2') (by simp) hr1) (capX_x f2' (capX_x b2 hcp)) hli2 e278' (by rw [frX_1 f2' (by simp), frX_1 b2 (by simp)]; exact e277) hcap1 (fun p hp => by
        rw [List.length_append, List.length_singleton] at hp
        rw [pA_s, nI_clamp (by omega)]
        by_cases e : p = ((K.take i).filter (frJ A qs j)).length
        · rw [e, upd_s, gD_e]
        · rw [upd_n e, gD_l (by omega), frX_2 b2 (by simp)]
          exact hp1 p (by omega)) (fun p h1 h2 => by
        rw [pA_s, nI_clamp (by omega), upd_n (by omega), frX_2 b2 (by simp)]
        exact hp2 p (by omega) h2)
      rw [if_pos hk, if_neg (show ¬ (1 : Int32) = 0 by decide), if_pos (inb_nI (by omega) (by omega))]
      rw [List.length_append, List.length_singleton] at c1
      exact ⟨S', c1, frX_t (frX_w b2 (by simp) (by simp)) (frX_t f2 c2), c3, c4, c5⟩
    · rw [show [K.getD i 0].filter (frJ A qs j) = [] by rw [List.filter_cons, if_neg hk]; rfl, List.append_nil] at ih'
      obtain ⟨S', c1, c2, c3, c4, c5⟩ := ih' S1 hS1 hr1 (capX_x b2 hcp) hli1 e278' (by rw [frX_1 b2 (by simp)]; exact e277) hcap1 (fun p hp => by rw [frX_2 b2 (by simp)]; exact hp1 p hp) (fun p h1 h2 => by rw [frX_2 b2 (by simp)]; exact hp2 p (by omega) h2)
      rw [if_neg hk, if_pos rfl]
      exact ⟨S', c1, frX_t (frX_w b2 (by simp) (by simp)) c2, c3, c4, c5⟩
/-- what every asking of X begins from -/
def xI (A : Sh) (qs : List Ru) (P S : rr_T) : Prop := okV A ∧ (∀ q ∈ qs, okQ A q) ∧ shX S A ∧ rsX P S qs ∧ capX S ∧ caX A qs S
/-- and comes to: rows told -/
def xE (A : Sh) (qs : List Ru) (S : rr_T) (u v : Nat) (S' : rr_T) (u' v' : Nat) : Prop := frY lR lQ [19, 20] S S' ∧ liX A S' ∧ sfX A qs S' ∧ capX S' ∧ pt S u v S' u' v'
theorem pX_sift {S : rr_T} {u v : Nat} (h : xI A qs P S) : ∃ S' u' v', fX0_sift P S u v = some ((if (allR A).length ≤ 4000 then 1 else 0), S', u', v') ∧ xE A qs S u v S' u' v' ∧ ((allR A).length ≤ 4000 → kpX S' (keA A qs) ∧ S'.1 278 = nI qs.length) := by
  obtain ⟨hV, hQ, hS, hr, hcp, hc⟩ := h
  obtain ⟨S1, u1, v1, a1, a2, a3, a4, a5, a6, -⟩ := pX_list (P := P) (u := u) (v := v) hV.1 hS hcp hc
  have hS1 : shX S1 A := by
    unfold shX
    rw [a2.1.1 20 (by simp), a2.1.1 21 (by simp), a2.1.1 22 (by simp), a2.1.2 2 (by simp), a2.1.2 3 (by simp), a2.1.2 4 (by simp), a2.1.2 5 (by simp)]
    exact hS
  have hr1 : rsX P S1 qs := rsX_fr a2 (by simp) hr
  rw [fX0_sift, a1, Option.bind_some]
  dsimp only
  by_cases h4 : (allR A).length ≤ 4000
  · rw [if_pos h4, if_neg (show ¬ (1 : Int32) = 0 by decide), hr1.1]
    obtain ⟨j, j1, j2, j3⟩ := a4 h4
    have h6 := hr1.2.1
    rw [j2]
    by_cases hj : qs.length ≤ j
    · obtain rfl : j = qs.length := by omega
      rw [if_pos (nI_le hj (by omega))]
      rw [List.take_length] at j3
      exact ⟨S1, u1, v1, rfl, ⟨a2, a3, a4, a5, a6⟩, fun _ => ⟨j3, j2⟩⟩
    · rw [if_neg (nI_ge (by omega) (by omega))]
      have hkl := keF_len (A := A) (qs := qs.take j) (allR A) 0
      obtain ⟨S2, b1, b2, b3, b4, b5⟩ := uX_sift27 (P := P) (u := u1) (v := v1) (K := keF A (qs.take j) 0 (allR A)) hV hQ h4 j1 (fun x hx => by have := keF_in _ _ _ hx; omega) (by omega) (keF A (qs.take j) 0 (allR A)).length 0 FU S1 (Nat.zero_add _) (by show _ ≤ 5000; omega) hS1 hr1 a5 a3 j2 j3.1 j3.2.1 (fun p hp => absurd hp (Nat.not_lt_zero _)) (fun p _ hp => j3.2.2 p hp)
      have b1' : rr_loop FU (LX0_sift_27 P) (0, 0, S1, u1, v1) = some (1, S2, u1, v1) := b1
      rw [← keF_sift] at b5
      have b5 : kpX S2 (keA A qs) := b5
      exact ⟨S2, u1, v1, b1', ⟨frY_t a2 (frY_x b2), b3, fun _ => ⟨qs.length, Nat.le_refl _, b4, by rw [List.take_length]; exact b5⟩, capX_x b2 a5, pt_t a6 (pt_x b2)⟩, fun _ => ⟨b5, b4⟩⟩
  · rw [if_neg h4, if_pos rfl]
    exact ⟨S1, u1, v1, rfl, ⟨a2, a3, a4, a5, a6⟩, fun z => absurd z h4⟩
theorem pX_many {S : rr_T} {u v : Nat} (h : xI A qs P S) : ∃ S' u' v', fX10_many P S u v = some ((if (allR A).length ≤ 4000 then nI (allR A).length else -104), S', u', v') ∧ xE A qs S u v S' u' v' := by
  obtain ⟨hV, hQ, hS, hr, hcp, hc⟩ := h
  obtain ⟨S1, u1, v1, a1, a2, a3, a4, a5, a6, -⟩ := pX_list (P := P) (u := u) (v := v) hV.1 hS hcp hc
  refine ⟨S1, u1, v1, ?_, a2, a3, a4, a5, a6⟩
  rw [fX10_many, a1, Option.bind_some]
  dsimp only
  by_cases h4 : (allR A).length ≤ 4000
  · rw [if_pos h4, if_pos h4, if_neg (show ¬ (1 : Int32) = 0 by decide), a3.2.1.1]
  · rw [if_neg h4, if_neg h4, if_pos rfl]
theorem pX_kept {S : rr_T} {u v : Nat} (h : xI A qs P S) : ∃ S' u' v', fX10_kept P S u v = some ((if (allR A).length ≤ 4000 then nI (keA A qs).length else -104), S', u', v') ∧ xE A qs S u v S' u' v' := by
  obtain ⟨S1, u1, v1, a1, a2, a3⟩ := pX_sift (u := u) (v := v) h
  refine ⟨S1, u1, v1, ?_, a2⟩
  rw [fX10_kept, a1, Option.bind_some]
  dsimp only
  by_cases h4 : (allR A).length ≤ 4000
  · rw [if_pos h4, if_pos h4, if_neg (show ¬ (1 : Int32) = 0 by decide), (a3 h4).1.1]
  · rw [if_neg h4, if_neg h4, if_pos rfl]
/-- another cursor -/
theorem xE_cu {S S' S'' : rr_T} {u v u' v' : Nat} {r : Rw} (h : xE A qs S u v S' u' v') (f : frX hR hQ S' S'') (hok : okR A r.2 r.1) (hc : cuX A S'' r) : xE A qs S u v S'' u' v' := by
  obtain ⟨a2, a3, a4, a5, a6⟩ := h
  refine ⟨frY_t a2 (frX_li f), liX_of (ls := []) (frY_x f) (by simp) (by simp) a3 hok hc, fun h4 => ?_, capX_x f a5, pt_t a6 (pt_x f)⟩
  obtain ⟨j, j1, j2, j3⟩ := a4 h4
  exact ⟨j, j1, by rw [frX_1 f (by simp)]; exact j2, kpX_fr (ls := []) (frY_x f) (by simp) (by simp) (by simp) j3⟩
theorem xE_sh {S S' : rr_T} {u v u' v' : Nat} (h : xE A qs S u v S' u' v') (hS : shX S A) : shX S' A := by
  have a2 := h.1
  unfold shX
  rw [a2.1.1 20 (by simp), a2.1.1 21 (by simp), a2.1.1 22 (by simp), a2.1.2 2 (by simp), a2.1.2 3 (by simp), a2.1.2 4 (by simp), a2.1.2 5 (by simp)]
  exact hS
theorem pX_loadKept {S : rr_T} (hA : okA A) (hS : shX S A) (hli : liX A S) (hcp : capX S) (h4 : (allR A).length ≤ 4000) (hk : kpX S (keA A qs)) (x : Int32) : (out x (keA A qs).length → fX0_loadKept P S x = some (0, S)) ∧ (¬ out x (keA A qs).length → ∃ S', fX0_loadKept P S x = some (1, S') ∧ frX hR hQ S S' ∧ cuX A S' (keR A qs x.toNatClampNeg)) := by
  have hl := keA_len (A := A) (qs := qs)
  have e : fX0_isKeptNumber P S x = @ite _ (out x (keA A qs).length) (Classical.propDecidable _) (some 0) (some 1) := by
    rw [fX0_isKeptNumber, hk.1, tst_o (by omega)]
  constructor
  · intro h
    rw [fX0_loadKept, e, if_pos h, Option.bind_some, if_pos rfl]
  · intro h
    obtain ⟨i, hi, rfl, hi31⟩ := out_of h
    obtain ⟨a, ha, ec⟩ := hcp.2.2.2.2.1
    have hpa : 2 ^ a ≤ 2 ^ 8 := Nat.pow_le_pow_right (by decide) ha
    have hg := keA_get hi
    obtain ⟨g1, g2, r, g3, g4⟩ := hli
    obtain ⟨S1, b1, b2, b3⟩ := pX_load (P := P) hA hS g3 g4 g2 (by omega) hg rfl (allR_get hg)
    rw [nI_clamp hi31]
    refine ⟨S1, ?_, b2, b3⟩
    rw [fX0_loadKept, e, if_neg h, Option.bind_some, if_neg (show ¬ (1 : Int32) = 0 by decide), if_pos (inb_nI (show i < S.2.2.2 20 by have := hk.2.1; omega) (by omega)), nI_clamp hi31, hk.2.2 i hi, b1]
    rfl
theorem pX_choice {S : rr_T} {u v : Nat} (h : xI A qs P S) (x y : Int32) : ∃ S' u' v', fX10_choice P S x y u v = some (spChoice A qs x y, S', u', v') ∧ xE A qs S u v S' u' v' := by
  obtain ⟨S1, u1, v1, a1, a2, a3⟩ := pX_sift (u := u) (v := v) h
  rw [fX10_choice, a1, Option.bind_some, spChoice]
  dsimp only
  by_cases h4 : (allR A).length ≤ 4000
  · rw [if_pos h4, if_pos h4, if_neg (show ¬ (1 : Int32) = 0 by decide)]
    obtain ⟨l1, l2⟩ := pX_loadKept (P := P) (qs := qs) h.1.1 (xE_sh a2 h.2.2.1) a2.2.1 a2.2.2.2.1 h4 (a3 h4).1 x
    by_cases ho : out x (keA A qs).length
    · rw [l1 ho, Option.bind_some]
      dsimp only
      rw [if_pos rfl, if_pos (by rcases ho with ho | ho; exact Or.inl ho; exact Or.inr (Or.inr ho))]
      exact ⟨S1, u1, v1, rfl, a2⟩
    · obtain ⟨S2, b1, b2, b3⟩ := l2 ho
      obtain ⟨i, hi, rfl, hi31⟩ := out_of ho
      rw [nI_clamp hi31] at b3 ⊢
      have hw : okW A (keR A qs i) := keR_ok hi
      have h22 := okR_22 hw.1
      rw [b1, Option.bind_some]
      dsimp only
      rw [if_neg (show ¬ (1 : Int32) = 0 by decide)]
      have hE := xE_cu a2 b2 hw.1 b3
      by_cases hy : y < 0
      · rw [if_neg (Int32.not_le.mpr hy), if_pos (Or.inr (Or.inl hy))]
        exact ⟨S2, u1, v1, rfl, hE⟩
      · obtain ⟨k, hk, rfl⟩ := nI_of hy
        rw [if_pos (nI_pos' hk), nI_clamp hk, if_neg (show ¬ (nI i < 0 ∨ nI k < 0 ∨ (keA A qs).length ≤ i) from fun w => by rcases w with w | w | w; exact nI_pos hi31 w; exact hy w; omega), fX2_choiceAt, if_neg hy, b3.1]
        by_cases hlt : k < (keR A qs i).1
        · rw [if_neg (nI_ge hlt (by omega)), if_pos (inb_nI (by omega) (by decide)), nI_clamp hk, b3.2.2.2.2.2.2.1 k hlt, Option.bind_some, if_pos hlt]
          exact ⟨S2, u1, v1, rfl, hE⟩
        · rw [if_pos (nI_le (by omega) hk), Option.bind_some, if_neg hlt]
          exact ⟨S2, u1, v1, rfl, hE⟩
  · rw [if_neg h4, if_neg h4, if_pos rfl]
    exact ⟨S1, u1, v1, rfl, a2⟩
theorem pX_object {S : rr_T} {u v : Nat} (h : xI A qs P S) (x y z : Int32) : ∃ S' u' v', fX10_object P S x y z u v = some (spObject A qs x y z, S', u', v') ∧ xE A qs S u v S' u' v' := by
  obtain ⟨S1, u1, v1, a1, a2, a3⟩ := pX_sift (u := u) (v := v) h
  have hA := h.1.1
  rw [fX10_object, a1, Option.bind_some, spObject]
  dsimp only
  by_cases h4 : (allR A).length ≤ 4000
  · rw [if_pos h4, if_pos h4, if_neg (show ¬ (1 : Int32) = 0 by decide)]
    obtain ⟨l1, l2⟩ := pX_loadKept (P := P) (qs := qs) hA (xE_sh a2 h.2.2.1) a2.2.1 a2.2.2.2.1 h4 (a3 h4).1 x
    by_cases ho : out x (keA A qs).length
    · rw [l1 ho, Option.bind_some]
      dsimp only
      rw [if_pos rfl, if_pos (show x < 0 ∨ (keA A qs).length ≤ x.toNatClampNeg from ho)]
      exact ⟨S1, u1, v1, rfl, a2⟩
    · obtain ⟨S2, b1, b2, b3⟩ := l2 ho
      rw [if_neg (show ¬ (x < 0 ∨ (keA A qs).length ≤ x.toNatClampNeg) from ho)]
      obtain ⟨i, hi, rfl, hi31⟩ := out_of ho
      rw [nI_clamp hi31] at b3 ⊢
      have hw : okW A (keR A qs i) := keR_ok hi
      have hE := xE_cu a2 b2 hw.1 b3
      have hS2 := shX_fr b2 (by simp) (by simp) (xE_sh a2 h.2.2.1)
      have hH := hpR_ok hA hw
      have hp := hpX_of hA hw b3
      have h5 := hH.1
      have hK := hA.1
      generalize hpR A (keR A qs i) = H at hH hp h5 ⊢
      rw [b1, Option.bind_some]
      dsimp only
      rw [if_neg (show ¬ (1 : Int32) = 0 by decide), fX2_isMet, hp.1, tst_o (by omega)]
      by_cases hy : out y H.1.length
      · rw [if_pos hy, Option.bind_some, if_pos rfl, if_pos (show y < 0 ∨ H.1.length ≤ y.toNatClampNeg from hy)]
        exact ⟨S2, u1, v1, rfl, hE⟩
      · rw [if_neg hy, Option.bind_some, if_neg (show ¬ (1 : Int32) = 0 by decide), if_neg (show ¬ (y < 0 ∨ H.1.length ≤ y.toNatClampNeg) from hy)]
        obtain ⟨o, ho', rfl, ho31⟩ := out_of hy
        have hko := hH.2.1 _ (getD_mem ho')
        have hC := hA.2.2.2.2.1 (H.1.getD o 0) (by omega)
        have ek : fX2_kindOf P S2 (nI o) = some (nI (H.1.getD o 0)) := pX_kindOf h5 hp.1 hp.2.1 ho'
        rw [nI_clamp ho31, ek, Option.bind_some, Option.bind_some]
        by_cases z0 : z = 0
        · subst z0
          rw [if_pos rfl, if_neg (show ¬ ((0 : Int32) < 0 ∨ shC A (H.1.getD o 0) < (0 : Int32).toNatClampNeg) from fun w => by rcases w with w | w; exact absurd w (by decide); exact absurd w (Nat.not_lt_zero _)), if_pos (show (0 : Int32).toNatClampNeg = 0 by decide)]
          exact ⟨S2, u1, v1, rfl, hE⟩
        · rw [if_neg z0]
          by_cases zn : z < 0
          · rw [if_pos (show z < 1 from Int32.lt_trans zn (by decide)), if_pos (show z < 0 ∨ shC A (H.1.getD o 0) < z.toNatClampNeg from Or.inl zn)]
            exact ⟨S2, u1, v1, rfl, hE⟩
          · obtain ⟨f, hf, rfl⟩ := nI_of zn
            have hf0 : ¬ f = 0 := fun w => z0 (by rw [w]; rfl)
            obtain ⟨g, rfl⟩ : ∃ g, f = g + 1 := ⟨f - 1, by omega⟩
            rw [if_neg (show ¬ nI (g + 1) < 1 from nI_nlt (b := 1) (by omega) hf), pX_fieldsOf hA hS2 hko, Option.bind_some, nI_clamp hf]
            by_cases hle : g + 1 ≤ shC A (H.1.getD o 0)
            · rw [if_pos (nI_le hle (by omega)), nI_pred, pX_tells hp h5 ho' (by omega), Option.bind_some, hp.2.2.1 o g ho' (by omega), if_neg (show ¬ (nI (g + 1) < 0 ∨ shC A (H.1.getD o 0) < g + 1) from fun w => by rcases w with w | w; exact zn w; omega), if_neg hf0, show g + 1 - 1 = g from rfl]
              exact ⟨S2, u1, v1, rfl, hE⟩
            · rw [if_neg (nI_ge (by omega) hf), if_pos (show nI (g + 1) < 0 ∨ shC A (H.1.getD o 0) < g + 1 from Or.inr (by omega))]
              exact ⟨S2, u1, v1, rfl, hE⟩
  · rw [if_neg h4, if_neg h4, if_pos rfl]
    exact ⟨S1, u1, v1, rfl, a2⟩
end XSIFT
