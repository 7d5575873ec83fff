/-! ===== L3: the class: its heap's cursor ===== -/
abbrev hR : List Nat := [167, 168, 169, 170]
abbrev hQ : List Nat := [11, 12, 13, 14, 15, 16]
/-- X's cursor stands behind the choices of r -/
def cuX (A : Sh) (S : rr_T) (r : Rw) : Prop := S.1 167 = nI r.1 ∧ S.1 168 = nI (ob r.2 r.1).length ∧ (sl A r.2 r.1 = none → S.1 169 = -1 ∧ S.1 170 = -1) ∧ (∀ s t, sl A r.2 r.1 = some s → typ A (ob r.2 r.1) s = some t → S.1 169 = nI s ∧ S.1 170 = nI t) ∧ (∀ j, j < (ob r.2 r.1).length → S.2.1 11 j = nI ((ob r.2 r.1).getD j 0)) ∧ (∀ s t, typ A (ob r.2 r.1) s = some t → (∀ w, sl A r.2 r.1 = some w → s < w) → S.2.1 12 s = mv t (td A r.2 r.1 s)) ∧ (∀ p, p < r.1 → S.2.1 13 p = nI (r.2 p)) ∧ ∀ p s t, p < r.1 → sl A r.2 p = some s → typ A (ob r.2 p) s = some t → S.2.1 14 p = nI s ∧ S.2.1 15 p = nI t ∧ S.2.1 16 p = nI (ob r.2 p).length
theorem cuX_fr {is as : List Nat} {A : Sh} {S S' : rr_T} {r : Rw} (f : frX is as S S') (h1 : ∀ n ∈ hR, n ∉ is) (h2 : ∀ n ∈ hQ, n ∉ as) (h : cuX A S r) : cuX A S' r := by
  unfold cuX
  rw [f.1.1 167 (h1 167 (by simp)), f.1.1 168 (h1 168 (by simp)), f.1.1 169 (h1 169 (by simp)), f.1.1 170 (h1 170 (by simp)), f.1.2 11 (h2 11 (by simp)), f.1.2 12 (h2 12 (by simp)), f.1.2 13 (h2 13 (by simp)), f.1.2 14 (h2 14 (by simp)), f.1.2 15 (h2 15 (by simp)), f.1.2 16 (h2 16 (by simp))]
  exact h
section XHEAP
variable {A : Sh} {P : rr_T}
theorem pX_kindOf {S : rr_T} {ks : List Nat} (h5 : ks.length ≤ 5) (e168 : S.1 168 = nI ks.length) (e11 : ∀ j, j < ks.length → S.2.1 11 j = nI (ks.getD j 0)) {o : Nat} (ho : o < ks.length) : fX2_kindOf P S (nI o) = some (nI (ks.getD o 0)) := by
  rw [fX2_kindOf, e168, if_neg (nI_pos (by omega)), if_neg (nI_ge ho (by omega)), if_pos (inb_nI (by omega) (by decide)), nI_clamp (by omega), e11 o ho]
theorem uX_wait {ks : List Nat} (hA : okA A) (h5 : ks.length ≤ 5) (hk : ∀ k ∈ ks, k < shK A) : ∀ (m s f : Nat) (S : rr_T), 22 ≤ s + m → m + 1 ≤ f → s < 2 ^ 20 → shX S A → S.1 168 = nI ks.length → (∀ j, j < ks.length → S.2.1 11 j = nI (ks.getD j 0)) → ∃ S', rr_loop f (LX2_waitFrom_11 P (nI (2 + ks.length * 4))) (nI s, S) = some S' ∧ frX [169, 170] [] S S' ∧ (wai A ks s = none → S'.1 169 = -1 ∧ S'.1 170 = -1) ∧ ∀ w t, wai A ks s = some w → typ A ks w = some t → S'.1 169 = nI w ∧ S'.1 170 = nI t := by
  have hK := hA.1
  have hI := hA.2.1
  have fin : ∀ (s f : Nat) (S : rr_T), 2 + ks.length * 4 ≤ s → s < 2 ^ 20 → ∃ S', rr_loop (f + 1) (LX2_waitFrom_11 P (nI (2 + ks.length * 4))) (nI s, S) = some S' ∧ frX [169, 170] [] S S' ∧ (wai A ks s = none → S'.1 169 = -1 ∧ S'.1 170 = -1) ∧ ∀ w t, wai A ks s = some w → typ A ks w = some t → S'.1 169 = nI w ∧ S'.1 170 = nI t := by
    intro s f S h1 h2
    refine ⟨pI (pI S 169 (-1)) 170 (-1), ?_, frX_pI (frX_pI (frX_r _ _ _) (by simp)) (by simp), fun _ => ⟨by rw [pI_n (by decide), pI_s], pI_s _ _ _⟩, fun w t hw _ => ?_⟩
    · rw [loop_s, LX2_waitFrom_11]
      dsimp only
      rw [if_pos (nI_le h1 (by omega)), JX2_waitFrom_80, rr_l_e, rr_l_e]
    · rw [wai_none (fun j hj => ?_)] at hw
      · cases hw
      · cases e : typ A ks j with
        | none => rfl
        | some t => have := typ_lt hA hk e; omega
  intro m
  induction m with
  | zero =>
    intro s f S hs hf h20 hS e168 e11
    obtain ⟨f, rfl⟩ : ∃ g, f = g + 1 := ⟨f - 1, by omega⟩
    exact fin s f S (by omega) h20
  | succ m ih =>
    intro s f S hs hf h20 hS e168 e11
    obtain ⟨f, rfl⟩ : ∃ g, f = g + 1 := ⟨f - 1, by omega⟩
    by_cases hb : 2 + ks.length * 4 ≤ s
    · exact fin s f S hb h20
    · have e0 : LX2_waitFrom_11 P (nI (2 + ks.length * 4)) (rr_loop f (LX2_waitFrom_11 P (nI (2 + ks.length * 4)))) (nI s, S) = JX2_waitFrom_57 (rr_loop f (LX2_waitFrom_11 P (nI (2 + ks.length * 4)))) (nI s, S) (oI (typ A ks s)) := by
        rw [LX2_waitFrom_11]
        dsimp only
        rw [if_neg (nI_ge (by omega) (by omega)), rr_l_e]
        by_cases h2 : s < 2
        · rw [if_neg (show ¬ (0 : Int32) ≤ nI s - 2 from Int32.not_le.mpr (pk_sneg (b := 2) (by decide) h2)), typ_i h2, fX8_typeOfInput, hS.2.1, if_neg (nI_pos (by omega))]
          by_cases hi : s < shI A
          · rw [if_neg (nI_ge hi (by omega)), if_pos (inb_nI h2 (by decide)), nI_clamp (by omega), hS.2.2.2.2.2.2 s hi, Option.bind_some, if_pos hi]
            rfl
          · rw [if_pos (nI_le (by omega) (by omega)), Option.bind_some, if_neg hi]
            rfl
        · obtain ⟨d, rfl⟩ : ∃ d, s = d + 2 := ⟨s - 2, by omega⟩
          have ho : d / 4 < ks.length := by omega
          have hko := hk _ (getD_mem ho)
          rw [show nI (d + 2) - 2 = nI d from pk_sub (a := d + 2) (b := 2) (by omega), if_pos (nI_pos' (by omega)), show nI d / 4 = nI (d / 4) from pk_div (d := 4) (by omega) (by decide) (by decide), pX_kindOf h5 e168 e11 ho, Option.bind_some, show nI d - nI (d / 4) * 4 = nI (d % 4) from by have := pk_rem (a := d) (d := 4) (by omega) (by decide) (by decide); rw [← this, show nI d / nI 4 = nI (d / 4) from pk_div (d := 4) (by omega) (by decide) (by decide)]; rfl]
          have et : typ A ks (d + 2) = if d % 4 < shC A (ks.getD (d / 4) 0) then some (shT A (ks.getD (d / 4) 0) (d % 4)) else none := by
            have := typ_f (A := A) (f := d % 4) ho (by omega)
            rw [← this]
            congr 1
            omega
          rw [et]
          obtain ⟨t1, t2⟩ := pX_typeOf (P := P) hA hS hko (nI (d % 4))
          by_cases hf' : d % 4 < shC A (ks.getD (d / 4) 0)
          · rw [t2 _ hf' rfl, Option.bind_some, if_pos hf']; rfl
          · rw [t1 ((out_nI (by omega)).mpr (by omega)), Option.bind_some, if_neg hf']; rfl
      have h22 : s < 22 := by omega
      cases et : typ A ks s with
      | none =>
        obtain ⟨S', b1, b2, b3, b4⟩ := ih (s + 1) f (pI S 170 (-1)) (by omega) (by omega) (by omega) (shX_fr (frX_pI (frX_r [170] [] S) (by simp)) (by simp) (by simp) hS) e168 e11
        refine ⟨S', ?_, frX_t (frX_pI (frX_r _ _ _) (by simp)) b2, by rw [wai_skip et]; exact b3, by rw [wai_skip et]; exact b4⟩
        rw [loop_s, e0, et, JX2_waitFrom_57, rr_l_e]
        dsimp only
        rw [pI_s, if_pos (show oI none = -1 from rfl), nI_1]
        exact b1
      | some t =>
        have ht := typ_in hA hk et
        refine ⟨pI (pI S 170 (nI t)) 169 (nI s), ?_, frX_pI (frX_pI (frX_r _ _ _) (by simp)) (by simp), fun w => ?_, fun w t' hw ht' => ?_⟩
        · rw [loop_s, e0, et, JX2_waitFrom_57, rr_l_e]
          dsimp only
          rw [pI_s, if_neg (show ¬ oI (some t) = -1 from nI_m1 (by omega)), JX2_waitFrom_68, rr_l_e]
          rfl
        · rw [wai_hit h22 et] at w; cases w
        · rw [wai_hit h22 et] at hw
          cases hw
          rw [et] at ht'
          cases ht'
          exact ⟨pI_s _ _ _, by rw [pI_n (by decide), pI_s]⟩
theorem pX_wait {S : rr_T} {ks : List Nat} {s : Nat} (hA : okA A) (h5 : ks.length ≤ 5) (hk : ∀ k ∈ ks, k < shK A) (hs : s < 2 ^ 20) (hS : shX S A) (e168 : S.1 168 = nI ks.length) (e11 : ∀ j, j < ks.length → S.2.1 11 j = nI (ks.getD j 0)) : ∃ S', fX2_waitFrom P S (nI s) = some S' ∧ frX [169, 170] [] S S' ∧ (wai A ks s = none → S'.1 169 = -1 ∧ S'.1 170 = -1) ∧ ∀ w t, wai A ks s = some w → typ A ks w = some t → S'.1 169 = nI w ∧ S'.1 170 = nI t := by
  have := uX_wait (P := P) hA h5 hk 22 s FU S (by omega) (by decide) hs hS e168 e11
  rw [fX2_waitFrom, e168, rr_l_e, show nI ks.length * (4 : Int32) = nI (ks.length * 4) from pk_mul _ 4, show (2 : Int32) + nI (ks.length * 4) = nI (2 + ks.length * 4) from nI_add 2 _]
  exact this
theorem pX_begin {S : rr_T} {a : Nat → Nat} (hA : okA A) (hS : shX S A) : ∃ S', fX2_begin P S = some S' ∧ frX hR hQ S S' ∧ cuX A S' (0, a) := by
  have f1 : frX hR hQ S (pI (pI S 167 0) 168 0) := frX_pI (frX_pI (frX_r _ _ _) (by simp)) (by simp)
  obtain ⟨S', b1, b2, b3, b4⟩ := pX_wait (P := P) (ks := []) (s := 0) hA (Nat.zero_le _) (fun k h => absurd h (by simp)) (by decide) (shX_fr f1 (by simp) (by simp) hS) (pI_s _ _ _) (fun j h => absurd h (Nat.not_lt_zero _))
  refine ⟨S', ?_, frX_t f1 (frX_w b2 (by simp) (by simp)), by rw [frX_1 b2 (by simp), pI_n (by decide), pI_s]; rfl, by rw [frX_1 b2 (by simp), pI_s]; rfl, b3, b4, fun j h => absurd h (Nat.not_lt_zero _), fun s t ht hw => absurd (slot_0 hA ht hw) (fun w => w), fun p h => absurd h (Nat.not_lt_zero _), fun p s t h => absurd h (Nat.not_lt_zero _)⟩
  rw [fX2_begin, rr_l_e, rr_l_e]
  have b1' : fX2_waitFrom P (pI (pI S 167 0) 168 0) 0 = some S' := b1
  rw [b1']
  rfl
theorem mv_new {t n : Nat} (h : t < 4) : mv t (n + 1) = nI n := by unfold mv; rw [if_pos h, nI_pred]
theorem pX_take {S : rr_T} {n c s t : Nat} {a : Nat → Nat} (hA : okA A) (hS : shX S A) (hok : okR A a n) (hc : cuX A S (n, a)) (es : sl A a n = some s) (et : typ A (ob a n) s = some t) (ha : alw A (ob a n) t c = true) : ∃ S', fX2_take P S (nI c) = some S' ∧ frX hR hQ S S' ∧ cuX A S' (n + 1, upn a n c) := by
  have hK := hA.1
  have hB := hA.2.2.2.1
  obtain ⟨o1, o2⟩ := ob_ok hA n hok
  have n22 := okR_lt es
  obtain ⟨q1, q2, -⟩ := sl_some n s es
  have tin := typ_in hA o2 et
  have cin := alw_in hA o1 tin ha
  obtain ⟨c1, c2, c3, c4, c5, c6, c7, c8⟩ := hc
  obtain ⟨e169, e170⟩ := c4 s t es et
  have c1 : S.1 167 = nI n := c1
  have c2 : S.1 168 = nI (ob a n).length := c2
  have eo : ∀ p, p ≤ n → ob (upn a n c) p = ob a p := fun p hp => (ob_eq p (fun q hq => upn_lt q (by omega))).symm
  have esl : ∀ p, p ≤ n → sl A (upn a n c) p = sl A a p := fun p hp => (sl_eq (A := A) p (fun q hq => upn_lt q (by omega))).symm
  have etd : td A (upn a n c) n = td A a n := (td_eq (A := A) n (upn_lt)).symm
  have eob : ob (upn a n c) (n + 1) = ob a n ++ (if 10 ≤ c then [c - 10] else []) := by
    show ob (upn a n c) n ++ (if 10 ≤ upn a n c n then [upn a n c n - 10] else []) = _
    rw [eo n (Nat.le_refl _), upn_s]
  have hok1 : okR A (upn a n c) (n + 1) := okR_s (okR_eq upn_lt hok) (by rw [esl n (Nat.le_refl _)]; exact es) (by rw [eo n (Nat.le_refl _)]; exact et) (by rw [upn_s, eo n (Nat.le_refl _)]; exact ha)
  have obk := ob_ok hA (n + 1) hok1
  generalize hS5 : pI (pA (pA (pA (pA S 14 (nI n) (nI s)) 15 (nI n) (nI t)) 13 (nI n) (nI c)) 16 (nI n) (nI (ob a n).length)) 167 (nI (n + 1)) = S5
  have f5 : frX hR hQ S S5 := by rw [← hS5]; exact frX_pI (frX_pA (frX_pA (frX_pA (frX_pA (frX_r _ _ _) (by simp)) (by simp)) (by simp)) (by simp)) (by simp)
  have f5' : frX [167] [13, 14, 15, 16] S S5 := by rw [← hS5]; exact frX_pI (frX_pA (frX_pA (frX_pA (frX_pA (frX_r _ _ _) (by simp)) (by simp)) (by simp)) (by simp)) (by simp)
  have cn : (nI n).toNatClampNeg = n := nI_clamp (by omega)
  have k13 : S5.2.1 13 = upd (S.2.1 13) n (nI c) := by rw [← hS5, pI_2, pA_n (by decide), pA_s, cn, pA_n (by decide), pA_n (by decide)]
  have k14 : S5.2.1 14 = upd (S.2.1 14) n (nI s) := by rw [← hS5, pI_2, pA_n (by decide), pA_n (by decide), pA_n (by decide), pA_s, cn]
  have k15 : S5.2.1 15 = upd (S.2.1 15) n (nI t) := by rw [← hS5, pI_2, pA_n (by decide), pA_n (by decide), pA_s, cn, pA_n (by decide)]
  have k16 : S5.2.1 16 = upd (S.2.1 16) n (nI (ob a n).length) := by rw [← hS5, pI_2, pA_s, cn, pA_n (by decide), pA_n (by decide), pA_n (by decide)]
  have k167 : S5.1 167 = nI (n + 1) := by rw [← hS5, pI_s]
  have e5_169 : S5.1 169 = nI s := by rw [frX_1 f5' (by simp)]; exact e169
  have e5_170 : S5.1 170 = nI t := by rw [frX_1 f5' (by simp)]; exact e170
  have e5_168 : S5.1 168 = nI (ob a n).length := by rw [frX_1 f5' (by simp)]; exact c2
  have e0 : fX2_take P S (nI c) = (fX8_isRefType (nI t)).bind (fun r6 => if r6 = 0 then JX2_take_112 P S5 (nI c, S5) else (fX2_objectOf P S5 (nI c)).bind (fun q10 => JX2_take_112 P S5 (q10.1, q10.2))) := by
    have b := inb_nI n22 (by decide)
    rw [fX2_take, e169, if_neg (nI_pos (by omega)), if_neg (show ¬ (22 : Int32) ≤ nI s from nI_ge (b := 22) q2 (by decide)), c1, if_pos (show nI n < 22 from nI_lt (b := 22) n22 (by decide)), if_pos b, rr_l_e, pA_1, c1, if_pos b, rr_l_e, pA_1, pA_1, c1, if_pos b, rr_l_e, pA_1, pA_1, pA_1, c1, if_pos b, rr_l_e, rr_l_e, pA_1, pA_1, pA_1, pA_1, c1, nI_1, e170, c2, hS5, e5_170]
  -- the told value, the kinds
  have key : ∃ S6, frX [168] [11] S5 S6 ∧ fX2_take P S (nI c) = JX2_take_112 P S5 (mv t (if 10 ≤ c then (ob a n).length + 1 else c), S6) ∧ S6.1 168 = nI (ob (upn a n c) (n + 1)).length ∧ ∀ j, j < (ob (upn a n c) (n + 1)).length → S6.2.1 11 j = nI ((ob (upn a n c) (n + 1)).getD j 0) := by
    have e11 : S5.2.1 11 = S.2.1 11 := frX_2 f5' (by simp)
    rw [e0, pX_isRefType (by omega), Option.bind_some]
    by_cases t4 : t < 4
    · rw [if_pos t4, if_neg (show ¬ (1 : Int32) = 0 by decide), fX2_objectOf]
      by_cases c10 : 10 ≤ c
      · have hl : (ob a n).length < 5 := by omega
        refine ⟨pI (pA S5 11 (nI (ob a n).length) (nI (c - 10))) 168 (nI ((ob a n).length + 1)), frX_pI (frX_pA (frX_r _ _ _) (by simp)) (by simp), ?_, ?_, fun j hj => ?_⟩
        · rw [if_pos (show (10 : Int32) ≤ nI c from nI_le (a := 10) c10 (by omega)), e5_168, if_pos (show nI (ob a n).length < 5 from nI_lt (b := 5) hl (by decide)), if_pos (inb_nI hl (by decide)), rr_l_e, rr_l_e, pA_1, e5_168, nI_1, show nI c - 10 = nI (c - 10) from pk_sub (b := 10) c10, pI_s, nI_pred, Option.bind_some, if_pos c10, mv_new t4]
        · rw [pI_s, eob, if_pos c10, List.length_append]; rfl
        · rw [eob, if_pos c10] at hj ⊢
          rw [List.length_append, List.length_singleton] at hj
          rw [pI_2, pA_s, nI_clamp (by omega), e11]
          by_cases ej : j = (ob a n).length
          · subst ej; rw [upd_s, gD_e]
          · rw [upd_n ej, gD_l (by omega)]; exact c5 j (by show j < (ob a n).length; omega)
      · refine ⟨S5, frX_r _ _ _, ?_, ?_, fun j hj => ?_⟩
        · rw [if_neg (show ¬ (10 : Int32) ≤ nI c from nI_ge (b := 10) (by omega) (by decide)), Option.bind_some, if_neg c10]
          show _ = JX2_take_112 P S5 (mv t c, S5)
          unfold mv
          rw [if_pos t4]
        · rw [e5_168, eob, if_neg c10, List.append_nil]
        · rw [eob, if_neg c10, List.append_nil] at hj ⊢
          rw [e11]; exact c5 j hj
    · have c10 : ¬ 10 ≤ c := fun w => by
        unfold alw at ha
        rw [if_neg t4] at ha
        have := of_decide_eq_true ha
        omega
      refine ⟨S5, frX_r _ _ _, ?_, ?_, fun j hj => ?_⟩
      · rw [if_neg t4, if_pos rfl, if_neg c10]
        unfold mv
        rw [if_neg t4]
      · rw [e5_168, eob, if_neg c10, List.append_nil]
      · rw [eob, if_neg c10, List.append_nil] at hj ⊢
        rw [e11]; exact c5 j hj
  obtain ⟨S6, g1, g2, g3, g4⟩ := key
  have f7 : frX [168] [11, 12] S5 (pA S6 12 (nI s) (mv t (if 10 ≤ c then (ob a n).length + 1 else c))) := frX_pA (frX_w g1 (by simp) (by simp)) (by simp)
  have hS7 : shX (pA S6 12 (nI s) (mv t (if 10 ≤ c then (ob a n).length + 1 else c))) A := shX_fr f7 (by simp) (by simp) (shX_fr f5 (by simp) (by simp) hS)
  obtain ⟨S8, w1, w2, w3, w4⟩ := pX_wait (P := P) (ks := ob (upn a n c) (n + 1)) (s := s + 1) hA (by omega) obk.2 (by omega) hS7 g3 (by rw [pA_n (by decide)]; exact g4)
  have f58 : frX [168, 169, 170] [11, 12] S5 S8 := frX_t (frX_w f7 (by simp) (by simp)) (frX_w w2 (by simp) (by simp))
  have ewai : sl A (upn a n c) (n + 1) = wai A (ob (upn a n c) (n + 1)) (s + 1) := by
    conv => lhs; unfold sl
    rw [esl n (Nat.le_refl _), es]
  refine ⟨S8, ?_, frX_t f5 (frX_w f58 (by simp) (by simp)), ?_, ?_, ?_, ?_, ?_, ?_, ?_, ?_⟩
  · rw [g2, JX2_take_112]
    dsimp only
    rw [e5_169, if_pos (inb_nI q2 (by decide)), rr_l_e, pA_1, frX_1 g1 (by simp), e5_169, nI_1, w1]
    rfl
  · rw [frX_1 f58 (by simp)]; exact k167
  · rw [frX_1 w2 (by simp)]; exact g3
  · intro z
    have z : sl A (upn a n c) (n + 1) = none := z
    rw [ewai] at z
    exact w3 z
  · intro s' t' z zt
    have z : sl A (upn a n c) (n + 1) = some s' := z
    rw [ewai] at z
    exact w4 s' t' z zt
  · rw [frX_2 w2 (by simp), pA_n (by decide)]; exact g4
  · intro s' t' zt hlt
    have hw := slot_split hA hok1 (by rw [esl n (Nat.le_refl _)]; exact es) zt hlt
    obtain ⟨hw1, hw2⟩ := hw
    rw [eo n (Nat.le_refl _)] at hw2
    rw [frX_2 w2 (by simp), pA_s, nI_clamp (by omega), frX_2 g1 (by simp), frX_2 f5' (by simp)]
    show _ = mv t' (td A (upn a n c) (n + 1) s')
    rcases hw1 with e | e
    · subst e
      rw [et] at hw2
      cases hw2
      rw [upd_s, td_new (by rw [esl n (Nat.le_refl _)]; exact es), upn_s, eo n (Nat.le_refl _)]
    · rw [upd_n (by omega), td_keep (fun w hw => by rw [esl n (Nat.le_refl _), es] at hw; cases hw; exact e), etd]
      exact c6 s' t' hw2 (fun w hw => by
        have hw : sl A a n = some w := hw
        rw [es] at hw; cases hw; exact e)
  · intro p hp
    have hp : p < n + 1 := hp
    rw [frX_2 f58 (by simp), k13]
    show _ = nI (upn a n c p)
    by_cases e : p = n
    · rw [e, upd_s, upn_s]
    · rw [upd_n e, upn_n e]; exact c7 p (by show p < n; omega)
  · intro p s' t' hp0 hs0 ht0
    have hp : p < n + 1 := hp0
    have hs1 : sl A a p = some s' := by rw [← esl p (by omega)]; exact hs0
    have ht1 : typ A (ob a p) s' = some t' := by rw [← eo p (by omega)]; exact ht0
    rw [frX_2 f58 (by simp), frX_2 f58 (by simp), frX_2 f58 (by simp), k14, k15, k16]
    show _ ∧ _ ∧ _ = nI (ob (upn a n c) p).length
    rw [eo p (by omega)]
    by_cases e : p = n
    · rw [e] at hs1 ht1 ⊢
      rw [es] at hs1
      cases hs1
      rw [et] at ht1
      cases ht1
      rw [upd_s, upd_s, upd_s]
      exact ⟨rfl, rfl, rfl⟩
    · rw [upd_n e, upd_n e, upd_n e]
      exact c8 p s' t' (by show p < n; omega) hs1 ht1
end XHEAP
