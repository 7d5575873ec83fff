/-! ===== L3: the class: fill, allows, choiceAbove, backTo, raise ===== -/
section XHEAP2
variable {A : Sh} {P : rr_T}
theorem uX_fill (hA : okA A) : ∀ (m n i f : Nat) (a : Nat → Nat) (S : rr_T), 22 ≤ n + m → i ≤ n → m + 1 ≤ f → okR A a n → shX S A → cuX A S (n, a) → ∃ S', rr_loop f (LX2_fill_2 P) (nI i, S) = some S' ∧ frX hR hQ S S' ∧ cuX A S' (fil A m n a) := by
  intro m
  induction m with
  | zero =>
    intro n i f a S hn hi hf hok hS hc
    obtain ⟨f, rfl⟩ : ∃ g, f = g + 1 := ⟨f - 1, by omega⟩
    have h22 := okR_22 hok
    have es : sl A a n = none := by
      cases e : sl A a n with
      | none => rfl
      | some s => have := okR_lt e; omega
    refine ⟨S, ?_, frX_r _ _ _, hc⟩
    rw [loop_s, LX2_fill_2]
    dsimp only
    rw [(hc.2.2.1 es).1, if_pos rfl]
    split <;> rfl
  | succ m ih =>
    intro n i f a S hn hi hf hok hS hc
    obtain ⟨f, rfl⟩ : ∃ g, f = g + 1 := ⟨f - 1, by omega⟩
    unfold fil
    cases es : sl A a n with
    | none =>
      refine ⟨S, ?_, frX_r _ _ _, hc⟩
      rw [loop_s, LX2_fill_2]
      dsimp only
      rw [(hc.2.2.1 es).1, if_pos rfl]
      split <;> rfl
    | some s =>
      have h22 := okR_lt es
      obtain ⟨q1, q2, t, et⟩ := sl_some n s es
      obtain ⟨S1, a1, a2, a3⟩ := pX_take (P := P) (c := 0) hA hS hok hc es et (alw_0 _ _ _)
      have e1 := sl_eq (A := A) n (upn_lt (a := a) (n := n) (c := 0))
      have e2 := ob_eq n (upn_lt (a := a) (n := n) (c := 0))
      obtain ⟨S2, b1, b2, b3⟩ := ih (n + 1) (i + 1) f (upn a n 0) S1 (by omega) (by omega) (by omega) (okR_s (okR_eq upn_lt hok) (by rw [← e1]; exact es) (by rw [← e2]; exact et) (by rw [upn_s]; exact alw_0 _ _ _)) (shX_fr a2 (by simp) (by simp) hS) a3
      refine ⟨S2, ?_, frX_t a2 b2, b3⟩
      have a1' : fX2_take P S 0 = some S1 := a1
      rw [loop_s, LX2_fill_2]
      dsimp only
      rw [if_neg (show ¬ (22 : Int32) ≤ nI i from nI_ge (b := 22) (by omega) (by decide)), (hc.2.2.2.1 s t es et).1, if_neg (nI_m1 (by omega)), a1', Option.bind_some, nI_1]
      exact b1
theorem pX_fill {S : rr_T} {n : Nat} {a : Nat → Nat} (hA : okA A) (hok : okR A a n) (hS : shX S A) (hc : cuX A S (n, a)) : ∃ S', fX2_fill P S = some S' ∧ frX hR hQ S S' ∧ cuX A S' (fil A 22 n a) := uX_fill hA 22 n 0 FU a S (by omega) (Nat.zero_le _) (by decide) hok hS hc
theorem pX_allowsN {S : rr_T} {n s t : Nat} {a : Nat → Nat} (hA : okA A) (hok : okR A a n) (hS : shX S A) (hc : cuX A S (n, a)) (es : sl A a n = some s) (et : typ A (ob a n) s = some t) {c : Nat} (hc31 : c < 2 ^ 31) : fX2_allows P S (nI c) = some (if alw A (ob a n) t c = true then 1 else 0) := by
  have hK := hA.1
  have hB := hA.2.2.2.1
  obtain ⟨o1, o2⟩ := ob_ok hA n hok
  obtain ⟨q1, q2, -⟩ := sl_some n s es
  have tin := typ_in hA o2 et
  obtain ⟨c1, c2, c3, c4, c5, -⟩ := hc
  obtain ⟨e169, e170⟩ := c4 s t es et
  have c2 : S.1 168 = nI (ob a n).length := c2
  have c5 : ∀ j, j < (ob a n).length → S.2.1 11 j = nI ((ob a n).getD j 0) := c5
  rw [fX2_allows, e169, if_neg (nI_m1 (by omega)), if_pos (nI_pos' hc31), e170, pX_isRefType (by omega), Option.bind_some]
  unfold alw
  by_cases t4 : t < 4
  · rw [if_pos t4, if_neg (show ¬ (1 : Int32) = 0 by decide), if_pos t4, c2]
    have htK : t < shK A := by omega
    by_cases hl : (ob a n).length < c
    · rw [if_pos (nI_lt hl hc31)]
      by_cases c10 : c < 10
      · rw [if_pos (show nI c < 10 from nI_lt (b := 10) c10 (by decide)), if_neg]
        simp only [Bool.or_eq_true, Bool.and_eq_true, decide_eq_true_eq, beq_iff_eq]
        omega
      · rw [if_neg (show ¬ nI c < 10 from nI_nlt (b := 10) (by omega) hc31), hS.2.2.1]
        by_cases hb : shB A ≤ (ob a n).length
        · rw [if_pos (nI_le hb (by omega)), if_neg]
          simp only [Bool.or_eq_true, Bool.and_eq_true, decide_eq_true_eq, beq_iff_eq]
          omega
        · rw [if_neg (nI_ge (by omega) (by omega)), show nI c - 10 = nI (c - 10) from pk_sub (b := 10) (by omega), pX_isUnderI hA hS htK, Option.bind_some, nI_clamp (by omega)]
          by_cases hk : c - 10 < shK A
          · by_cases hu : shU A (c - 10) t = true
            · rw [if_pos (show ¬ nI (c - 10) < 0 ∧ c - 10 < shK A ∧ shU A (c - 10) t = true from ⟨nI_pos (by omega), hk, hu⟩), if_neg (show ¬ (1 : Int32) = 0 by decide), if_pos]
              simp only [Bool.or_eq_true, Bool.and_eq_true, decide_eq_true_eq, beq_iff_eq]
              exact Or.inr ⟨by omega, hu⟩
            · rw [if_neg (show ¬ (¬ nI (c - 10) < 0 ∧ c - 10 < shK A ∧ shU A (c - 10) t = true) from fun w => hu w.2.2), if_pos rfl, if_neg]
              simp only [Bool.or_eq_true, Bool.and_eq_true, decide_eq_true_eq, beq_iff_eq]
              rintro ((w | w) | w)
              · omega
              · omega
              · exact hu w.2
          · rw [if_neg (show ¬ (¬ nI (c - 10) < 0 ∧ c - 10 < shK A ∧ shU A (c - 10) t = true) from fun w => hk w.2.1), if_pos rfl, if_neg]
            simp only [Bool.or_eq_true, Bool.and_eq_true, decide_eq_true_eq, beq_iff_eq]
            omega
    · rw [if_neg (nI_nlt (by omega) (by omega))]
      cases c with
      | zero => rw [if_pos (show nI 0 = 0 from rfl), if_pos (by simp)]
      | succ j =>
        have hj : j < (ob a n).length := by omega
        have hko := o2 _ (getD_mem hj)
        rw [if_neg (nI_ne0 (by omega) hc31), nI_pred, pX_kindOf (by omega) c2 c5 hj, Option.bind_some, pX_isUnder hA hS hko htK, Option.bind_some, show j + 1 - 1 = j from rfl]
        by_cases hu : shU A ((ob a n).getD j 0) t = true
        · rw [if_pos hu, if_neg (show ¬ (1 : Int32) = 0 by decide), if_pos]
          simp only [Bool.or_eq_true, Bool.and_eq_true, decide_eq_true_eq, beq_iff_eq]
          exact Or.inl (Or.inr ⟨by omega, hu⟩)
        · rw [if_neg hu, if_pos rfl, if_neg]
          simp only [Bool.or_eq_true, Bool.and_eq_true, decide_eq_true_eq, beq_iff_eq]
          rintro ((w | w) | w)
          · omega
          · exact hu w.2
          · omega
  · rw [if_neg t4, if_pos rfl, if_neg t4, show nI t - 4 = nI (t - 4) from pk_sub (b := 4) (by omega)]
    by_cases h : c ≤ t - 4
    · rw [if_neg (nI_nlt h (by omega)), if_pos (decide_eq_true h)]
    · rw [if_pos (nI_lt (by omega) hc31), if_neg (fun w => h (of_decide_eq_true w))]
theorem pX_allows {S : rr_T} {n s t : Nat} {a : Nat → Nat} (hA : okA A) (hok : okR A a n) (hS : shX S A) (hc : cuX A S (n, a)) (es : sl A a n = some s) (et : typ A (ob a n) s = some t) (x : Int32) : fX2_allows P S x = some (if alwI A (ob a n) t x = true then 1 else 0) := by
  unfold alwI
  by_cases h : x < 0
  · obtain ⟨q1, q2, -⟩ := sl_some n s es
    rw [fX2_allows, (hc.2.2.2.1 s t es et).1, if_neg (nI_m1 (by omega)), if_neg (Int32.not_le.mpr h), decide_eq_false (fun w => w h)]
    rfl
  · obtain ⟨c, hc31, rfl⟩ := nI_of h
    rw [pX_allowsN hA hok hS hc es et hc31, decide_eq_true h, nI_clamp hc31, Bool.true_and]
theorem pX_allows0 {S : rr_T} {n : Nat} {a : Nat → Nat} (hc : cuX A S (n, a)) (es : sl A a n = none) (x : Int32) : fX2_allows P S x = some 0 := by
  rw [fX2_allows, (hc.2.2.1 es).1, if_pos rfl]
/-- numbers that cannot be there are passed over -/
theorem nx_skip {ks : List Nat} {t : Nat} : ∀ (d m c : Nat), (∀ e, c ≤ e → e < c + d → ¬ alw A ks t e = true) → nx A ks t (d + m) c = nx A ks t m (c + d) := by
  intro d
  induction d with
  | zero => intro m c _; rw [Nat.zero_add]; rfl
  | succ d ih =>
    intro m c h
    rw [show d + 1 + m = (d + m) + 1 by omega]
    unfold nx
    rw [if_neg (h c (Nat.le_refl _) (by omega)), ih m (c + 1) (fun e h1 h2 => h e (by omega) (by omega)), show c + 1 + d = c + (d + 1) by omega]
    cases m <;> rfl
theorem nx_none {ks : List Nat} {t : Nat} (m c : Nat) (h : ∀ e, c ≤ e → e < c + m → ¬ alw A ks t e = true) : nx A ks t m c = none := by
  have := nx_skip (A := A) (ks := ks) (t := t) m 0 c h
  rw [Nat.add_zero] at this
  rw [this]
  rfl
theorem uX_ca65 {S : rr_T} {n s t : Nat} {a : Nat → Nat} (hA : okA A) (hok : okR A a n) (hS : shX S A) (hc : cuX A S (n, a)) (es : sl A a n = some s) (et : typ A (ob a n) s = some t) : ∀ (m v f : Nat), v + m = 14 → 10 ≤ v → m + 1 ≤ f → rr_loop f (LX2_choiceAbove_65 P S) (nI v) = some (oI (nx A (ob a n) t m v)) := by
  have hK := hA.1
  obtain ⟨o1, o2⟩ := ob_ok hA n hok
  have tin := typ_in hA o2 et
  have big : ∀ e, 10 + shK A ≤ e → ¬ alw A (ob a n) t e = true := fun e he w => by
    have := alw_in hA o1 tin w
    omega
  intro m
  induction m with
  | zero =>
    intro v f hv h10 hf
    obtain ⟨f, rfl⟩ : ∃ g, f = g + 1 := ⟨f - 1, by omega⟩
    rw [loop_s, LX2_choiceAbove_65, hS.1, show (10 : Int32) + nI (shK A) = nI (10 + shK A) from nI_add 10 _, if_pos (nI_le (by omega) (by omega))]
    rfl
  | succ m ih =>
    intro v f hv h10 hf
    obtain ⟨f, rfl⟩ : ∃ g, f = g + 1 := ⟨f - 1, by omega⟩
    rw [loop_s, LX2_choiceAbove_65, hS.1, show (10 : Int32) + nI (shK A) = nI (10 + shK A) from nI_add 10 _]
    by_cases hv2 : 10 + shK A ≤ v
    · rw [if_pos (nI_le hv2 (by omega)), nx_none _ _ (fun e h1 h2 => big e (by omega))]
      rfl
    · rw [if_neg (nI_ge (by omega) (by omega)), pX_allowsN hA hok hS hc es et (by omega), Option.bind_some]
      unfold nx
      by_cases ha : alw A (ob a n) t v = true
      · rw [if_pos ha, if_neg (show ¬ (1 : Int32) = 0 by decide), if_pos ha]; rfl
      · rw [if_neg ha, if_pos rfl, if_neg ha, nI_1]
        exact ih (v + 1) f (by omega) (by omega) (by omega)
theorem uX_ca32 {S : rr_T} {n s t c : Nat} {a : Nat → Nat} (hA : okA A) (hok : okR A a n) (hS : shX S A) (hc : cuX A S (n, a)) (es : sl A a n = some s) (et : typ A (ob a n) s = some t) (t4 : t < 4) (hc14 : c < 14) : ∀ (m v f : Nat), v + m = 14 → c + 1 ≤ v → v ≤ max (c + 1) ((ob a n).length + 1) → m + 1 ≤ f → rr_loop f (LX2_choiceAbove_32 P S (nI c)) (nI v) = some (oI (nx A (ob a n) t m v)) := by
  have hK := hA.1
  have hB := hA.2.2.2.1
  obtain ⟨o1, o2⟩ := ob_ok hA n hok
  have tin := typ_in hA o2 et
  have gap : ∀ e, (ob a n).length < e → e < 10 → ¬ alw A (ob a n) t e = true := fun e h1 h2 w => by
    unfold alw at w
    rw [if_pos t4] at w
    simp only [Bool.or_eq_true, Bool.and_eq_true, decide_eq_true_eq, beq_iff_eq] at w
    omega
  have c2 : S.1 168 = nI (ob a n).length := hc.2.1
  have fin : ∀ (m v f : Nat), v + m = 14 → c + 1 ≤ v → v ≤ max (c + 1) ((ob a n).length + 1) → (ob a n).length < v → rr_loop (f + 1) (LX2_choiceAbove_32 P S (nI c)) (nI v) = some (oI (nx A (ob a n) t m v)) := by
    intro m v f hv h1 h2 h3
    rw [loop_s, LX2_choiceAbove_32, c2, if_pos (nI_lt h3 (by omega)), JX2_choiceAbove_56, nI_1, rr_l_e]
    have em : jMax (nI (c + 1)) 10 = nI (max (c + 1) 10) := by
      unfold jMax
      by_cases h : c + 1 < 10
      · rw [if_pos (show nI (c + 1) < 10 from nI_lt (b := 10) h (by decide)), Nat.max_eq_right (by omega)]; rfl
      · rw [if_neg (show ¬ nI (c + 1) < 10 from nI_nlt (b := 10) (by omega) (by omega)), Nat.max_eq_left (by omega)]
    rw [em, uX_ca65 hA hok hS hc es et (14 - max (c + 1) 10) (max (c + 1) 10) FU (by omega) (by omega) (by show _ ≤ 5000; omega)]
    have hsk := nx_skip (A := A) (ks := ob a n) (t := t) (max (c + 1) 10 - v) (14 - max (c + 1) 10) v (fun e e1 e2 => gap e (by omega) (by omega))
    rw [show m = max (c + 1) 10 - v + (14 - max (c + 1) 10) by omega, hsk, show v + (max (c + 1) 10 - v) = max (c + 1) 10 by omega]
  intro m
  induction m with
  | zero =>
    intro v f hv h1 h2 hf
    obtain ⟨f, rfl⟩ : ∃ g, f = g + 1 := ⟨f - 1, by omega⟩
    exact fin 0 v f hv h1 h2 (by omega)
  | succ m ih =>
    intro v f hv h1 h2 hf
    obtain ⟨f, rfl⟩ : ∃ g, f = g + 1 := ⟨f - 1, by omega⟩
    by_cases h3 : (ob a n).length < v
    · exact fin (m + 1) v f hv h1 h2 h3
    · rw [loop_s, LX2_choiceAbove_32, c2, if_neg (nI_nlt (by omega) (by omega)), pX_allowsN hA hok hS hc es et (by omega), Option.bind_some]
      unfold nx
      by_cases ha : alw A (ob a n) t v = true
      · rw [if_pos ha, if_neg (show ¬ (1 : Int32) = 0 by decide), if_pos ha]; rfl
      · rw [if_neg ha, if_pos rfl, if_neg ha, nI_1]
        exact ih (v + 1) f (by omega) (by omega) (by omega) (by omega)
theorem pX_choiceAbove {S : rr_T} {n s t c : Nat} {a : Nat → Nat} (hA : okA A) (hok : okR A a n) (hS : shX S A) (hc : cuX A S (n, a)) (es : sl A a n = some s) (et : typ A (ob a n) s = some t) (hc14 : c < 14) : fX2_choiceAbove P S (nI c) = some (oI (nx A (ob a n) t (13 - c) (c + 1))) := by
  obtain ⟨o1, o2⟩ := ob_ok hA n hok
  have tin := typ_in hA o2 et
  have hK := hA.1
  rw [fX2_choiceAbove, (hc.2.2.2.1 s t es et).2, pX_isRefType (by omega), Option.bind_some]
  by_cases t4 : t < 4
  · rw [if_pos t4, if_neg (show ¬ (1 : Int32) = 0 by decide), rr_l_e, nI_1]
    exact uX_ca32 hA hok hS hc es et t4 hc14 (13 - c) (c + 1) FU (by omega) (Nat.le_refl _) (by omega) (by show _ ≤ 5000; omega)
  · rw [if_neg t4, if_pos rfl, nI_1, pX_allowsN hA hok hS hc es et (by omega), Option.bind_some]
    have num : ∀ e, alw A (ob a n) t e = decide (e ≤ t - 4) := fun e => by unfold alw; rw [if_neg t4]
    by_cases ha : alw A (ob a n) t (c + 1) = true
    · rw [if_pos ha, if_neg (show ¬ (1 : Int32) = 0 by decide)]
      have h1 : c + 1 ≤ t - 4 := by rw [num] at ha; exact of_decide_eq_true ha
      obtain ⟨m, hm⟩ : ∃ m, 13 - c = m + 1 := ⟨12 - c, by omega⟩
      rw [hm]
      unfold nx
      rw [if_pos ha]
      rfl
    · rw [if_neg ha, if_pos rfl, nx_none _ _ (fun e h1 h2 w => ha ?_)]
      · rfl
      · rw [num] at w ⊢
        have := of_decide_eq_true w
        exact decide_eq_true (by omega)
/-- the kinds met stay -/
theorem ob_pre {a : Nat → Nat} : ∀ (d p : Nat), ∃ l, ob a (p + d) = ob a p ++ l := by
  intro d
  induction d with
  | zero => intro p; exact ⟨[], by simp⟩
  | succ d ih =>
    intro p
    obtain ⟨l, hl⟩ := ih p
    exact ⟨l ++ (if 10 ≤ a (p + d) then [a (p + d) - 10] else []), by show ob a (p + d) ++ (if 10 ≤ a (p + d) then [a (p + d) - 10] else []) = _; rw [hl, List.append_assoc]⟩
theorem td_pre {a : Nat → Nat} {p s w : Nat} (hw : sl A a p = some w) (h : s < w) : ∀ d, td A a (p + d) s = td A a p s := by
  intro d
  induction d with
  | zero => rfl
  | succ d ih =>
    show td A a ((p + d) + 1) s = _
    rw [td_keep (fun w' hw' => ?_), ih]
    cases d with
    | zero =>
      rw [Nat.add_zero, hw] at hw'
      cases hw'
      exact h
    | succ d =>
      have := sl_ltn (p := p) (n := p + (d + 1)) (by omega) hw hw'
      omega
theorem pX_backTo {S : rr_T} {n p : Nat} {a : Nat → Nat} (hA : okA A) (hok : okR A a n) (hc : cuX A S (n, a)) (hp : p < n) : ∃ S', fX2_backTo P S (nI p) = some S' ∧ frX hR hQ S S' ∧ cuX A S' (p, a) ∧ S'.2.1 = S.2.1 := by
  have h22 := okR_22 hok
  obtain ⟨s, t, es, et, ha⟩ := hok p hp
  obtain ⟨c1, c2, c3, c4, c5, c6, c7, c8⟩ := hc
  have c1 : S.1 167 = nI n := c1
  obtain ⟨k14, k15, k16⟩ := c8 p s t hp es et
  have b := inb_nI (show p < 22 by omega) (by decide)
  have cl : (nI p).toNatClampNeg = p := nI_clamp (by omega)
  obtain ⟨l, hl⟩ := ob_pre (a := a) (n - p) p
  rw [show p + (n - p) = n by omega] at hl
  obtain ⟨oa, ob'⟩ := ob_ok hA p (okR_le hok (by omega))
  refine ⟨pI (pI (pI (pI S 169 (nI s)) 170 (nI t)) 168 (nI (ob a p).length)) 167 (nI p), ?_, frX_pI (frX_pI (frX_pI (frX_pI (frX_r _ _ _) (by simp)) (by simp)) (by simp)) (by simp), ⟨pI_s _ _ _, by rw [pI_n (by decide), pI_s], fun z => ?_, fun s' t' z zt => ?_, fun j hj => ?_, fun s' t' zt hlt => ?_, fun q hq => c7 q (by show q < n; have hq : q < p := hq; omega), fun q s' t' hq z zt => c8 q s' t' (by show q < n; have hq : q < p := hq; omega) z zt⟩, rfl⟩
  · rw [fX2_backTo, if_neg (nI_pos (by omega)), c1, if_neg (nI_ge hp (by omega)), if_pos b, cl, k14, rr_l_e, if_pos b, pI_2, k15, rr_l_e, if_pos b, pI_2, pI_2, k16, rr_l_e, rr_l_e]
  · have z : sl A a p = none := z
    rw [es] at z; cases z
  · have z : sl A a p = some s' := z
    have zt : typ A (ob a p) s' = some t' := zt
    rw [es] at z
    cases z
    rw [et] at zt
    cases zt
    exact ⟨by rw [pI_n (by decide), pI_n (by decide), pI_n (by decide), pI_s], by rw [pI_n (by decide), pI_n (by decide), pI_s]⟩
  · have hj : j < (ob a p).length := hj
    show S.2.1 11 j = nI ((ob a p).getD j 0)
    have h5 := c5 j (by show j < (ob a n).length; rw [hl, List.length_append]; omega)
    rw [h5]
    show nI ((ob a n).getD j 0) = _
    rw [hl, gD_l hj]
  · have zt : typ A (ob a p) s' = some t' := zt
    have hs' : s' < s := hlt s es
    have htl := typ_lt hA ob' zt
    show S.2.1 12 s' = mv t' (td A a p s')
    have h6 := c6 s' t' (by show typ A (ob a n) s' = some t'; rw [hl, typ_old htl]; exact zt) (fun w hw => by
      have hw : sl A a n = some w := hw
      have := sl_ltn hp es hw
      omega)
    rw [h6]
    show mv t' (td A a n s') = _
    have := td_pre es hs' (n - p)
    rw [show p + (n - p) = n by omega] at this
    rw [this]
theorem pX_backN {S : rr_T} {n : Nat} {a : Nat → Nat} (hok : okR A a n) (hc : cuX A S (n, a)) : fX2_backTo P S (nI n) = some S := by
  have h22 := okR_22 hok
  have c1 : S.1 167 = nI n := hc.1
  rw [fX2_backTo, if_neg (nI_pos (by omega)), c1, if_pos (nI_le (Nat.le_refl _) (by omega))]
theorem uX_raise (hA : okA A) {a : Nat → Nat} : ∀ (p f : Nat) (S : rr_T), okR A a p → p + 1 ≤ f → shX S A → cuX A S (p, a) → (ras A a p = none → ∃ S', rr_loop f (LX2_raise_7 P) (nI p - 1, S) = some (0, S') ∧ frX hR hQ S S' ∧ cuX A S' (0, a)) ∧ ∀ s, ras A a p = some s → ∃ S', rr_loop f (LX2_raise_7 P) (nI p - 1, S) = some (1, S') ∧ frX hR hQ S S' ∧ cuX A S' s := by
  intro p
  induction p with
  | zero =>
    intro f S hok hf hS hc
    obtain ⟨f, rfl⟩ : ∃ g, f = g + 1 := ⟨f - 1, by omega⟩
    refine ⟨fun _ => ⟨S, ?_, frX_r _ _ _, hc⟩, fun s e => by cases e⟩
    rw [loop_s, LX2_raise_7]
    dsimp only
    exact if_pos (show nI 0 - 1 < 0 by decide)
  | succ p ih =>
    intro f S hok hf hS hc
    obtain ⟨f, rfl⟩ : ∃ g, f = g + 1 := ⟨f - 1, by omega⟩
    have h22 := okR_22 hok
    have hokp := okR_le hok (Nat.le_succ p)
    obtain ⟨s, t, es, et, ha⟩ := hok p (Nat.lt_succ_self p)
    have cin := okR_c hA hok (Nat.lt_succ_self p)
    have hK := hA.1
    obtain ⟨S1, a1, a2, a3, a4⟩ := pX_backTo (P := P) hA hok hc (Nat.lt_succ_self p)
    have hS1 := shX_fr a2 (by simp) (by simp) hS
    have e13 : S1.2.1 13 p = nI (a p) := by rw [a4]; exact hc.2.2.2.2.2.2.1 p (Nat.lt_succ_self p)
    have e0 : rr_loop (f + 1) (LX2_raise_7 P) (nI (p + 1) - 1, S) = if oI (nxc A a p) = -1 then rr_loop f (LX2_raise_7 P) (nI p - 1, S1) else JX2_raise_32 P (oI (nxc A a p), S1) := by
      rw [loop_s, LX2_raise_7]
      dsimp only
      rw [nI_pred, if_neg (nI_pos (by omega)), a1, Option.bind_some, if_pos (inb_nI (by omega) (by decide)), nI_clamp (by omega), e13, pX_choiceAbove hA hokp hS1 a3 es et (by omega), Option.bind_some, Int32.sub_eq_add_neg]
      have et' : tyW A a p = t := by unfold tyW; rw [es]; dsimp only; rw [et]; rfl
      unfold nxc
      rw [et']
    rw [e0]
    unfold ras
    cases en : nxc A a p with
    | none =>
      rw [if_pos (show oI none = -1 from rfl)]
      dsimp only
      obtain ⟨i1, i2⟩ := ih f S1 hokp (by omega) hS1 a3
      exact ⟨fun z => by obtain ⟨S2, b1, b2, b3⟩ := i1 z; exact ⟨S2, b1, frX_t a2 b2, b3⟩, fun s z => by obtain ⟨S2, b1, b2, b3⟩ := i2 s z; exact ⟨S2, b1, frX_t a2 b2, b3⟩⟩
    | some d =>
      have et' : tyW A a p = t := by unfold tyW; rw [es]; dsimp only; rw [et]; rfl
      have hd := nx_some _ _ _ en
      rw [et'] at hd
      rw [if_neg (show ¬ oI (some d) = -1 from nI_m1 (by omega))]
      obtain ⟨S2, b1, b2, b3⟩ := pX_take (P := P) (c := d) hA hS1 hokp a3 es et hd.2.2
      refine ⟨fun z => (by cases z), fun s z => ?_⟩
      cases z
      refine ⟨S2, ?_, frX_t a2 b2, b3⟩
      rw [JX2_raise_32]
      dsimp only
      show (fX2_take P S1 (nI d)).bind _ = _
      rw [b1]
      rfl
theorem pX_raise {S : rr_T} {r : Rw} (hA : okA A) (hok : okR A r.2 r.1) (hS : shX S A) (hc : cuX A S r) : (ras A r.2 r.1 = none → ∃ S', fX2_raise P S = some (0, S') ∧ frX hR hQ S S' ∧ cuX A S' (0, r.2)) ∧ ∀ s, ras A r.2 r.1 = some s → ∃ S', fX2_raise P S = some (1, S') ∧ frX hR hQ S S' ∧ cuX A S' s := by
  have h22 := okR_22 hok
  rw [fX2_raise, hc.1, rr_l_e]
  exact uX_raise hA r.1 FU S hok (by show _ ≤ 5000; omega) hS hc
end XHEAP2
