/-! ===== L3, pure: plays whose looks agree go on alike ===== -/
def pfx (l m : List Nat) : Prop := ∃ t, m = l ++ t
theorem pfx_r (l : List Nat) : pfx l l := ⟨[], by simp⟩
theorem pfx_t {l m k : List Nat} (h : pfx l m) (g : pfx m k) : pfx l k := by
  obtain ⟨a, rfl⟩ := h
  obtain ⟨b, rfl⟩ := g
  exact ⟨a ++ b, by rw [List.append_assoc]⟩
theorem Df_pfx {l m l' m' : List Nat} (h : Df l m) (hl : pfx l l') (hm : pfx m m') : Df l' m' := by
  obtain ⟨p, h1, h2, h3, h4⟩ := h
  obtain ⟨a, rfl⟩ := hl
  obtain ⟨b, rfl⟩ := hm
  refine ⟨p, by rw [List.length_append]; omega, by rw [List.length_append]; omega, fun j hj => ?_, ?_⟩
  · rw [gD_l (by omega), gD_l (by omega)]; exact h3 j hj
  · rw [gD_l (by omega), gD_l (by omega)]; exact h4
theorem Df_one {l : List Nat} {c d : Nat} (h : ¬ c = d) : Df (l ++ [c]) (l ++ [d]) := by
  refine ⟨l.length, by rw [List.length_append, List.length_singleton]; omega, by rw [List.length_append, List.length_singleton]; omega, fun j hj => ?_, ?_⟩
  · rw [gD_l hj, gD_l hj]
  · rw [gD_e, gD_e]; exact h
def nm (cb : Nat → Nat) (x : Nat) : Nat := if x = 0 then 0 else cb (x - 1)
def ct (cb : Nat → Nat) (x : Nat) : Prop := x = 0 ∨ ¬ cb (x - 1) = 0
def cor (P Q : Pl) (x y : Nat) : Prop := ct (pCb P) x ∧ ct (pCb Q) y ∧ nm (pCb P) x = nm (pCb Q) y
theorem cor_0 {P Q : Pl} {x y : Nat} (h : cor P Q x y) : x = 0 ↔ y = 0 := by
  obtain ⟨h1, h2, h3⟩ := h
  unfold nm at h3
  constructor
  · intro e
    rw [if_pos e] at h3
    rcases h2 with z | z
    · exact z
    · by_cases w : y = 0
      · exact w
      · rw [if_neg w] at h3; exact absurd h3.symm z
  · intro e
    rw [if_pos e] at h3
    rcases h1 with z | z
    · exact z
    · by_cases w : x = 0
      · exact w
      · rw [if_neg w] at h3; exact absurd h3 z
theorem cor_s {P Q : Pl} {o u : Nat} (h : cor P Q (o + 1) (u + 1)) : ¬ pCb P o = 0 ∧ pCb P o = pCb Q u := by
  obtain ⟨h1, h2, h3⟩ := h
  have e : pCb P o = pCb Q u := by
    unfold nm at h3
    rw [if_neg (by omega), if_neg (by omega)] at h3
    exact h3
  rcases h1 with z | z
  · omega
  · exact ⟨z, e⟩
/-- what names are -/
def nmO (P : Pl) : Prop := (∀ o u, ¬ pCb P o = 0 → pCb P o = pCb P u → o = u) ∧ (∀ o, pCb P o ≤ pCl P) ∧ ∀ o f, f < 4 → pCb P o = 0 → pSe P (2 + 4 * o + f) = false
/-- two plays that looked alike -/
def Sm (A : Sh) (H K : Hp) (P Q : Pl) : Prop := pLk P = pLk Q ∧ pCl P = pCl Q ∧ pIn P = pIn Q ∧ (∀ v, pIn P v = false → cor P Q (pVa P v) (pVa Q v)) ∧ (∀ i, i < 2 → pSe P i = pSe Q i ∧ (pSe P i = true → cor P Q (H.2.2 i) (K.2.2 i))) ∧ (∀ o u, ¬ pCb P o = 0 → pCb P o = pCb Q u → H.1.getD o 0 = K.1.getD u 0 ∧ ∀ f, f < 4 → pSe P (2 + 4 * o + f) = pSe Q (2 + 4 * u + f) ∧ (pSe P (2 + 4 * o + f) = true → f < shC A (H.1.getD o 0) → (shT A (H.1.getD o 0) f < 4 → cor P Q (H.2.1 o f) (K.2.1 u f)) ∧ (¬ shT A (H.1.getD o 0) f < 4 → H.2.1 o f = K.2.1 u f))) ∧ nmO P ∧ nmO Q
section SIM
variable {A : Sh} {H K : Hp} {P Q : Pl}
theorem lkR_cm (s x : Nat) : lkR H (mrk P s) x = mrk (lkR H P x) s := by
  unfold lkR
  by_cases e : x = 0
  · rw [if_pos e, if_pos e]; rfl
  · rw [if_neg e, if_neg e]
    by_cases c : pCb P (x - 1) = 0
    · rw [if_pos (show pCb (mrk P s) (x - 1) = 0 from c), if_pos c]; rfl
    · rw [if_neg (show ¬ pCb (mrk P s) (x - 1) = 0 from c), if_neg c]; rfl
theorem Sm_lkC {c : Nat} (h : Sm A H K P Q) : Sm A H K (lkC P c) (lkC Q c) := by
  obtain ⟨h1, h2⟩ := h
  exact ⟨by show pLk P ++ [c] = pLk Q ++ [c]; rw [h1], h2⟩
/-- what a new name leaves -/
theorem ct_up {cb : Nat → Nat} {o x n : Nat} (h0 : cb o = 0) (hn : ¬ n = 0) (h : ct cb x) : ct (upn cb o n) x ∧ nm (upn cb o n) x = nm cb x := by
  by_cases e : x = 0
  · exact ⟨Or.inl e, by unfold nm; rw [if_pos e, if_pos e]⟩
  · have z : ¬ cb (x - 1) = 0 := by
      rcases h with w | w
      · exact absurd w e
      · exact w
    have w : ¬ x - 1 = o := fun q => z (by rw [q]; exact h0)
    refine ⟨Or.inr (by rw [upn_n w]; exact z), ?_⟩
    unfold nm
    rw [if_neg e, if_neg e, upn_n w]
/-- both call a new object -/
theorem Sm_new {o u : Nat} (h : Sm A H K P Q) (ho : pCb P o = 0) (hu : pCb Q u = 0) (hk : H.1.getD o 0 = K.1.getD u 0) {c : Nat} : Sm A H K (pVa P, pIn P, pSe P, upn (pCb P) o (pCl P + 1), pCl P + 1, pLk P ++ [c]) (pVa Q, pIn Q, pSe Q, upn (pCb Q) u (pCl Q + 1), pCl Q + 1, pLk Q ++ [c]) := by
  obtain ⟨h1, h2, h3, h4, h5, h6, ⟨n1, n2, n3⟩, m1, m2, m3⟩ := h
  have cr : ∀ x y, cor P Q x y → cor (pVa P, pIn P, pSe P, upn (pCb P) o (pCl P + 1), pCl P + 1, pLk P ++ [c]) (pVa Q, pIn Q, pSe Q, upn (pCb Q) u (pCl Q + 1), pCl Q + 1, pLk Q ++ [c]) x y := by
    intro x y hc
    obtain ⟨a1, a2⟩ := ct_up ho (show ¬ pCl P + 1 = 0 by omega) hc.1
    obtain ⟨b1, b2⟩ := ct_up hu (show ¬ pCl Q + 1 = 0 by omega) hc.2.1
    exact ⟨a1, b1, by show nm (upn (pCb P) o (pCl P + 1)) x = nm (upn (pCb Q) u (pCl Q + 1)) y; rw [a2, b2]; exact hc.2.2⟩
  have inj : ∀ (R : Pl) (o' : Nat), pCb R o' = 0 → (∀ o u, ¬ pCb R o = 0 → pCb R o = pCb R u → o = u) → (∀ o, pCb R o ≤ pCl R) → (∀ o f, f < 4 → pCb R o = 0 → pSe R (2 + 4 * o + f) = false) → nmO (pVa R, pIn R, pSe R, upn (pCb R) o' (pCl R + 1), pCl R + 1, pLk R ++ [c]) := by
    intro R o' h0 r1 r2 r3
    refine ⟨fun x y hx hy => ?_, fun x => ?_, fun x f hf hx => ?_⟩
    · have hx : ¬ upn (pCb R) o' (pCl R + 1) x = 0 := hx
      have hy : upn (pCb R) o' (pCl R + 1) x = upn (pCb R) o' (pCl R + 1) y := hy
      by_cases e : x = o'
      · by_cases e2 : y = o'
        · omega
        · rw [e, upn_s, upn_n e2] at hy; have := r2 y; omega
      · by_cases e2 : y = o'
        · rw [e2, upn_s, upn_n e] at hy; have := r2 x; omega
        · rw [upn_n e, upn_n e2] at hy
          rw [upn_n e] at hx
          exact r1 x y hx hy
    · show upn (pCb R) o' (pCl R + 1) x ≤ pCl R + 1
      by_cases e : x = o'
      · rw [e, upn_s]; exact Nat.le_refl _
      · rw [upn_n e]; have := r2 x; omega
    · have hx : upn (pCb R) o' (pCl R + 1) x = 0 := hx
      by_cases e : x = o'
      · rw [e, upn_s] at hx; omega
      · rw [upn_n e] at hx; exact r3 x f hf hx
  refine ⟨by show pLk P ++ [c] = pLk Q ++ [c]; rw [h1], by show pCl P + 1 = pCl Q + 1; rw [h2], h3, fun v hv => cr _ _ (h4 v hv), fun i hi => ⟨(h5 i hi).1, fun z => cr _ _ ((h5 i hi).2 z)⟩, fun x y hx hy => ?_, inj P o ho n1 n2 n3, inj Q u hu m1 m2 m3⟩
  have hx : ¬ upn (pCb P) o (pCl P + 1) x = 0 := hx
  have hy : upn (pCb P) o (pCl P + 1) x = upn (pCb Q) u (pCl Q + 1) y := hy
  by_cases e : x = o
  · by_cases e2 : y = u
    · subst e; subst e2
      refine ⟨hk, fun f hf => ?_⟩
      show pSe P _ = pSe Q _ ∧ (pSe P _ = true → _)
      rw [n3 x f hf ho, m3 y f hf hu]
      exact ⟨rfl, fun z => (by cases z)⟩
    · rw [e, upn_s, upn_n e2] at hy; have := m2 y; omega
  · by_cases e2 : y = u
    · rw [e2, upn_s, upn_n e] at hy; have := n2 x; omega
    · rw [upn_n e, upn_n e2] at hy
      rw [upn_n e] at hx
      obtain ⟨g1, g2⟩ := h6 x y hx hy
      refine ⟨g1, fun f hf => ⟨(g2 f hf).1, fun z w => ⟨fun t => cr _ _ (((g2 f hf).2 z w).1 t), ((g2 f hf).2 z w).2⟩⟩⟩
/-- one look more at a REF -/
theorem Sm_lkR {x y : Nat} (hx : ∀ c ∈ H.1, c < 4) (h : Sm A H K P Q) (hlP : pCl P ≤ 5) : (Sm A H K (lkR H P x) (lkR K Q y) ∧ cor (lkR H P x) (lkR K Q y) x y) ∨ Df (pLk (lkR H P x)) (pLk (lkR K Q y)) := by
  have hlQ : pCl Q ≤ 5 := by rw [← h.2.1]; exact hlP
  have hl := h.1
  have n2 := h.2.2.2.2.2.2.1.2.1
  have m2 := h.2.2.2.2.2.2.2.2.1
  unfold lkR
  by_cases e : x = 0
  · by_cases f : y = 0
    · rw [if_pos e, if_pos f]
      refine Or.inl ⟨Sm_lkC h, Or.inl e, Or.inl f, ?_⟩
      unfold nm
      rw [if_pos e, if_pos f]
    · rw [if_pos e, if_neg f]
      right
      by_cases c : pCb Q (y - 1) = 0
      · rw [if_pos c]
        show Df (pLk P ++ [0]) (pLk Q ++ [10 + K.1.getD (y - 1) 0])
        rw [hl]
        exact Df_one (by omega)
      · rw [if_neg c]
        show Df (pLk P ++ [0]) (pLk Q ++ [pCb Q (y - 1)])
        rw [hl]
        exact Df_one (fun w => c w.symm)
  · by_cases f : y = 0
    · rw [if_neg e, if_pos f]
      right
      by_cases c : pCb P (x - 1) = 0
      · rw [if_pos c]
        show Df (pLk P ++ [10 + H.1.getD (x - 1) 0]) (pLk Q ++ [0])
        rw [hl]
        exact Df_one (by omega)
      · rw [if_neg c]
        show Df (pLk P ++ [pCb P (x - 1)]) (pLk Q ++ [0])
        rw [hl]
        exact Df_one c
    · rw [if_neg e, if_neg f]
      by_cases c : pCb P (x - 1) = 0
      · rw [if_pos c]
        by_cases d : pCb Q (y - 1) = 0
        · rw [if_pos d]
          by_cases k : H.1.getD (x - 1) 0 = K.1.getD (y - 1) 0
          · left
            rw [k]
            refine ⟨Sm_new h c d k, Or.inr ?_, Or.inr ?_, ?_⟩
            · show ¬ upn (pCb P) (x - 1) (pCl P + 1) (x - 1) = 0
              rw [upn_s]; omega
            · show ¬ upn (pCb Q) (y - 1) (pCl Q + 1) (y - 1) = 0
              rw [upn_s]; omega
            · show nm (upn (pCb P) (x - 1) (pCl P + 1)) x = nm (upn (pCb Q) (y - 1) (pCl Q + 1)) y
              unfold nm
              rw [if_neg e, if_neg f, upn_s, upn_s, h.2.1]
          · right
            show Df (pLk P ++ [10 + H.1.getD (x - 1) 0]) (pLk Q ++ [10 + K.1.getD (y - 1) 0])
            rw [hl]
            exact Df_one (by omega)
        · rw [if_neg d]
          right
          show Df (pLk P ++ [10 + H.1.getD (x - 1) 0]) (pLk Q ++ [pCb Q (y - 1)])
          rw [hl]
          have := m2 (y - 1)
          exact Df_one (by omega)
      · rw [if_neg c]
        by_cases d : pCb Q (y - 1) = 0
        · rw [if_pos d]
          right
          show Df (pLk P ++ [pCb P (x - 1)]) (pLk Q ++ [10 + K.1.getD (y - 1) 0])
          rw [hl]
          have := n2 (x - 1)
          exact Df_one (by omega)
        · rw [if_neg d]
          by_cases k : pCb P (x - 1) = pCb Q (y - 1)
          · left
            rw [k]
            refine ⟨Sm_lkC h, Or.inr c, Or.inr d, ?_⟩
            show nm (pCb P) x = nm (pCb Q) y
            unfold nm
            rw [if_neg e, if_neg f]
            exact k
          · right
            show Df (pLk P ++ [pCb P (x - 1)]) (pLk Q ++ [pCb Q (y - 1)])
            rw [hl]
            exact Df_one k
/-- an input's slot is marked -/
theorem Sm_mrkI {i : Nat} (hi : i < 2) (h : Sm A H K P Q) (hc : cor P Q (H.2.2 i) (K.2.2 i)) : Sm A H K (mrk P i) (mrk Q i) := by
  obtain ⟨h1, h2, h3, h4, h5, h6, ⟨n1, n2, n3⟩, m1, m2, m3⟩ := h
  have sk : ∀ (a : Nat → Bool) (o f : Nat), upb a i true (2 + 4 * o + f) = a (2 + 4 * o + f) := fun a o f => upb_n (by omega)
  refine ⟨h1, h2, h3, h4, fun j hj => ?_, fun o u ho hu => ?_, ⟨n1, n2, fun o f hf ho => ?_⟩, m1, m2, fun o f hf ho => ?_⟩
  · show upb (pSe P) i true j = upb (pSe Q) i true j ∧ (upb (pSe P) i true j = true → _)
    by_cases e : j = i
    · subst e
      rw [upb_s, upb_s]
      exact ⟨rfl, fun _ => hc⟩
    · rw [upb_n e, upb_n e]; exact h5 j hj
  · obtain ⟨g1, g2⟩ := h6 o u ho hu
    refine ⟨g1, fun f hf => ?_⟩
    show upb (pSe P) i true _ = upb (pSe Q) i true _ ∧ (upb (pSe P) i true _ = true → _)
    rw [sk, sk]
    exact g2 f hf
  · show upb (pSe P) i true _ = false
    rw [sk]; exact n3 o f hf ho
  · show upb (pSe Q) i true _ = false
    rw [sk]; exact m3 o f hf ho
/-- a field's slot is marked -/
theorem Sm_mrkF {o u f : Nat} (hf : f < 4) (h : Sm A H K P Q) (ho : ¬ pCb P o = 0) (hu : pCb P o = pCb Q u) (hc : f < shC A (H.1.getD o 0) → (shT A (H.1.getD o 0) f < 4 → cor P Q (H.2.1 o f) (K.2.1 u f)) ∧ (¬ shT A (H.1.getD o 0) f < 4 → H.2.1 o f = K.2.1 u f)) : Sm A H K (mrk P (2 + 4 * o + f)) (mrk Q (2 + 4 * u + f)) := by
  obtain ⟨h1, h2, h3, h4, h5, h6, ⟨n1, n2, n3⟩, m1, m2, m3⟩ := h
  refine ⟨h1, h2, h3, h4, fun j hj => ?_, fun o' u' ho' hu' => ?_, ⟨n1, n2, fun o' f' hf' ho' => ?_⟩, m1, m2, fun o' f' hf' ho' => ?_⟩
  · show upb (pSe P) (2 + 4 * o + f) true j = upb (pSe Q) (2 + 4 * u + f) true j ∧ (upb (pSe P) (2 + 4 * o + f) true j = true → _)
    rw [upb_n (by omega), upb_n (by omega)]; exact h5 j hj
  · obtain ⟨g1, g2⟩ := h6 o' u' ho' hu'
    refine ⟨g1, fun f' hf' => ?_⟩
    show upb (pSe P) (2 + 4 * o + f) true (2 + 4 * o' + f') = upb (pSe Q) (2 + 4 * u + f) true (2 + 4 * u' + f') ∧ (upb (pSe P) (2 + 4 * o + f) true (2 + 4 * o' + f') = true → _)
    have ho' : ¬ pCb P o' = 0 := ho'
    have hu' : pCb P o' = pCb Q u' := hu'
    by_cases e : f' = f
    · by_cases eo : o' = o
      · have eu : u' = u := m1 u' u (by rw [← hu']; exact ho') (by rw [← hu', ← hu, eo])
        subst e; subst eo; subst eu
        rw [upb_s, upb_s]
        exact ⟨rfl, fun _ => hc⟩
      · have eu : ¬ u' = u := fun w => eo (n1 o' o ho' (by rw [hu', hu, w]))
        rw [upb_n (by omega), upb_n (by omega)]
        exact g2 f' hf'
    · rw [upb_n (by omega), upb_n (by omega)]
      exact g2 f' hf'
  · have ho' : pCb P o' = 0 := ho'
    show upb (pSe P) (2 + 4 * o + f) true (2 + 4 * o' + f') = false
    by_cases e : 2 + 4 * o' + f' = 2 + 4 * o + f
    · exact absurd (by rw [show o = o' by omega]; exact ho') ho
    · rw [upb_n e]; exact n3 o' f' hf' ho'
  · have ho' : pCb Q o' = 0 := ho'
    show upb (pSe Q) (2 + 4 * u + f) true (2 + 4 * o' + f') = false
    by_cases e : 2 + 4 * o' + f' = 2 + 4 * u + f
    · exact absurd (by rw [hu, show u = o' by omega]; exact ho') ho
    · rw [upb_n e]; exact m3 o' f' hf' ho'
end SIM
