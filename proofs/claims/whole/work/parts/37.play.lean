/-! ===== L3, pure: a play of the program with a heap ===== -/
/-- a step: op, v, f, n, m (n 0 of SAME, m 0 of READ) -/
abbrev Sp : Type := Nat × Nat × Nat × Nat × Nat
def s0 : Sp := (0, 0, 0, 0, 0)
def okS (p : Sp) : Prop := p.1 ≤ 2 ∧ p.2.1 < 4 ∧ p.2.2.1 < 4 ∧ p.2.2.2.1 < 4 ∧ p.2.2.2.2 ≤ 16
/-- a play: variables, which of them still hold their input, slots seen, how objects are called (number and 1), how many are, the looks -/
abbrev Pl : Type := (Nat → Nat) × (Nat → Bool) × (Nat → Bool) × (Nat → Nat) × Nat × List Nat
abbrev pVa (P : Pl) : Nat → Nat := P.1
abbrev pIn (P : Pl) : Nat → Bool := P.2.1
abbrev pSe (P : Pl) : Nat → Bool := P.2.2.1
abbrev pCb (P : Pl) : Nat → Nat := P.2.2.2.1
abbrev pCl (P : Pl) : Nat := P.2.2.2.2.1
abbrev pLk (P : Pl) : List Nat := P.2.2.2.2.2
def upb (a : Nat → Bool) (n : Nat) (c : Bool) : Nat → Bool := fun p => if p = n then c else a p
theorem upb_s (a : Nat → Bool) (n : Nat) (c : Bool) : upb a n c n = c := if_pos rfl
theorem upb_n {a : Nat → Bool} {n : Nat} {c : Bool} {p : Nat} (h : p ≠ n) : upb a n c p = a p := if_neg h
def mrk (P : Pl) (s : Nat) : Pl := (pVa P, pIn P, upb (pSe P) s true, P.2.2.2)
def lkC (P : Pl) (c : Nat) : Pl := (pVa P, pIn P, pSe P, pCb P, pCl P, pLk P ++ [c])
def lkR (H : Hp) (P : Pl) (x : Nat) : Pl :=
  if x = 0 then lkC P 0
  else if pCb P (x - 1) = 0 then (pVa P, pIn P, pSe P, upn (pCb P) (x - 1) (pCl P + 1), pCl P + 1, pLk P ++ [10 + H.1.getD (x - 1) 0])
  else lkC P (pCb P (x - 1))
def notR (H : Hp) (P : Pl) (s x : Nat) : Pl := if pSe P s = true then P else lkR H (mrk P s) x
def notN (P : Pl) (s x : Nat) : Pl := if pSe P s = true then P else lkC (mrk P s) x
def askP (H : Hp) (P : Pl) (v : Nat) : Pl := if pIn P v = true then notR H P v (H.2.2 v) else P
def plR (H : Hp) (P : Pl) (o f n : Nat) : Pl := (upn (pVa (notR H P (2 + 4 * o + f) (H.2.1 o f))) n (H.2.1 o f), upb (pIn (notR H P (2 + 4 * o + f) (H.2.1 o f))) n false, (notR H P (2 + 4 * o + f) (H.2.1 o f)).2.2)
/-- one step: how it ends, how many are left out, the play behind it -/
def plS (A : Sh) (H : Hp) (p : Sp) (P : Pl) : Nat × Nat × Pl :=
  if p.1 = 2 then (0, (if pVa P p.2.1 = pVa P p.2.2.1 then p.2.2.2.2 else 0), askP H (askP H P p.2.1) p.2.2.1)
  else if pVa P p.2.1 = 0 then (1, 0, askP H P p.2.1)
  else if p.2.2.1 < shC A (H.1.getD (pVa P p.2.1 - 1) 0) ∧ (p.1 = 0 ↔ shT A (H.1.getD (pVa P p.2.1 - 1) 0) p.2.2.1 < 4) then
    (if p.1 = 0 then (0, 0, plR H (askP H P p.2.1) (pVa P p.2.1 - 1) p.2.2.1 p.2.2.2.1)
    else (0, (if H.2.1 (pVa P p.2.1 - 1) p.2.2.1 = p.2.2.2.1 then p.2.2.2.2 else 0), notN (askP H P p.2.1) (2 + 4 * (pVa P p.2.1 - 1) + p.2.2.1) (H.2.1 (pVa P p.2.1 - 1) p.2.2.1)))
  else (2, 0, askP H P p.2.1)
/-- from step pc on: how it ends, how many steps were done, the play -/
def plF (A : Sh) (H : Hp) (ps : List Sp) : Nat → Nat → Nat → Pl → Nat × Nat × Pl
  | 0, _, dn, P => (0, dn, P)
  | n + 1, pc, dn, P => if ps.length ≤ pc then (0, dn, P) else if (plS A H (ps.getD pc s0) P).1 = 0 then plF A H ps n (pc + 1 + (plS A H (ps.getD pc s0) P).2.1) (dn + 1) (plS A H (ps.getD pc s0) P).2.2 else ((plS A H (ps.getD pc s0) P).1, dn + 1, (plS A H (ps.getD pc s0) P).2.2)
def plB (A : Sh) (H : Hp) : Pl := (fun v => if v < shI A then H.2.2 v else 0, fun v => decide (v < shI A), fun _ => false, fun _ => 0, 0, [])
def plH (A : Sh) (H : Hp) (ps : List Sp) : Nat × Nat × Pl := plF A H ps 17 0 0 (plB A H)
/-- how many objects are called -/
def cnC (cb : Nat → Nat) : Nat → Nat
  | 0 => 0
  | n + 1 => cnC cb n + (if cb n = 0 then 0 else 1)
theorem cnC_le (cb : Nat → Nat) : ∀ n, cnC cb n ≤ n := by
  intro n
  induction n with
  | zero => exact Nat.le_refl _
  | succ n ih => unfold cnC; split <;> omega
theorem cnC_up {cb : Nat → Nat} {o x : Nat} (hx : 0 < x) (h0 : cb o = 0) : ∀ n, cnC (upn cb o x) n = cnC cb n + (if o < n then 1 else 0) := by
  intro n
  induction n with
  | zero => rfl
  | succ n ih =>
    unfold cnC
    rw [ih]
    by_cases e : n = o
    · subst e
      rw [upn_s, if_neg (show ¬ x = 0 by omega), if_pos h0, if_neg (Nat.lt_irrefl n), if_pos (Nat.lt_succ_self n)]
    · rw [upn_n e]
      by_cases h : o < n
      · rw [if_pos h, if_pos (show o < n + 1 by omega)]; omega
      · rw [if_neg h, if_neg (show ¬ o < n + 1 by omega)]; omega
def bN (b : Bool) : Nat := if b = true then 1 else 0
theorem bN_le (b : Bool) : bN b ≤ 1 := by cases b <;> decide
/-- the looks so far: as many as the steps done and inputs seen allow -/
def okP (A : Sh) (H : Hp) (dn : Nat) (P : Pl) : Prop := (∀ v, pVa P v ≤ H.1.length) ∧ (∀ v, pIn P v = true → v < shI A ∧ pVa P v = H.2.2 v) ∧ pCl P = cnC (pCb P) H.1.length ∧ (∀ o, pCb P o ≤ pCl P) ∧ (pLk P).length ≤ dn + bN (pSe P 0) + bN (pSe P 1) ∧ ∀ c ∈ pLk P, c ≤ 5 ∨ (10 ≤ c ∧ c < 14)
section PLAY
variable {A : Sh} {H : Hp}
theorem notR_va (P : Pl) (s x : Nat) : pVa (notR H P s x) = pVa P ∧ pIn (notR H P s x) = pIn P := by
  unfold notR lkR
  split
  · exact ⟨rfl, rfl⟩
  · split
    · exact ⟨rfl, rfl⟩
    · split <;> exact ⟨rfl, rfl⟩
theorem notN_va (P : Pl) (s x : Nat) : pVa (notN P s x) = pVa P ∧ pIn (notN P s x) = pIn P := by
  unfold notN
  split <;> exact ⟨rfl, rfl⟩
theorem askP_va (P : Pl) (v : Nat) : pVa (askP H P v) = pVa P ∧ pIn (askP H P v) = pIn P := by
  unfold askP
  split
  · exact notR_va _ _ _
  · exact ⟨rfl, rfl⟩
/-- a look more: d more may be there -/
theorem okP_one {dn d : Nat} {P : Pl} {s c : Nat} (hc : c ≤ 5 ∨ (10 ≤ c ∧ c < 14)) (hd : s < 2 ∨ 1 ≤ d) (hs : ¬ pSe P s = true) (h : okP A H dn P) {cb : Nat → Nat} {cl : Nat} (h3 : cl = cnC cb H.1.length) (h4 : ∀ o, cb o ≤ cl) : okP A H (dn + d) (pVa P, pIn P, upb (pSe P) s true, cb, cl, pLk P ++ [c]) := by
  obtain ⟨a1, a2, a3, a4, a5, a6⟩ := h
  refine ⟨a1, a2, h3, h4, ?_, fun z hz => ?_⟩
  · show (pLk P ++ [c]).length ≤ dn + d + bN (upb (pSe P) s true 0) + bN (upb (pSe P) s true 1)
    rw [List.length_append, List.length_singleton]
    have hs' : pSe P s = false := Bool.eq_false_iff.mpr hs
    by_cases e0 : s = 0
    · subst e0
      rw [upb_s, upb_n (by decide)]
      rw [hs'] at a5
      have : bN false = 0 := rfl
      have : bN true = 1 := rfl
      omega
    · by_cases e1 : s = 1
      · subst e1
        rw [upb_s, upb_n (by decide)]
        rw [hs'] at a5
        have : bN false = 0 := rfl
        have : bN true = 1 := rfl
        omega
      · rw [upb_n (Ne.symm e0), upb_n (Ne.symm e1)]
        omega
  · rcases List.mem_append.mp hz with z1 | z1
    · exact a6 z z1
    · simp at z1; rw [z1]; exact hc
theorem okP_le {dn d : Nat} {P : Pl} (h : okP A H dn P) : okP A H (dn + d) P := by
  obtain ⟨a1, a2, a3, a4, a5, a6⟩ := h
  exact ⟨a1, a2, a3, a4, by omega, a6⟩
theorem notR_ok (hA : okA A) (hH : okH A H) {dn d : Nat} {P : Pl} {s x : Nat} (hx : x ≤ H.1.length) (hd : s < 2 ∨ 1 ≤ d) (h : okP A H dn P) : okP A H (dn + d) (notR H P s x) := by
  have h5 := hH.1
  have hK := hA.1
  have hcl : pCl P ≤ 5 := by rw [h.2.2.1]; have := cnC_le (pCb P) H.1.length; omega
  unfold notR
  by_cases hs : pSe P s = true
  · rw [if_pos hs]; exact okP_le h
  · rw [if_neg hs]
    unfold lkR
    by_cases e0 : x = 0
    · rw [if_pos e0]
      exact okP_one (by omega) hd hs h h.2.2.1 h.2.2.2.1
    · rw [if_neg e0]
      by_cases ec : pCb P (x - 1) = 0
      · rw [if_pos (show pCb (mrk P s) (x - 1) = 0 from ec)]
        have hk := hH.2.1 _ (getD_mem (show x - 1 < H.1.length by omega))
        show okP A H (dn + d) (pVa P, pIn P, upb (pSe P) s true, upn (pCb P) (x - 1) (pCl P + 1), pCl P + 1, pLk P ++ [10 + H.1.getD (x - 1) 0])
        refine okP_one (by omega) hd hs h ?_ (fun o => ?_)
        · rw [cnC_up (by omega) ec, if_pos (show x - 1 < H.1.length by omega), h.2.2.1]
        · by_cases eo : o = x - 1
          · rw [eo, upn_s]; exact Nat.le_refl _
          · rw [upn_n eo]; have := h.2.2.2.1 o; omega
      · rw [if_neg (show ¬ pCb (mrk P s) (x - 1) = 0 from ec)]
        have := h.2.2.2.1 (x - 1)
        show okP A H (dn + d) (pVa P, pIn P, upb (pSe P) s true, pCb P, pCl P, pLk P ++ [pCb P (x - 1)])
        exact okP_one (by omega) hd hs h h.2.2.1 h.2.2.2.1
theorem notN_ok {dn : Nat} {P : Pl} {s x : Nat} (hx : x ≤ 3) (h : okP A H dn P) : okP A H (dn + 1) (notN P s x) := by
  unfold notN
  by_cases hs : pSe P s = true
  · rw [if_pos hs]; exact okP_le h
  · rw [if_neg hs]
    exact okP_one (by omega) (by omega) hs h h.2.2.1 h.2.2.2.1
theorem askP_ok (hA : okA A) (hH : okH A H) {dn : Nat} {P : Pl} {v : Nat} (h : okP A H dn P) : okP A H dn (askP H P v) := by
  unfold askP
  by_cases e : pIn P v = true
  · rw [if_pos e]
    have h1 := h.2.1 v e
    have h2 := hA.2.1
    exact notR_ok (d := 0) hA hH (hH.2.2.2 v h1.1) (by omega) h
  · rw [if_neg e]; exact h
theorem plS_ok (hA : okA A) (hH : okH A H) {dn : Nat} {P : Pl} {p : Sp} (h : okP A H dn P) : okP A H (dn + 1) (plS A H p P).2.2 := by
  have h1 := askP_ok hA hH (v := p.2.1) h
  unfold plS
  by_cases e2 : p.1 = 2
  · rw [if_pos e2]
    exact okP_le (askP_ok hA hH h1)
  · rw [if_neg e2]
    by_cases e0 : pVa P p.2.1 = 0
    · rw [if_pos e0]; exact okP_le h1
    · rw [if_neg e0]
      by_cases ef : p.2.2.1 < shC A (H.1.getD (pVa P p.2.1 - 1) 0) ∧ (p.1 = 0 ↔ shT A (H.1.getD (pVa P p.2.1 - 1) 0) p.2.2.1 < 4)
      · rw [if_pos ef]
        have hv := h.1 p.2.1
        have ho : pVa P p.2.1 - 1 < H.1.length := by omega
        have hh := hH.2.2.1 _ _ ho ef.1
        by_cases er : p.1 = 0
        · rw [if_pos er]
          have hx := hh.1 (ef.2.mp er)
          obtain ⟨a1, a2, a3, a4, a5, a6⟩ := notR_ok (d := 1) (s := 2 + 4 * (pVa P p.2.1 - 1) + p.2.2.1) hA hH hx (Or.inr (Nat.le_refl _)) h1
          refine ⟨fun v => ?_, fun v hv => ?_, a3, a4, a5, a6⟩
          · show upn _ _ _ v ≤ _
            by_cases e : v = p.2.2.2.1
            · rw [e, upn_s]; exact hx
            · rw [upn_n e]; exact a1 v
          · have hv : upb _ _ _ v = true := hv
            show _ ∧ upn _ _ _ v = _
            by_cases e : v = p.2.2.2.1
            · rw [e, upb_s] at hv; cases hv
            · rw [upb_n e] at hv
              rw [upn_n e]
              exact a2 v hv
        · rw [if_neg er]
          have hx := hh.2 (fun w => er (ef.2.mpr w))
          exact notN_ok hx h1
      · rw [if_neg ef]; exact okP_le h1
theorem plB_ok (hA : okA A) (hH : okH A H) : okP A H 0 (plB A H) := by
  refine ⟨fun v => ?_, fun v hv => ?_, ?_, fun o => Nat.le_refl _, Nat.le_refl _, fun c hc => absurd (show c ∈ ([] : List Nat) from hc) (by simp)⟩
  · show (if v < shI A then H.2.2 v else 0) ≤ _
    by_cases e : v < shI A
    · rw [if_pos e]; exact hH.2.2.2 v e
    · rw [if_neg e]; exact Nat.zero_le _
  · have hv : v < shI A := of_decide_eq_true hv
    exact ⟨hv, if_pos hv⟩
  · show 0 = cnC (fun _ => 0) H.1.length
    induction H.1.length with
    | zero => rfl
    | succ n ih => unfold cnC; rw [← ih]; rfl
theorem plF_ok (hA : okA A) (hH : okH A H) {ps : List Sp} : ∀ (n pc dn : Nat) (P : Pl), okP A H dn P → dn ≤ pc → dn ≤ 16 → ps.length ≤ 16 → okP A H (plF A H ps n pc dn P).2.1 (plF A H ps n pc dn P).2.2 ∧ (plF A H ps n pc dn P).2.1 ≤ 16 := by
  intro n
  induction n with
  | zero =>
    intro pc dn P h hd hn hp
    exact ⟨h, hn⟩
  | succ n ih =>
    intro pc dn P h hd hn hp
    unfold plF
    by_cases e : ps.length ≤ pc
    · rw [if_pos e]; exact ⟨h, by omega⟩
    · rw [if_neg e]
      have h1 := plS_ok hA hH (p := ps.getD pc s0) h
      by_cases e0 : (plS A H (ps.getD pc s0) P).1 = 0
      · rw [if_pos e0]
        exact ih (pc + 1 + (plS A H (ps.getD pc s0) P).2.1) (dn + 1) _ h1 (by omega) (by omega) hp
      · rw [if_neg e0]
        exact ⟨h1, by show dn + 1 ≤ 16; omega⟩
theorem plH_ok (hA : okA A) (hH : okH A H) {ps : List Sp} (hp : ps.length ≤ 16) : okP A H (plH A H ps).2.1 (plH A H ps).2.2 ∧ (plH A H ps).2.1 ≤ 16 := plF_ok hA hH 17 0 0 _ (plB_ok hA hH) (Nat.le_refl _) (Nat.zero_le _) hp
theorem plS_o (p : Sp) (P : Pl) : (plS A H p P).1 ≤ 2 ∧ (okS p → (plS A H p P).2.1 ≤ 16) := by
  unfold plS
  split
  · refine ⟨by simp, fun h => ?_⟩
    have := h.2.2.2.2
    dsimp only
    split <;> omega
  · split
    · exact ⟨by simp, fun _ => by simp⟩
    · split
      · split
        · exact ⟨by simp, fun _ => by simp⟩
        · refine ⟨by simp, fun h => ?_⟩
          have := h.2.2.2.2
          dsimp only
          split <;> omega
      · exact ⟨by simp, fun _ => by simp⟩
end PLAY
