/-! ===== L3: the reference's nextChoice, fill, nextRow, load ===== -/
def oI (o : Option Nat) : Int32 := match o with
  | none => -1
  | some d => nI d
/-- M's row `at` tells the first n choices -/
def atM (M : rr_T) (a : Nat → Nat) (n : Nat) : Prop := ∀ p, p < n → M.2.1 26 p = nI (a p)
theorem uM_nextChoice {A : Sh} {M : rr_T} {ks : List Nat} {t : Nat} (hA : okA A) (h : shM M A) (ho : obM M ks) (hy : tyM M t) (hl : ks.length ≤ shB A) (hk : ∀ k ∈ ks, k < shK A) (ht : t < shK A ∨ (5 ≤ t ∧ t ≤ 7)) : ∀ (m c f : Nat), c + m = 14 → m + 1 ≤ f → rr_loop f (LM_nextChoice_4 M) (nI c) = some (oI (nx A ks t m c)) := by
  intro m
  induction m with
  | zero =>
    intro c f hc hf
    obtain ⟨f, rfl⟩ : ∃ g, f = g + 1 := ⟨f - 1, by omega⟩
    rw [loop_s, LM_nextChoice_4, if_pos (show (14 : Int32) ≤ nI c from nI_le (a := 14) (by omega) (by omega))]
    rfl
  | succ m ih =>
    intro c f hc hf
    obtain ⟨f, rfl⟩ : ∃ g, f = g + 1 := ⟨f - 1, by omega⟩
    rw [loop_s, LM_nextChoice_4, if_neg (show ¬ (14 : Int32) ≤ nI c from nI_ge (b := 14) (by omega) (by decide)), pM_canBeN hA h ho hy hl hk ht (by omega), Option.bind_some]
    unfold nx
    by_cases q : alw A ks t c = true
    · rw [if_pos q, if_pos q, if_neg (by decide)]
      rfl
    · rw [if_neg q, if_neg q, if_pos rfl, nI_1]
      exact ih (c + 1) f (by omega) (by omega)
theorem pM_nextChoice {A : Sh} {M : rr_T} {ks : List Nat} {t : Nat} (hA : okA A) (h : shM M A) (ho : obM M ks) (hy : tyM M t) (hl : ks.length ≤ shB A) (hk : ∀ k ∈ ks, k < shK A) (ht : t < shK A ∨ (5 ≤ t ∧ t ≤ 7)) {c : Nat} (hc : c < 14) : fM_nextChoice M (nI c) = some (oI (nx A ks t (13 - c) (c + 1))) := by
  rw [fM_nextChoice]
  simp only [rr_l]
  rw [nI_1]
  exact uM_nextChoice hA h ho hy hl hk ht (13 - c) (c + 1) FU (by omega) (by show _ ≤ 5000; omega)
theorem pM_nextChoice0 {A : Sh} {M : rr_T} {ks : List Nat} {t : Nat} (hA : okA A) (h : shM M A) (ho : obM M ks) (hy : tyM M t) (hl : ks.length ≤ shB A) (hk : ∀ k ∈ ks, k < shK A) (ht : t < shK A ∨ (5 ≤ t ∧ t ≤ 7)) : fM_nextChoice M (-1) = some 0 := by
  rw [fM_nextChoice]
  simp only [rr_l]
  rw [show (-1 : Int32) + 1 = nI 0 by decide, uM_nextChoice hA h ho hy hl hk ht 14 0 FU (by omega) (by decide)]
  unfold nx
  rw [if_pos (alw_0 A ks t)]
  rfl
theorem upd_at {M : rr_T} {a : Nat → Nat} {n c : Nat} (h : atM M a n) (hn : n < 2 ^ 31) : atM (pA M 26 (nI n) (nI c)) (upn a n c) (n + 1) := by
  intro p hp
  rw [pA_s, nI_clamp hn]
  rcases Nat.lt_or_ge p n with q | q
  · rw [upd_n (by omega), upn_n (by omega), h p q]
  · rw [show p = n by omega, upd_s, upn_s]
theorem atM_fr {is as : List Nat} {M M' : rr_T} {a : Nat → Nat} {n : Nat} (f : frM is as M M') (h26 : 26 ∉ as) (h : atM M a n) : atM M' a n := fun p hp => by rw [f.2 26 h26]; exact h p hp
theorem atM_eq {M : rr_T} {a b : Nat → Nat} {n : Nat} (e : ∀ p, p < n → a p = b p) (h : atM M a n) : atM M b n := fun p hp => by rw [← e p hp]; exact h p hp
theorem cuM_eq {A : Sh} {M : rr_T} {a b : Nat → Nat} {n : Nat} (e : ∀ p, p < n → a p = b p) (h : cuM A a M n) : cuM A b M n := by
  unfold cuM
  rw [← ob_eq n e, ← sl_eq n e, ← td_eq n e]
  exact h
abbrev gR : List Nat := [37, 41, 42]
abbrev gA : List Nat := [26, 27, 28, 29]
/-- the cursor with its choices -/
def csM (A : Sh) (M : rr_T) (r : Nat × (Nat → Nat)) : Prop := atM M r.2 r.1 ∧ cuM A r.2 M r.1
theorem uM_fill {A : Sh} (hA : okA A) : ∀ (m n : Nat) (a : Nat → Nat) (M : rr_T) (f : Nat), 22 ≤ n + m → m + 1 ≤ f → okR A a n → shM M A → csM A M (n, a) → ∃ M', rr_loop f (LM_fill_7) (nI n, M) = some (nI (fil A m n a).1, M') ∧ frM gR gA M M' ∧ csM A M' (fil A m n a) := by
  intro m
  induction m with
  | zero =>
    intro n a M f h1 h2 hok hS hc
    obtain ⟨f, rfl⟩ : ∃ g, f = g + 1 := ⟨f - 1, by omega⟩
    have e : sl A a n = none := by
      cases e : sl A a n with
      | none => rfl
      | some s => have := okR_lt e; omega
    rw [loop_s, LM_fill_7]
    dsimp only
    rw [if_pos (hc.2.2.1 e)]
    exact ⟨M, rfl, frM_r _ _ _, hc⟩
  | succ m ih =>
    intro n a M f h1 h2 hok hS hc
    obtain ⟨f, rfl⟩ : ∃ g, f = g + 1 := ⟨f - 1, by omega⟩
    rw [loop_s, LM_fill_7]
    dsimp only
    unfold fil
    cases e : sl A a n with
    | none =>
      rw [if_pos (hc.2.2.1 e)]
      exact ⟨M, rfl, frM_r _ _ _, hc⟩
    | some s =>
      dsimp only
      obtain ⟨g1, g2, t, ht⟩ := sl_some n s e
      obtain ⟨i1, i2⟩ := ob_ok hA n hok
      have hin := typ_in hA i2 ht
      have hy := hc.2.2.2.1 s t e ht
      have h41 : ¬ M.1 41 = -1 := by
        by_cases h4 : t < 4
        · rw [(hy.1 h4).1]; decide
        · rw [(hy.2 h4).1]; decide
      rw [if_neg h41, pM_nextChoice0 hA hS hc.2.1 hy i1 i2 hin, Option.bind_some, if_pos (inb_nI (by omega) (by decide))]
      simp only [rr_l]
      have e1 := sl_eq (A := A) n (upn_lt (a := a) (n := n) (c := 0))
      have e2 := ob_eq n (upn_lt (a := a) (n := n) (c := 0))
      have hok' : okR A (upn a n 0) (n + 1) := okR_s (okR_eq upn_lt hok) (by rw [← e1]; exact e) (by rw [← e2]; exact ht) (by rw [upn_s]; exact alw_0 ..)
      have hat : atM (pA M 26 (nI n) 0) (upn a n 0) (n + 1) := upd_at (c := 0) hc.1 (by omega)
      have f1 : frM gR gA M (pA M 26 (nI n) 0) := frM_pA (frM_r _ _ _) (by simp)
      rw [nI_1]
      obtain ⟨M1, q1, q2, q3⟩ := pM_go hA (shM_fr f1 (by decide) (by decide) hS) hok' hat
      rw [q1, Option.bind_some]
      have f2 : frM gR gA M M1 := frM_t f1 (frM_w q2 (by simp) (by simp))
      obtain ⟨M', r1, r2, r3⟩ := ih (n + 1) (upn a n 0) M1 f (by omega) (by omega) hok' (shM_fr f2 (by decide) (by decide) hS) ⟨atM_fr q2 (by decide) hat, q3⟩
      exact ⟨M', r1, frM_t f2 r2, r3⟩
theorem pM_fill {A : Sh} {a : Nat → Nat} {n : Nat} {M : rr_T} (hA : okA A) (hok : okR A a n) (hS : shM M A) (hat : atM M a n) : ∃ M', fM_fill M (nI n) = some (nI (fil A 22 n a).1, M') ∧ frM gR gA M M' ∧ csM A M' (fil A 22 n a) := by
  rw [fM_fill]
  obtain ⟨M1, q1, q2, q3⟩ := pM_go hA hS hok hat
  rw [q1, Option.bind_some]
  have f2 : frM gR gA M M1 := frM_w q2 (by simp) (by simp)
  obtain ⟨M', r1, r2, r3⟩ := uM_fill hA 22 n a M1 FU (by omega) (by decide) hok (shM_fr f2 (by decide) (by decide) hS) ⟨atM_fr q2 (by decide) hat, q3⟩
  exact ⟨M', r1, frM_t f2 r2, r3⟩
theorem oI_m1 {o : Option Nat} (h : ∀ d, o = some d → d < 2 ^ 31) : oI o = -1 ↔ o = none := by
  cases o with
  | none => simp [oI]
  | some d => exact ⟨fun q => absurd q (nI_m1 (h d rfl)), fun q => by cases q⟩
theorem uM_nextRow {A : Sh} (hA : okA A) {a : Nat → Nat} {n : Nat} (hok : okR A a n) : ∀ (p f : Nat) (M : rr_T), p ≤ n → p + 1 ≤ f → shM M A → atM M a n → (ras A a p = none → ∃ M', rr_loop f (LM_nextRow_4) (nI p - 1, M) = some (-1, M') ∧ frM gR gA M M') ∧ ∀ s, ras A a p = some s → ∃ M', rr_loop f (LM_nextRow_4) (nI p - 1, M) = some (nI (fil A 22 s.1 s.2).1, M') ∧ frM gR gA M M' ∧ csM A M' (fil A 22 s.1 s.2) := by
  intro p
  induction p with
  | zero =>
    intro f M hp hf hS hat
    obtain ⟨f, rfl⟩ : ∃ g, f = g + 1 := ⟨f - 1, by omega⟩
    refine ⟨fun _ => ?_, fun s e => by cases e⟩
    rw [loop_s, LM_nextRow_4]
    dsimp only
    rw [if_pos (by decide)]
    exact ⟨M, rfl, frM_r _ _ _⟩
  | succ p ih =>
    intro f M hp hf hS hat
    obtain ⟨f, rfl⟩ : ∃ g, f = g + 1 := ⟨f - 1, by omega⟩
    have n22 := okR_22 hok
    rw [loop_s, LM_nextRow_4]
    dsimp only
    rw [nI_pred, if_neg (nI_pos (by omega))]
    obtain ⟨M1, q1, q2, q3⟩ := pM_go hA hS (okR_le hok (show p ≤ n by omega)) (fun j hj => hat j (by omega))
    obtain ⟨s, t, h1, h2, h3⟩ := hok p (by omega)
    obtain ⟨i1, i2⟩ := ob_ok hA p (okR_le hok (by omega))
    have hc := alw_in hA i1 (typ_in hA i2 h2) h3
    have hK := hA.1
    have f1 : frM gR gA M M1 := frM_w q2 (by simp) (by simp)
    have hS1 := shM_fr f1 (by decide) (by decide) hS
    have et : tyW A a p = t := by unfold tyW; rw [h1]; dsimp only; rw [h2]; rfl
    have en : nxc A a p = nx A (ob a p) t (13 - a p) (a p + 1) := by unfold nxc; rw [et]
    rw [q1, Option.bind_some, if_pos (inb_nI (by omega) (by decide)), nI_clamp (by omega), q2.2 26 (by decide), hat p (by omega), pM_nextChoice hA hS1 q3.1 (q3.2.2.1 s t h1 h2) i1 i2 (typ_in hA i2 h2) (by omega), Option.bind_some, ← en]
    unfold ras
    cases ed : nxc A a p with
    | none =>
      dsimp only
      rw [if_pos (show oI none = -1 from rfl), show nI p + (-1) = nI p - 1 from (Int32.sub_eq_add_neg ..).symm]
      have := ih f M1 (by omega) (by omega) hS1 (atM_fr q2 (by decide) hat)
      refine ⟨fun e => ?_, fun s e => ?_⟩
      · obtain ⟨M', r1, r2⟩ := this.1 e
        exact ⟨M', r1, frM_t f1 r2⟩
      · obtain ⟨M', r1, r2, r3⟩ := this.2 s e
        exact ⟨M', r1, frM_t f1 r2, r3⟩
    | some d =>
      dsimp only
      refine ⟨fun e => (by cases e), fun w e => ?_⟩
      have e : some (p + 1, upn a p d) = some w := e
      cases e
      rw [en] at ed
      obtain ⟨j1, j2, j3⟩ := nx_some _ _ _ ed
      rw [if_neg (show ¬ oI (some d) = -1 from nI_m1 (by omega)), JM_nextRow_29]
      dsimp only
      rw [if_pos (inb_nI (by omega) (by decide))]
      simp only [rr_l, nI_1]
      have hat' : atM (pA M1 26 (nI p) (nI d)) (upn a p d) (p + 1) := upd_at (fun j hj => atM_fr q2 (by decide) hat j (by omega)) (by omega)
      have f2 : frM gR gA M (pA M1 26 (nI p) (nI d)) := frM_pA f1 (by simp)
      have e1 := sl_eq (A := A) p (upn_lt (a := a) (n := p) (c := d))
      have e2 := ob_eq p (upn_lt (a := a) (n := p) (c := d))
      have hok' : okR A (upn a p d) (p + 1) := okR_s (okR_eq upn_lt (okR_le hok (by omega))) (by rw [← e1]; exact h1) (by rw [← e2]; exact h2) (by rw [upn_s, ← e2]; exact j3)
      obtain ⟨M', r1, r2, r3⟩ := pM_fill hA hok' (shM_fr f2 (by decide) (by decide) hS) hat'
      refine ⟨M', ?_, frM_t f2 r2, r3⟩
      rw [show oI (some d) = nI d from rfl, r1, Option.bind_some]
theorem pM_nextRow {A : Sh} {r : Nat × (Nat → Nat)} {M : rr_T} (hA : okA A) (hok : okR A r.2 r.1) (hS : shM M A) (hat : atM M r.2 r.1) : (nxt A r = none → ∃ M', fM_nextRow M (nI r.1) = some (-1, M') ∧ frM gR gA M M') ∧ ∀ s, nxt A r = some s → ∃ M', fM_nextRow M (nI r.1) = some (nI s.1, M') ∧ frM gR gA M M' ∧ csM A M' s := by
  have n22 := okR_22 hok
  rw [fM_nextRow]
  simp only [rr_l]
  have h := uM_nextRow hA hok r.1 FU M (Nat.le_refl _) (by show _ ≤ 5000; omega) hS hat
  unfold nxt
  cases e : ras A r.2 r.1 with
  | none =>
    exact ⟨fun _ => h.1 e, fun s q => by cases q⟩
  | some w =>
    refine ⟨fun q => (by cases q), fun s q => ?_⟩
    cases q
    exact h.2 w e
/-- M's row number i is r -/
def rwM (M : rr_T) (i : Nat) (r : Nat × (Nat → Nat)) : Prop := M.2.1 17 i = nI r.1 ∧ ∀ p, p < r.1 → M.2.1 16 (22 * i + p) = nI (r.2 p)
theorem uM_load {A : Sh} (hA : okA A) {r : Nat × (Nat → Nat)} {i : Nat} (hi : i < 4000) (hok : okR A r.2 r.1) : ∀ (m p f : Nat) (M : rr_T), p + m = r.1 → m + 1 ≤ f → shM M A → rwM M i r → atM M r.2 p → ∃ M', rr_loop f (LM_load_2 (nI i)) (nI p, M) = some M' ∧ frM gR gA M M' ∧ csM A M' r := by
  have n22 := okR_22 hok
  intro m
  induction m with
  | zero =>
    intro p f M hp hf hS hr hat
    obtain ⟨f, rfl⟩ : ∃ g, f = g + 1 := ⟨f - 1, by omega⟩
    rw [loop_s, LM_load_2, if_pos (inb_nI hi (by decide))]
    dsimp only
    rw [nI_clamp (by omega), hr.1, if_pos (nI_le (by omega) (by omega)), JM_load_35, if_pos (inb_nI hi (by decide)), nI_clamp (by omega), hr.1]
    obtain ⟨M', q1, q2, q3⟩ := pM_go hA hS hok (fun j hj => hat j (by omega))
    refine ⟨M', by rw [q1, Option.bind_some], frM_w q2 (by simp) (by simp), atM_fr q2 (by decide) (fun j hj => hat j (by omega)), q3⟩
  | succ m ih =>
    intro p f M hp hf hS hr hat
    obtain ⟨f, rfl⟩ : ∃ g, f = g + 1 := ⟨f - 1, by omega⟩
    rw [loop_s, LM_load_2, if_pos (inb_nI hi (by decide))]
    dsimp only
    rw [nI_clamp (by omega), hr.1, if_neg (nI_ge (by omega) (by omega)), show (22 : Int32) * nI i + nI p = nI (22 * i + p) by rw [show (22 : Int32) * nI i = nI (22 * i) from pk_mul 22 i, nI_add], if_pos (inb_nI (by omega) (by decide)), if_pos (inb_nI (by omega) (by decide)), nI_clamp (by omega), hr.2 p (by omega)]
    simp only [rr_l, nI_1]
    have f1 : frM gR gA M (pA M 26 (nI p) (nI (r.2 p))) := frM_pA (frM_r _ _ _) (by simp)
    have hat' : atM (pA M 26 (nI p) (nI (r.2 p))) r.2 (p + 1) := atM_eq (fun j hj => by by_cases q : j = p; rw [q, upn_s]; exact upn_n q) (upd_at hat (by omega))
    obtain ⟨M', r1, r2, r3⟩ := ih (p + 1) f _ (by omega) (by omega) (shM_fr f1 (by decide) (by decide) hS) ⟨by rw [pA_n (by decide)]; exact hr.1, fun j hj => by rw [pA_n (by decide)]; exact hr.2 j hj⟩ hat'
    exact ⟨M', r1, frM_t f1 r2, r3⟩
theorem pM_load {A : Sh} {r : Nat × (Nat → Nat)} {i : Nat} {M : rr_T} (hA : okA A) (hi : i < 4000) (hok : okR A r.2 r.1) (hS : shM M A) (hr : rwM M i r) : ∃ M', fM_load M (nI i) = some M' ∧ frM gR gA M M' ∧ csM A M' r := by
  have n22 := okR_22 hok
  rw [fM_load]
  exact uM_load hA hi hok r.1 0 FU M (by omega) (by show _ ≤ 5000; omega) hS hr (fun p hp => absurd hp (Nat.not_lt_zero _))
