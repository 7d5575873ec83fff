/-! ===== L3: the reference's rules of sorts 1, 2; holds ===== -/
theorem nb0 : vp_nar .boolean 0 = 0 := by decide
theorem nb1 : vp_nar .boolean 1 = 1 := by decide
section MRING
variable {A : Sh} {M : rr_T} {H : Hp} {q : Ru} {i : Nat}
theorem uM_holds95z (x : Int32) (y : Int32) (f : Nat) : rr_loop (f + 1) (LM_holds_95 M x) (0, y) = some (0, M) := by
  rw [loop_s, LM_holds_95]
  dsimp only
  by_cases h : M.1 37 ≤ y
  · rw [if_pos h]; exact if_pos (by decide)
  · rw [if_neg h, if_pos rfl]; exact if_pos (by decide)
theorem uM_holds95 (hV : okV A) (hS : shM M A) (hH : okH A H) (hp : hpM M A H) (hi : i < 6) (hr : rlM M i q) (hq : okQ A q) (h6 : ¬ q.1 = 6) (h1 : ¬ q.1 = 1) (h2 : ¬ q.1 = 2) : ∀ (m o f : Nat), o + m = H.1.length → m + 2 ≤ f → ((∀ j, o ≤ j → j < H.1.length → suc A q H j = true → hAt A q H j = true) → rr_loop f (LM_holds_95 M (nI i)) (1, nI o) = some (1, M)) ∧ (¬ (∀ j, o ≤ j → j < H.1.length → suc A q H j = true → hAt A q H j = true) → rr_loop f (LM_holds_95 M (nI i)) (1, nI o) = some (0, M)) := by
  have h5 := hH.1
  intro m
  induction m with
  | zero =>
    intro o f ho hf
    obtain ⟨f, rfl⟩ : ∃ g, f = g + 1 := ⟨f - 1, by omega⟩
    refine ⟨fun _ => ?_, fun z => absurd (fun j a b => by omega) z⟩
    rw [loop_s, LM_holds_95]
    dsimp only
    rw [hp.1.1, if_pos (nI_le (by omega) (by omega))]
    exact if_pos (by decide)
  | succ m ih =>
    intro o f ho hf
    obtain ⟨f, rfl⟩ : ∃ g, f = g + 1 := ⟨f - 1, by omega⟩
    rw [loop_s, LM_holds_95]
    dsimp only
    rw [hp.1.1, if_neg (nI_ge (by omega) (by omega)), if_neg (by decide), pM_isSuch hV.1 hS hH hp hi hr hq h6 (by omega), Option.bind_some, nI_1]
    have step : (suc A q H o = true → hAt A q H o = true) → ((∀ j, o ≤ j → j < H.1.length → suc A q H j = true → hAt A q H j = true) ↔ (∀ j, o + 1 ≤ j → j < H.1.length → suc A q H j = true → hAt A q H j = true)) := fun z => ⟨fun w j a b => w j (by omega) b, fun w j a b => by
      by_cases e : j = o
      · rw [e]; exact z
      · exact w j (by omega) b⟩
    by_cases hs : suc A q H o = true
    · rw [if_pos hs, if_neg (by decide), pM_holdsAt hV hS hH hp hi hr hq h6 h1 h2 (by omega) hs, Option.bind_some]
      by_cases ha : hAt A q H o = true
      · rw [if_pos ha, if_neg (by decide), step (fun _ => ha)]
        exact ih (o + 1) f (by omega) (by omega)
      · rw [if_neg ha, if_pos rfl]
        refine ⟨fun w => absurd (w o (Nat.le_refl _) (by omega) hs) ha, fun _ => ?_⟩
        obtain ⟨f, rfl⟩ : ∃ g, f = g + 1 := ⟨f - 1, by omega⟩
        exact uM_holds95z _ _ _
    · rw [if_neg hs, if_pos rfl, step (fun w => absurd w hs)]
      exact ih (o + 1) f (by omega) (by omega)
theorem cnt_le {y : Nat} : ∀ m, cnt A q H y m ≤ 2 * m := by
  intro m
  induction m with
  | zero => exact Nat.le_refl _
  | succ m ih =>
    unfold cnt
    by_cases h : suc A q H m = true
    · rw [if_pos h]
      split <;> split <;> omega
    · rw [if_neg h]; omega
theorem okQ_g (hq : okQ A q) (h : q.1 = 1 ∨ q.1 = 2) (hg : 0 < q.2.2.2) : q.2.2.2 - 1 < shC A q.2.1 ∧ shT A q.2.1 (q.2.2.2 - 1) < 4 := by
  rcases hq with hq | ⟨-, -, -, hq⟩
  · omega
  · rcases hq with hq | ⟨-, hq⟩ | hq | ⟨hq, -⟩
    · omega
    · rcases hq with hq | hq
      · omega
      · exact hq.2
    · omega
    · omega
theorem uM_apart18 (hV : okV A) (hS : shM M A) (hH : okH A H) (hp : hpM M A H) (hi : i < 6) (hr : rlM M i q) (hq : okQ A q) (h2 : q.1 = 2) {rec : Int32 × Int32 → Option Int32} {g : Int32} {y : Nat} (hy : y < 5) : ∀ (m o f : Nat), o + m = H.1.length → m + 1 ≤ f → rr_loop f (LM_holdsApart_18 M (nI i) rec (g, nI y)) (nI (cnt A q H y o), nI o) = JM_holdsApart_128 rec (g, nI y) (nI (cnt A q H y H.1.length)) := by
  have h5 := hH.1
  have h6 : ¬ q.1 = 6 := by omega
  obtain ⟨r1, r2, r3⟩ := hr.2 h6
  have r3 := r3 (by omega)
  obtain ⟨hk1, hk2, hk3⟩ := okQ_k hq h6
  intro m
  induction m with
  | zero =>
    intro o f ho hf
    obtain ⟨f, rfl⟩ : ∃ g, f = g + 1 := ⟨f - 1, by omega⟩
    rw [loop_s, LM_holdsApart_18]
    dsimp only
    rw [hp.1.1, if_pos (nI_le (by omega) (by omega)), show o = H.1.length by omega]
  | succ m ih =>
    intro o f ho hf
    obtain ⟨f, rfl⟩ : ∃ g, f = g + 1 := ⟨f - 1, by omega⟩
    have hcl := cnt_le (A := A) (q := q) (H := H) (y := y) o
    rw [loop_s, LM_holdsApart_18]
    dsimp only
    rw [hp.1.1, if_neg (nI_ge (by omega) (by omega)), pM_isSuch hV.1 hS hH hp hi hr hq h6 (by omega), Option.bind_some, nI_1]
    have hstep := ih (o + 1) f (by omega) (by omega)
    rw [show cnt A q H y (o + 1) = cnt A q H y o + (if suc A q H o = true then ((if H.2.1 o q.2.2.1 = y + 1 then 1 else 0) + (if 0 < q.2.2.2 ∧ ¬ q.2.2.2 = q.2.2.1 + 1 ∧ H.2.1 o (q.2.2.2 - 1) = y + 1 then 1 else 0)) else 0) from rfl] at hstep
    by_cases hs : suc A q H o = true
    · obtain ⟨t1, t2, t3, -⟩ := pM_tell hV hH hp (by omega) hs hk2
      have t3 := t3 hk3
      rw [if_pos hs, if_neg (by decide), if_pos (inb_nI hi (by decide)), nI_clamp (by omega), r2, ix4, if_pos (inb_nI (by omega) (by decide)), nI_clamp (by omega), t1, show mv (shT A q.2.1 q.2.2.1) (H.2.1 o q.2.2.1) = nI (H.2.1 o q.2.2.1) - 1 from if_pos hk3]
      rw [if_pos hs] at hstep
      have key : ∀ b : Nat, b ≤ 1 → b = (if H.2.1 o q.2.2.1 = y + 1 then 1 else 0) → JM_holdsApart_64 M (nI i) (g, nI y) (rr_loop f (LM_holdsApart_18 M (nI i) rec (g, nI y))) (nI (cnt A q H y o), nI o) (nI b) = JM_holdsApart_128 rec (g, nI y) (nI (cnt A q H y H.1.length)) := by
        intro b hb eb
        rw [← eb] at hstep
        rw [JM_holdsApart_64]
        simp only [rr_l]
        rw [if_pos (inb_nI hi (by decide)), nI_clamp (by omega), r3, nI_add, nI_1, if_pos (inb_nI hi (by decide)), if_pos (inb_nI hi (by decide)), if_pos (inb_nI hi (by decide)), r2]
        by_cases g0 : q.2.2.2 = 0
        · rw [if_pos ((m1_iff (by omega)).mpr g0), show nI (cnt A q H y o + b) + 0 = nI (cnt A q H y o + b) from nI_add _ 0]
          rw [if_neg (fun w => by omega)] at hstep
          exact hstep
        · obtain ⟨γ, hγ⟩ : ∃ γ, q.2.2.2 = γ + 1 := ⟨q.2.2.2 - 1, by omega⟩
          have hgi := okQ_g hq (Or.inr h2) (by omega)
          rw [hγ, show γ + 1 - 1 = γ from rfl] at hgi
          obtain ⟨u1, u2, u3, -⟩ := pM_tell hV hH hp (by omega) hs hgi.1
          have u3 := u3 hgi.2
          rw [hγ] at hstep ⊢
          rw [show γ + 1 - 1 = γ from rfl] at hstep
          rw [nI_pred, if_neg (nI_m1 (by omega))]
          by_cases ef : γ = q.2.2.1
          · rw [if_pos (by rw [ef]), show nI (cnt A q H y o + b) + 0 = nI (cnt A q H y o + b) from nI_add _ 0]
            rw [if_neg (fun w => w.2.1 (by omega))] at hstep
            exact hstep
          · rw [if_neg (fun w => ef ((nI_eq (by omega) (by omega)).mp w)), ix4, if_pos (inb_nI (by omega) (by decide)), nI_clamp (by omega), u1, show mv (shT A q.2.1 γ) (H.2.1 o γ) = nI (H.2.1 o γ) - 1 from if_pos hgi.2]
            by_cases ey : H.2.1 o γ = y + 1
            · rw [if_pos ((m1_eqN (by omega) (by omega)).mpr ey), nI_1]
              rw [if_pos ⟨by omega, by omega, ey⟩] at hstep
              exact hstep
            · rw [if_neg (fun w => ey ((m1_eqN (by omega) (by omega)).mp w)), show nI (cnt A q H y o + b) + 0 = nI (cnt A q H y o + b) from nI_add _ 0]
              rw [if_neg (fun w => ey w.2.2)] at hstep
              exact hstep
      by_cases ey : H.2.1 o q.2.2.1 = y + 1
      · rw [if_pos ((m1_eqN (by omega) (by omega)).mpr ey)]
        exact key 1 (by omega) (by rw [if_pos ey])
      · rw [if_neg (fun w => ey ((m1_eqN (by omega) (by omega)).mp w))]
        exact key 0 (by omega) (by rw [if_neg ey])
    · rw [if_neg hs, if_pos rfl]
      rw [if_neg hs] at hstep
      exact hstep
theorem uM_apart4 (hV : okV A) (hS : shM M A) (hH : okH A H) (hp : hpM M A H) (hi : i < 6) (hr : rlM M i q) (hq : okQ A q) (h2 : q.1 = 2) : ∀ (m y f : Nat) (b : Bool), y + m = H.1.length → m + 1 ≤ f → ((b = true ∧ ∀ z, y ≤ z → z < H.1.length → cnt A q H z H.1.length < 2) → rr_loop f (LM_holdsApart_4 M (nI i)) ((if b = true then 1 else 0), nI y) = some 1) ∧ (¬ (b = true ∧ ∀ z, y ≤ z → z < H.1.length → cnt A q H z H.1.length < 2) → rr_loop f (LM_holdsApart_4 M (nI i)) ((if b = true then 1 else 0), nI y) = some 0) := by
  have h5 := hH.1
  intro m
  induction m with
  | zero =>
    intro y f b hy hf
    obtain ⟨f, rfl⟩ : ∃ g, f = g + 1 := ⟨f - 1, by omega⟩
    rw [loop_s, LM_holdsApart_4]
    dsimp only
    rw [hp.1.1, if_pos (nI_le (by omega) (by omega))]
    cases b with
    | true => exact ⟨fun _ => if_pos (by decide), fun z => absurd ⟨rfl, fun z a c => by omega⟩ z⟩
    | false => exact ⟨fun z => (by cases z.1), fun _ => if_pos (by decide)⟩
  | succ m ih =>
    intro y f b hy hf
    obtain ⟨f, rfl⟩ : ∃ g, f = g + 1 := ⟨f - 1, by omega⟩
    have hcl := cnt_le (A := A) (q := q) (H := H) (y := y) H.1.length
    have e0 : rr_loop FU (LM_holdsApart_18 M (nI i) (rr_loop f (LM_holdsApart_4 M (nI i))) ((if b = true then 1 else 0), nI y)) (0, 0) = _ := uM_apart18 hV hS hH hp hi hr hq h2 (rec := rr_loop f (LM_holdsApart_4 M (nI i))) (g := if b = true then 1 else 0) (y := y) (by omega) H.1.length 0 FU (by omega) (by show _ ≤ 5000; omega)
    rw [loop_s, LM_holdsApart_4]
    dsimp only
    rw [hp.1.1, if_neg (nI_ge (by omega) (by omega)), e0, JM_holdsApart_128]
    dsimp only
    rw [nI_1]
    have hf' := ih (y + 1) f false (by omega) (by omega)
    have ht' := ih (y + 1) f true (by omega) (by omega)
    cases b with
    | false =>
      rw [if_pos (by decide)]
      exact ⟨fun z => (by cases z.1), fun _ => hf'.2 (fun z => by cases z.1)⟩
    | true =>
      rw [if_neg (by decide)]
      by_cases hc : 2 ≤ cnt A q H y H.1.length
      · rw [if_pos (show (2 : Int32) ≤ _ from nI_le (a := 2) hc (by omega))]
        exact ⟨fun z => by have := z.2 y (Nat.le_refl _) (by omega); omega, fun _ => hf'.2 (fun z => by cases z.1)⟩
      · rw [if_neg (show ¬ (2 : Int32) ≤ _ from nI_ge (b := 2) (by omega) (by omega))]
        refine ⟨fun z => ht'.1 ⟨rfl, fun w a c => z.2 w (by omega) c⟩, fun z => ht'.2 (fun w => z ⟨rfl, fun v a c => ?_⟩)⟩
        by_cases e : v = y
        · rw [e]; omega
        · exact w.2 v (by omega) c
/-- M's table `comes` -/
def cmM (M : rr_T) (R : Nat → Nat → Bool) : Prop := ∀ o y, o < 5 → y < 5 → M.2.1 30 (5 * o + y) = if R o y = true then 1 else 0
theorem cmM_put {M : rr_T} {R : Nat → Nat → Bool} (h : cmM M R) {o y : Nat} (ho : o < 5) (hy : y < 5) (b : Bool) : cmM (pA M 30 (nI (5 * o + y)) (if b = true then 1 else 0)) (fun x z => if x = o ∧ z = y then b else R x z) := by
  intro x z hx hz
  rw [pA_s, nI_clamp (by omega)]
  by_cases e : x = o ∧ z = y
  · rw [e.1, e.2, upd_s]; simp
  · rw [upd_n (by omega)]
    simp only [e, if_false]
    exact h x z hx hz
theorem cmM_eq {M : rr_T} {R R' : Nat → Nat → Bool} (h : cmM M R) (e : ∀ o y, o < 5 → y < 5 → R o y = R' o y) : cmM M R' := fun o y ho hy => by rw [← e o y ho hy]; exact h o y ho hy
theorem cmM_at {M : rr_T} {R : Nat → Nat → Bool} (h : cmM M R) {o y : Nat} (ho : o < 5) (hy : y < 5) {b : Bool} (e : R o y = b) : M.2.1 30 (5 * o + y) = if b = true then 1 else 0 := by rw [← e]; exact h o y ho hy
theorem uM_ring235 {n : Nat} {R : Nat → Nat → Bool} (hn : n ≤ 5) (h37 : M.1 37 = nI n) (hc : cmM M R) : ∀ (m o f : Nat) (b : Bool), o + m = n → m + 1 ≤ f → ((b = true ∧ ∀ z, o ≤ z → z < n → R z z = false) → rr_loop f (LM_holdsRing_235 M) ((if b = true then 1 else 0), nI o) = some (1, M)) ∧ (¬ (b = true ∧ ∀ z, o ≤ z → z < n → R z z = false) → rr_loop f (LM_holdsRing_235 M) ((if b = true then 1 else 0), nI o) = some (0, M)) := by
  intro m
  induction m with
  | zero =>
    intro y f b hy hf
    obtain ⟨f, rfl⟩ : ∃ g, f = g + 1 := ⟨f - 1, by omega⟩
    rw [loop_s, LM_holdsRing_235]
    dsimp only
    rw [h37, if_pos (nI_le (by omega) (by omega))]
    cases b with
    | true => exact ⟨fun _ => if_pos (by decide), fun z => absurd ⟨rfl, fun z a c => by omega⟩ z⟩
    | false => exact ⟨fun z => (by cases z.1), fun _ => if_pos (by decide)⟩
  | succ m ih =>
    intro o f b hy hf
    obtain ⟨f, rfl⟩ : ∃ g, f = g + 1 := ⟨f - 1, by omega⟩
    rw [loop_s, LM_holdsRing_235]
    dsimp only
    rw [h37, if_neg (nI_ge (by omega) (by omega)), nI_1]
    have hf' := ih (o + 1) f false (by omega) (by omega)
    have ht' := ih (o + 1) f true (by omega) (by omega)
    cases b with
    | false =>
      rw [if_pos (by decide)]
      exact ⟨fun z => (by cases z.1), fun _ => hf'.2 (fun z => by cases z.1)⟩
    | true =>
      rw [if_neg (by decide), show (6 : Int32) * nI o = nI (6 * o) from pk_mul 6 o, if_pos (inb_nI (by omega) (by decide)), nI_clamp (by omega), show 6 * o = 5 * o + o by omega, hc o o (by omega) (by omega)]
      cases er : R o o with
      | true =>
        rw [if_pos rfl, if_neg (by decide)]
        exact ⟨fun z => (by have := z.2 o (Nat.le_refl _) (by omega); rw [er] at this; cases this), fun _ => hf'.2 (fun z => by cases z.1)⟩
      | false =>
        rw [if_neg (show ¬ false = true by decide), if_pos rfl]
        refine ⟨fun z => ht'.1 ⟨rfl, fun w a c => z.2 w (by omega) c⟩, fun z => ht'.2 (fun w => z ⟨rfl, fun v a c => ?_⟩)⟩
        by_cases e : v = o
        · rw [e]; exact er
        · exact w.2 v (by omega) c
theorem uM_ring147 {n by' o : Nat} {R : Nat → Nat → Bool} {M0 w v : rr_T} {rec : Int32 × rr_T → Option (Int32 × rr_T)} (hn : n ≤ 5) (hb : by' < n) (ho : o < n) : ∀ (m y f : Nat) (M : rr_T), y + m = n → m + 1 ≤ f → M.1 37 = nI n → frM [] [30] M0 M → cmM M (fun x z => if x < o ∨ (x = o ∧ z < y) then (if x < n ∧ z < n then wsh R by' x z else R x z) else R x z) → ∃ M', rr_loop f (LM_holdsRing_147 (nI by', w) rec (nI o, v)) (nI y, M) = rec (nI (o + 1), M') ∧ M'.1 37 = nI n ∧ frM [] [30] M0 M' ∧ cmM M' (fun x z => if x < o + 1 then (if x < n ∧ z < n then wsh R by' x z else R x z) else R x z) := by
  intro m
  induction m with
  | zero =>
    intro y f M hy hf h37 hfr hc
    obtain ⟨f, rfl⟩ : ∃ g, f = g + 1 := ⟨f - 1, by omega⟩
    refine ⟨M, ?_, h37, hfr, cmM_eq hc (fun x z hx hz => ?_)⟩
    · rw [loop_s, LM_holdsRing_147]
      dsimp only
      rw [h37, if_pos (nI_le (by omega) (by omega)), nI_1]
    · by_cases e : x < o
      · rw [if_pos (Or.inl e), if_pos (show x < o + 1 by omega)]
      · by_cases e2 : x = o
        · rw [if_pos (show x < o + 1 by omega)]
          by_cases e3 : z < y
          · rw [if_pos (Or.inr ⟨e2, e3⟩)]
          · rw [if_neg (by omega), if_neg (by omega)]
        · rw [if_neg (by omega), if_neg (by omega)]
  | succ m ih =>
    intro y f M hy hf h37 hfr hc
    obtain ⟨f, rfl⟩ : ∃ g, f = g + 1 := ⟨f - 1, by omega⟩
    have g1 : (if o < o ∨ (o = o ∧ y < y) then (if o < n ∧ y < n then wsh R by' o y else R o y) else R o y) = R o y := if_neg (by omega)
    have g2 : (if o < o ∨ (o = o ∧ by' < y) then (if o < n ∧ by' < n then wsh R by' o by' else R o by') else R o by') = R o by' := by
      by_cases e : by' < y
      · rw [if_pos (Or.inr ⟨rfl, e⟩), if_pos ⟨ho, hb⟩]
        unfold wsh
        cases R o by' <;> simp
      · rw [if_neg (by omega)]
    have g3 : (if by' < o ∨ (by' = o ∧ y < y) then (if by' < n ∧ y < n then wsh R by' by' y else R by' y) else R by' y) = R by' y := by
      by_cases e : by' < o
      · rw [if_pos (Or.inl e), if_pos ⟨hb, by omega⟩]
        unfold wsh
        cases R by' y <;> simp
      · rw [if_neg (by omega)]
    have c1 := cmM_at hc (show o < 5 by omega) (show y < 5 by omega) g1
    have c2 := cmM_at hc (show o < 5 by omega) (show by' < 5 by omega) g2
    have c3 := cmM_at hc (show by' < 5 by omega) (show y < 5 by omega) g3
    have fin : ∀ b : Bool, b = wsh R by' o y → ∃ M', JM_holdsRing_212 (nI o, v) (rr_loop f (LM_holdsRing_147 (nI by', w) rec (nI o, v))) (nI y, M) (if b = true then 1 else 0) = rec (nI (o + 1), M') ∧ M'.1 37 = nI n ∧ frM [] [30] M0 M' ∧ cmM M' (fun x z => if x < o + 1 then (if x < n ∧ z < n then wsh R by' x z else R x z) else R x z) := by
      intro b eb
      rw [JM_holdsRing_212]
      dsimp only
      rw [ix5, if_pos (inb_nI (by omega) (by decide))]
      simp only [rr_l]
      rw [nI_1, show vp_nar .boolean (if b = true then 1 else 0) = (if b = true then 1 else 0) by cases b; exact nb0; exact nb1]
      refine ih (y + 1) f _ (by omega) (by omega) h37 (frM_pA hfr (by simp)) (cmM_eq (cmM_put hc (by omega) (by omega) b) (fun x z hx hz => ?_))
      by_cases e : x = o ∧ z = y
      · rw [if_pos e, if_pos (show x < o ∨ (x = o ∧ z < y + 1) by omega), if_pos (show x < n ∧ z < n by omega), e.1, e.2, eb]
      · rw [if_neg e]
        by_cases e2 : x < o ∨ (x = o ∧ z < y)
        · rw [if_pos e2, if_pos (show x < o ∨ (x = o ∧ z < y + 1) by omega)]
        · rw [if_neg e2, if_neg (show ¬ (x < o ∨ (x = o ∧ z < y + 1)) by omega)]
    have ft := fin true
    have ff := fin false
    rw [if_pos rfl] at ft
    rw [if_neg (by decide)] at ff
    rw [loop_s, LM_holdsRing_147]
    dsimp only
    rw [h37, if_neg (nI_ge (by omega) (by omega)), ix5, ix5, ix5, if_pos (inb_nI (by omega) (by decide)), if_pos (inb_nI (by omega) (by decide)), if_pos (inb_nI (by omega) (by decide)), nI_clamp (by omega), nI_clamp (by omega), nI_clamp (by omega), c1, c2, c3]
    cases r1 : R o y with
    | true =>
      rw [if_pos rfl, if_neg (by decide)]
      exact ft (by unfold wsh; rw [r1]; rfl)
    | false =>
      rw [if_neg (show ¬ false = true by decide), if_pos rfl]
      cases r2 : R o by' with
      | false =>
        rw [if_neg (show ¬ false = true by decide), if_pos rfl]
        exact ff (by unfold wsh; rw [r1, r2]; rfl)
      | true =>
        rw [if_pos rfl, if_neg (by decide)]
        cases r3 : R by' y with
        | false =>
          rw [if_neg (show ¬ false = true by decide), if_pos rfl]
          exact ff (by unfold wsh; rw [r1, r2, r3]; rfl)
        | true =>
          rw [if_pos rfl, if_neg (by decide)]
          exact ft (by unfold wsh; rw [r1, r2, r3]; rfl)
theorem uM_ring136 {n by' : Nat} {R : Nat → Nat → Bool} {M0 w : rr_T} {rec : Int32 × rr_T → Option (Int32 × rr_T)} (hn : n ≤ 5) (hb : by' < n) : ∀ (m o f : Nat) (M : rr_T), o + m = n → m + 1 ≤ f → M.1 37 = nI n → frM [] [30] M0 M → cmM M (fun x z => if x < o then (if x < n ∧ z < n then wsh R by' x z else R x z) else R x z) → ∃ M', rr_loop f (LM_holdsRing_136 rec (nI by', w)) (nI o, M) = rec (nI (by' + 1), M') ∧ M'.1 37 = nI n ∧ frM [] [30] M0 M' ∧ cmM M' (fun x z => if x < n ∧ z < n then wsh R by' x z else R x z) := by
  intro m
  induction m with
  | zero =>
    intro o f M hy hf h37 hfr hc
    obtain ⟨f, rfl⟩ : ∃ g, f = g + 1 := ⟨f - 1, by omega⟩
    refine ⟨M, ?_, h37, hfr, cmM_eq hc (fun x z hx hz => ?_)⟩
    · rw [loop_s, LM_holdsRing_136]
      dsimp only
      rw [h37, if_pos (nI_le (by omega) (by omega)), nI_1]
    · by_cases e : x < o
      · rw [if_pos e]
      · rw [if_neg e, if_neg (by omega)]
  | succ m ih =>
    intro o f M hy hf h37 hfr hc
    obtain ⟨f, rfl⟩ : ∃ g, f = g + 1 := ⟨f - 1, by omega⟩
    obtain ⟨M1, e1, e2, e3, e4⟩ := uM_ring147 (R := R) (v := M) (w := w) (rec := rr_loop f (LM_holdsRing_136 rec (nI by', w))) (M0 := M0) hn hb (show o < n by omega) n 0 FU M (by omega) (by show _ ≤ 5000; omega) h37 hfr (cmM_eq hc (fun x z hx hz => by
      by_cases e : x < o
      · rw [if_pos e, if_pos (Or.inl e)]
      · rw [if_neg e, if_neg (by omega)]))
    obtain ⟨M', g1, g2, g3, g4⟩ := ih (o + 1) f M1 (by omega) (by omega) e2 e3 e4
    refine ⟨M', ?_, g2, g3, g4⟩
    rw [loop_s, LM_holdsRing_136]
    dsimp only
    rw [h37, if_neg (nI_ge (by omega) (by omega)), ← g1, ← e1]
    rfl
theorem uM_ring126 {n : Nat} {E : Nat → Nat → Bool} {M0 : rr_T} (hn : n ≤ 5) : ∀ (m k f : Nat) (M : rr_T), k + m = n → m + 1 ≤ f → M.1 37 = nI n → frM [] [30] M0 M → cmM M (fun x z => if x < n ∧ z < n then wshN E k x z else false) → ∃ M', frM [] [30] M0 M' ∧ (cyc E n → rr_loop f (LM_holdsRing_126) (nI k, M) = some (0, M')) ∧ (¬ cyc E n → rr_loop f (LM_holdsRing_126) (nI k, M) = some (1, M')) := by
  intro m
  induction m with
  | zero =>
    intro k f M hk hf h37 hfr hc
    obtain ⟨f, rfl⟩ : ∃ g, f = g + 1 := ⟨f - 1, by omega⟩
    have e : k = n := by omega
    subst e
    have h := uM_ring235 hn h37 hc k 0 FU true (by omega) (by show _ ≤ 5000; omega)
    refine ⟨M, hfr, fun q => ?_, fun q => ?_⟩
    · rw [loop_s, LM_holdsRing_126]
      dsimp only
      rw [h37, if_pos (nI_le (by omega) (by omega)), JM_holdsRing_231]
      refine h.2 (fun z => ?_)
      obtain ⟨o, ho, e⟩ := wsh_cyc.mp q
      have := z.2 o (Nat.zero_le _) ho
      rw [if_pos ⟨ho, ho⟩, e] at this
      cases this
    · rw [loop_s, LM_holdsRing_126]
      dsimp only
      rw [h37, if_pos (nI_le (by omega) (by omega)), JM_holdsRing_231]
      refine h.1 ⟨rfl, fun z _ hz => ?_⟩
      rw [if_pos ⟨hz, hz⟩]
      cases e : wshN E k z z with
      | false => rfl
      | true => exact absurd (wsh_cyc.mpr ⟨z, hz, e⟩) q
  | succ m ih =>
    intro k f M hk hf h37 hfr hc
    obtain ⟨f, rfl⟩ : ∃ g, f = g + 1 := ⟨f - 1, by omega⟩
    obtain ⟨M1, e1, e2, e3, e4⟩ := uM_ring136 (R := fun x z => if x < n ∧ z < n then wshN E k x z else false) (w := M) (rec := rr_loop f (LM_holdsRing_126)) (M0 := M0) hn (show k < n by omega) n 0 FU M (by omega) (by show _ ≤ 5000; omega) h37 hfr (cmM_eq hc (fun x z hx hz => by rw [if_neg (Nat.not_lt_zero _)]))
    obtain ⟨M', g1, g2, g3⟩ := ih (k + 1) f M1 (by omega) (by omega) e2 e3 (cmM_eq e4 (fun x z hx hz => by
      by_cases e : x < n ∧ z < n
      · rw [if_pos e, if_pos e]
        show wsh _ k x z = wsh (wshN E k) k x z
        unfold wsh
        simp only [e.1, e.2, show k < n by omega, and_self, if_true]
      · rw [if_neg e, if_neg e, if_neg e]))
    have e0 : rr_loop (f + 1) (LM_holdsRing_126) (nI k, M) = rr_loop f (LM_holdsRing_126) (nI (k + 1), M1) := by
      rw [loop_s, LM_holdsRing_126]
      dsimp only
      rw [h37, if_neg (nI_ge (by omega) (by omega)), ← e1]
      rfl
    exact ⟨M', g1, fun q => by rw [e0]; exact g2 q, fun q => by rw [e0]; exact g3 q⟩
end MRING
