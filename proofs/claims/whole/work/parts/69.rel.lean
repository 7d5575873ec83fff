/-! ===== L3: the two states go together ===== -/
section REL
variable {A A' : Sh} {qs qs' : List Ru} {ps ps' : List Sp} {tw tw' : List Int32} {Z S M : rr_T}
theorem okQ_kind {q : Ru} {x : Int32} (h : okQ A q) : okQ (spKind A x).2 q := by
  unfold spKind
  repeat' split
  all_goals first | exact h | exact okQ_addK h
theorem okQ_field {q : Ru} {x y z : Int32} (h : okQ A q) : okQ (spField A x y z).2 q := by
  unfold spField
  repeat' split
  all_goals first | exact h | exact okQ_addF h
theorem okQ_input {q : Ru} {x : Int32} (h : okQ A q) : okQ (spInput A x).2 q := by
  unfold spInput
  repeat' split
  all_goals exact h
theorem okQ_bound {q : Ru} {x : Int32} (h : okQ A q) : okQ (spBound A x).2 q := by
  unfold spBound
  repeat' split
  all_goals exact h
/-- the reference's side -/
theorem plyM_fr {is as : List Nat} {M M' : rr_T} (f : frM is as M M') (h1 : 33 ∉ is) (h2 : ∀ n ∈ [20, 21, 22, 23, 24, 25], n ∉ as) (h : plyM A ps M) : plyM A ps M' := by
  obtain ⟨E, e1, e2, e3, e4⟩ := h
  exact ⟨E, lksM_fr f (fun n hn => h2 n (by simp at hn ⊢; omega)) e1, enM_fr f h1 (h2 24 (by simp)) e2, e3, by rw [f.2 25 (h2 25 (by simp))]; exact e4⟩
theorem M_ask {M' : rr_T} (h : plX A qs ps M) (e : frE A qs M M') : plX A qs ps M' := by
  obtain ⟨⟨h1, h2, h3, h4, h5⟩, h6, h7, h8⟩ := h
  obtain ⟨f, e1, e2⟩ := e
  refine ⟨⟨h1, h2, shM_fr f (by simp) (by simp) h3, rsM_fr f (by simp) (by simp) h4, Or.inr ⟨e1, e2⟩⟩, tpM_fr f (by simp) (by simp) h6, h7, ?_⟩
  rcases h8 with h8 | ⟨g1, g2, g3, g4⟩
  · exact Or.inl (by rw [f.1 28 (by simp)]; exact h8)
  · exact Or.inr ⟨by rw [f.1 28 (by simp)]; exact g1, e1, g3, plyM_fr f (by simp) (by simp) g4⟩
theorem M_ends {M' : rr_T} (h : plX A qs ps M) (e : plE A qs ps M M') : plX A qs ps M' := by
  obtain ⟨⟨h1, h2, h3, h4, h5⟩, h6, h7, h8⟩ := h
  obtain ⟨f, e1, e2, e3⟩ := e
  exact ⟨⟨h1, h2, shM_fr f (by simp) (by simp) h3, rsM_fr f (by simp) (by simp) h4, Or.inr ⟨e1, e2⟩⟩, tpM_fr f (by simp) (by simp) h6, h7, e3⟩
theorem M_set {M' : rr_T} {is as : List Nat} (h : plX A qs ps M) (f : frM is as M M') (h1 : ∀ n ∈ [8, 13], n ∉ is) (h2 : ∀ n ∈ [6, 7, 8, 9, 10, 11, 12, 13, 14], n ∉ as) (hV : okV A') (hQ : ∀ q ∈ qs, okQ A' q) (hS : shM M' A') (hc : chg M M' (A' = A)) : plX A' qs ps M' := by
  obtain ⟨⟨g1, g2, g3, g4, g5⟩, g6, g7, g8⟩ := h
  have r := rsM_fr f (h1 8 (by simp)) (fun n hn => h2 n (by simp at hn ⊢; omega)) g4
  have t := tpM_fr f (h1 13 (by simp)) (fun n hn => h2 n (by simp at hn ⊢; omega)) g6
  rcases hc with ⟨e1, e2⟩ | ⟨e1, e2⟩
  · subst e1 e2
    exact ⟨⟨hV, hQ, hS, r, g5⟩, t, g7, g8⟩
  · exact ⟨⟨hV, hQ, hS, r, Or.inl e1⟩, t, g7, Or.inl e2⟩
theorem M_rule {M' : rr_T} (h : plX A qs ps M) (f : frM [8, 21, 28] [6, 7, 8, 9] M M') (hr : rsM M' qs') (hQ : ∀ q ∈ qs', okQ A q) (hc : (M' = M ∧ qs' = qs) ∨ (M'.1 21 = 0 ∧ M'.1 28 = 0)) : plX A qs' ps M' := by
  obtain ⟨⟨g1, g2, g3, g4, g5⟩, g6, g7, g8⟩ := h
  have s := shM_fr f (by simp) (by simp) g3
  have t := tpM_fr f (by simp) (by simp) g6
  rcases hc with ⟨e1, e2⟩ | ⟨e1, e2⟩
  · subst e1 e2
    exact ⟨⟨g1, g2, g3, g4, g5⟩, g6, g7, g8⟩
  · exact ⟨⟨g1, hQ, s, hr, Or.inl e1⟩, t, g7, Or.inl e2⟩
theorem M_put {M' : rr_T} (h : plX A qs ps M) (f : frM [19] [15] M M') : plX A qs ps M' := by
  obtain ⟨⟨g1, g2, g3, g4, g5⟩, g6, g7, g8⟩ := h
  refine ⟨⟨g1, g2, shM_fr f (by simp) (by simp) g3, rsM_fr f (by simp) (by simp) g4, ?_⟩, tpM_fr f (by simp) (by simp) g6, g7, ?_⟩
  · rw [f.1 21 (by simp)]
    rcases g5 with g5 | ⟨k1, k2, k3⟩
    · exact Or.inl g5
    · exact Or.inr ⟨k1, by rw [f.1 22 (by simp)]; exact k2, fun w => stM_fr f (by simp) (by simp) (k3 w)⟩
  · rcases g8 with g8 | ⟨k1, k2, k3, k4⟩
    · exact Or.inl (by rw [f.1 28 (by simp)]; exact g8)
    · exact Or.inr ⟨by rw [f.1 28 (by simp)]; exact k1, by rw [f.1 21 (by simp)]; exact k2, k3, plyM_fr f (by simp) (by simp) k4⟩
theorem M_step {M' : rr_T} (h : plX A qs ps M) (f : frM [13, 28] [10, 11, 12, 13, 14] M M') (ht : tpM M' ps') (hG : okG ps') (hc : (M' = M ∧ ps' = ps) ∨ M'.1 28 = 0) : plX A qs ps' M' := by
  obtain ⟨⟨g1, g2, g3, g4, g5⟩, g6, g7, g8⟩ := h
  rcases hc with ⟨e1, e2⟩ | e
  · subst e1 e2
    exact ⟨⟨g1, g2, g3, g4, g5⟩, g6, g7, g8⟩
  · refine ⟨⟨g1, g2, shM_fr f (by simp) (by simp) g3, rsM_fr f (by simp) (by simp) g4, ?_⟩, ht, hG, Or.inl e⟩
    rw [f.1 21 (by simp)]
    rcases g5 with g5 | ⟨k1, k2, k3⟩
    · exact Or.inl g5
    · exact Or.inr ⟨k1, by rw [f.1 22 (by simp)]; exact k2, fun w => stM_fr f (by simp) (by simp) (k3 w)⟩
/-- the class's side -/
theorem caX_fY {is as ls : List Nat} {S S' : rr_T} (f : frY is as ls S S') (h0 : ∀ n ∈ [275, 289, 277, 278], n ∉ is) (h1 : ∀ n ∈ hR, n ∉ is) (h2 : ∀ n ∈ hQ, n ∉ as) (h3 : 20 ∉ as) (h4 : 19 ∉ ls) (h5 : 20 ∉ ls) (h : caX A qs S) : caX A qs S' := by
  rcases h with h | ⟨g1, g2⟩
  · exact Or.inl (by rw [f.1.1 275 (h0 275 (by simp))]; exact h)
  · exact Or.inr ⟨liX_fY f (fun n hn => h0 n (by simp at hn ⊢; omega)) h1 h2 h4 g1, sfX_fY f (fun n hn => h0 n (by simp at hn ⊢; omega)) h3 h5 g2⟩
theorem X_set {S' : rr_T} {is as : List Nat} (h : yI A qs ps Z S) (f : frX is as S S') (h1 : ∀ n ∈ [97, 129], n ∉ is) (hV : okV A') (hQ : ∀ q ∈ qs, okQ A' q) (hS : shX S' A') (hc : chX S S' (A' = A)) : yI A' qs ps Z S' := by
  obtain ⟨⟨g1, g2, g3, g4, g5, g6⟩, g7, g8, g9⟩ := h
  have r := rsX_fr (ls := []) (frY_x f) (h1 97 (by simp)) g4
  have t := tpX_fr (ls := []) (frY_x f) (h1 129 (by simp)) g7
  rcases hc with ⟨e1, e2⟩ | ⟨e1, e2⟩
  · subst e1 e2
    exact ⟨⟨hV, hQ, hS, r, g5, g6⟩, t, g8, g9⟩
  · exact ⟨⟨hV, hQ, hS, r, capX_x f g5, Or.inl e1⟩, t, g8, Or.inl e2⟩
theorem sfX_pre {l : List Ru} (h : sfX A qs S) : sfX A (qs ++ l) S := by
  intro h4
  obtain ⟨j, j1, j2, j3⟩ := h h4
  exact ⟨j, by rw [List.length_append]; omega, j2, by rw [List.take_append_of_le_length j1]; exact j3⟩
theorem X_rule {Z' S' : rr_T} {l : List Ru} (h : yI A qs ps Z S) (f : frX [97] [] S S') (hr : rsX Z' S' (qs ++ l)) (hQ : ∀ q ∈ qs ++ l, okQ A q) (ht : tpX Z' S' ps) : yI A (qs ++ l) ps Z' S' := by
  obtain ⟨⟨g1, g2, g3, g4, g5, g6⟩, g7, g8, g9⟩ := h
  refine ⟨⟨g1, hQ, shX_fr f (by simp) (by simp) g3, hr, capX_x f g5, ?_⟩, ht, g8, enI_fY (ls := []) (frY_x f) (by simp) (by simp) (by simp) g9⟩
  have g6' : caX A qs S' := caX_fY (ls := []) (frY_x f) (by simp) (by simp) (by simp) (by simp) (by simp) (by simp) g6
  rcases g6' with w | ⟨w1, w2⟩
  · exact Or.inl w
  · exact Or.inr ⟨w1, sfX_pre w2⟩
theorem X_clear {S' : rr_T} (h : yI A qs ps Z S) (f : frY [97, 277, 278] [20] [20] S S') (hr : rsX Z S' []) (hc : caX A [] S') (hp : capX S') : yI A [] ps Z S' := by
  obtain ⟨⟨g1, g2, g3, g4, g5, g6⟩, g7, g8, g9⟩ := h
  exact ⟨⟨g1, fun q hq => (by cases hq), shX_fY f (by simp) (by simp) g3, hr, hp, hc⟩, tpX_fr f (by simp) g7, g8, enI_fY f (by simp) (by simp) (by simp) g9⟩
theorem X_put {S' : rr_T} (h : yI A qs ps Z S) (f : frX [8] [33] S S') : yI A qs ps Z S' := by
  obtain ⟨⟨g1, g2, g3, g4, g5, g6⟩, g7, g8, g9⟩ := h
  exact ⟨⟨g1, g2, shX_fr f (by simp) (by simp) g3, rsX_fr (ls := []) (frY_x f) (by simp) g4, capX_x f g5, caX_fY (ls := []) (frY_x f) (by simp) (by simp) (by simp) (by simp) (by simp) (by simp) g6⟩, tpX_fr (ls := []) (frY_x f) (by simp) g7, g8, enI_fY (ls := []) (frY_x f) (by simp) (by simp) (by simp) g9⟩
theorem X_step {Z' S' : rr_T} (h : yI A qs ps Z S) (f : frX [129, 408] [] S S') (ht : tpX Z' S' ps') (hG : okG ps') (hr : rsX Z' S' qs) (hc : (S' = S ∧ ps' = ps) ∨ S'.1 408 = 0) : yI A qs ps' Z' S' := by
  obtain ⟨⟨g1, g2, g3, g4, g5, g6⟩, g7, g8, g9⟩ := h
  refine ⟨⟨g1, g2, shX_fr f (by simp) (by simp) g3, hr, capX_x f g5, caX_fY (ls := []) (frY_x f) (by simp) (by simp) (by simp) (by simp) (by simp) (by simp) g6⟩, ht, hG, ?_⟩
  rcases hc with ⟨e1, e2⟩ | e
  · subst e1 e2
    exact g9
  · exact Or.inl e
/-- the relation -/
def lzR (k : Nat) (Z S : rr_T) (u v : Nat) (M : rr_T) : Prop := ∃ A qs ps tw, yI A qs ps Z S ∧ twX S tw ∧ plX A qs ps M ∧ twM M tw ∧ u ≤ phU S + min k 512 ∧ v ≤ phV S + 5 * min k 512
theorem ph_x {is as : List Nat} {S S' : rr_T} (f : frX is as S S') : phU S' = phU S ∧ phV S' = phV S := by
  unfold phU phV
  rw [f.2]
  exact ⟨rfl, rfl⟩
def A0 : Sh := (0, 0, 3, fun _ => 0, fun _ _ => 0, fun _ _ => false, fun _ => 0)
theorem A0_ok : okV A0 := ⟨⟨by decide, by decide, by decide, by decide, fun _ _ => Nat.zero_le _, fun k f hk => absurd hk (Nat.not_lt_zero _), fun i hi => absurd hi (Nat.not_lt_zero _)⟩, fun k hk => absurd hk (Nat.not_lt_zero _), fun k t hk => absurd hk (Nat.not_lt_zero _)⟩
theorem lzR_0 : lzR 0 xP0 xS0 0 0 mS0 := by
  refine ⟨A0, [], [], [], ⟨⟨A0_ok, fun q hq => (by cases hq), ⟨rfl, rfl, rfl, fun k hk => absurd hk (Nat.not_lt_zero _), fun k f hk => absurd hk (Nat.not_lt_zero _), fun k hk => absurd hk (Nat.not_lt_zero _), fun i hi => absurd hi (Nat.not_lt_zero _)⟩, ⟨rfl, Nat.zero_le _, Nat.zero_le _, Nat.zero_le _, fun i hi => absurd hi (Nat.not_lt_zero _)⟩, ⟨by decide, by decide, by decide, by decide, ⟨0, by decide, rfl⟩, ⟨0, by decide, rfl, rfl, rfl, rfl, rfl⟩⟩, Or.inl rfl⟩, ⟨rfl, Nat.zero_le _, Nat.zero_le _, Nat.zero_le _, fun i hi => absurd hi (Nat.not_lt_zero _)⟩, ⟨Nat.zero_le _, fun p hp => (by cases hp)⟩, Or.inl rfl⟩, ⟨rfl, Nat.zero_le _, fun i hi => absurd hi (Nat.not_lt_zero _)⟩, ⟨⟨A0_ok, fun q hq => (by cases hq), ⟨rfl, rfl, rfl, fun k hk => absurd hk (Nat.not_lt_zero _), fun k f hk => absurd hk (Nat.not_lt_zero _), fun k hk => absurd hk (Nat.not_lt_zero _), fun i hi => absurd hi (Nat.not_lt_zero _)⟩, ⟨rfl, Nat.zero_le _, fun i hi => absurd hi (Nat.not_lt_zero _)⟩, Or.inl rfl⟩, ⟨rfl, Nat.zero_le _, fun i hi => absurd hi (Nat.not_lt_zero _)⟩, ⟨Nat.zero_le _, fun p hp => (by cases hp)⟩, Or.inl rfl⟩, ⟨rfl, Nat.zero_le _, fun i hi => absurd hi (Nat.not_lt_zero _)⟩, Nat.zero_le _, Nat.zero_le _⟩
theorem lzR_room {k u v : Nat} (h : lzR k Z S u v M) : u ≤ 599929 ∧ v ≤ 7101406 ∧ lzR (k + 1) Z S u v M := by
  obtain ⟨A, qs, ps, tw, h1, h2, h3, h4, h5, h6⟩ := h
  obtain ⟨c1, c2, c3, c4, ⟨a, ha, ea⟩, b, hb, eb, -⟩ := h1.1.2.2.2.2.1
  have hpa : 2 ^ a ≤ 2 ^ 8 := Nat.pow_le_pow_right (by decide) ha
  have hpb : 2 ^ b ≤ 2 ^ 8 := Nat.pow_le_pow_right (by decide) hb
  have hu : phU S ≤ 48192 := by unfold phU; omega
  have hv : phV S ≤ 129152 := by unfold phV; omega
  exact ⟨by omega, by omega, A, qs, ps, tw, h1, h2, h3, h4, by omega, by omega⟩
/-- a call that asks for rows -/
theorem R_ask {k u v u' v' : Nat} {S' M' : rr_T} (hk : k < 512) (h1 : yI A qs ps Z S) (h2 : twX S tw) (h3 : plX A qs ps M) (h4 : twM M tw) (h5 : u ≤ phU S + min k 512) (h6 : v ≤ phV S + 5 * min k 512) (hx : xE A qs S u v S' u' v') (hm : frE A qs M M') : lzR (k + 1) Z S' u' v' M' := by
  have hp := hx.2.2.2.2
  unfold pt at hp
  exact ⟨A, qs, ps, tw, yI_x h1 hx, twX_fr hx.1 (by simp) (by simp) h2, M_ask h3 hm, twM_fr hm.1 (by simp) (by simp) h4, by omega, by omega⟩
/-- a call that asks for ends -/
theorem R_ends {k u v u' v' : Nat} {S' M' : rr_T} (hk : k < 512) (h1 : yI A qs ps Z S) (h2 : twX S tw) (h3 : plX A qs ps M) (h4 : twM M tw) (h5 : u ≤ phU S + min k 512) (h6 : v ≤ phV S + 5 * min k 512) (hx : yE A qs ps S u v S' u' v') (hm : plE A qs ps M M') : lzR (k + 1) Z S' u' v' M' := by
  have hp := hx.2.2.2.2.1
  unfold pt at hp
  exact ⟨A, qs, ps, tw, yI_E h1 hx, twX_fr hx.1 (by simp) (by simp) h2, M_ends h3 hm, twM_fr hm.1 (by simp) (by simp) h4, by omega, by omega⟩
/-- a call that changes the shape -/
theorem R_set {k u v : Nat} {S' M' : rr_T} {is as js bs : List Nat} (hk : k < 512) (h1 : yI A qs ps Z S) (h2 : twX S tw) (h3 : plX A qs ps M) (h4 : twM M tw) (h5 : u ≤ phU S + min k 512) (h6 : v ≤ phV S + 5 * min k 512) (f : frX is as S S') (f1 : ∀ n ∈ [8, 97, 129], n ∉ is) (f2 : 33 ∉ as) (hS : shX S' A') (hc : chX S S' (A' = A)) (g : frM js bs M M') (g1 : ∀ n ∈ [8, 13, 19], n ∉ js) (g2 : ∀ n ∈ [6, 7, 8, 9, 10, 11, 12, 13, 14, 15], n ∉ bs) (hM : shM M' A') (hV : okV A') (hQ : ∀ q ∈ qs, okQ A' q) (hd : chg M M' (A' = A)) : lzR (k + 1) Z S' u v M' := by
  obtain ⟨p1, p2⟩ := ph_x f
  exact ⟨A', qs, ps, tw, X_set h1 f (fun n hn => f1 n (by simp at hn ⊢; omega)) hV hQ hS hc, twX_fr (ls := []) (frY_x f) (f1 8 (by simp)) f2 h2, M_set h3 g (fun n hn => g1 n (by simp at hn ⊢; omega)) (fun n hn => g2 n (by simp at hn ⊢; omega)) hV hQ hM hd, twM_fr g (g1 19 (by simp)) (g2 15 (by simp)) h4, by omega, by omega⟩
theorem lzR_ok : lz_R lzR := by
  refine ⟨lzR_0, fun k Z S u v M h => lzR_room h, fun op k Z S u v M a1 a2 a3 a4 a5 hop hk h => ?_⟩
  obtain ⟨A, qs, ps, tw, h1, h2, h3, h4, h5, h6⟩ := h
  have hV := h1.1.1
  have hQ := h1.1.2.1
  have hS := h1.1.2.2.1
  have hr := h1.1.2.2.2.1
  have hM := h3.1.2.2.1
  have hrM := h3.1.2.2.2.1
  rcases (show op = 0 ∨ op = 1 ∨ op = 2 ∨ op = 3 ∨ op = 4 ∨ op = 5 ∨ op = 6 ∨ op = 7 ∨ op = 8 ∨ op = 9 ∨ op = 10 ∨ op = 11 ∨ op = 12 ∨ op = 13 ∨ op = 14 ∨ op = 15 ∨ op = 16 ∨ op = 17 ∨ op = 18 ∨ op = 19 by omega) with rfl | rfl | rfl | rfl | rfl | rfl | rfl | rfl | rfl | rfl | rfl | rfl | rfl | rfl | rfl | rfl | rfl | rfl | rfl | rfl
  · obtain ⟨S', x1, x2, x3, x4⟩ := pX_kind (Z := Z) hV hS a1
    obtain ⟨M', m1, m2, m3, m4, m5⟩ := pM_kind hV hM a1
    exact ⟨_, Z, S', u, v, M', by show (fX10_kind Z S a1).map _ = _; rw [x1]; rfl, m1, R_set hk h1 h2 h3 h4 h5 h6 x2 (by simp) (by simp) x3 x4 m2 (by simp) (by simp) m3 m4 (fun q hq => okQ_kind (hQ q hq)) m5⟩
  · obtain ⟨S', x1, x2, x3, x4⟩ := pX_field (Z := Z) hV hS a1 a2 a3
    obtain ⟨M', m1, m2, m3, m4, m5⟩ := pM_field hV hM a1 a2 a3
    exact ⟨_, Z, S', u, v, M', by show (fX10_field Z S a1 a2 a3).map _ = _; rw [x1]; rfl, m1, R_set hk h1 h2 h3 h4 h5 h6 x2 (by simp) (by simp) x3 x4 m2 (by simp) (by simp) m3 m4 (fun q hq => okQ_field (hQ q hq)) m5⟩
  · obtain ⟨S', x1, x2, x3, x4⟩ := pX_input (Z := Z) hV hS a1
    obtain ⟨M', m1, m2, m3, m4, m5⟩ := pM_input hV hM a1
    exact ⟨_, Z, S', u, v, M', by show (fX10_input Z S a1).map _ = _; rw [x1]; rfl, m1, R_set hk h1 h2 h3 h4 h5 h6 x2 (by simp) (by simp) x3 x4 m2 (by simp) (by simp) m3 m4 (fun q hq => okQ_input (hQ q hq)) m5⟩
  · obtain ⟨S', x1, x2, x3, x4⟩ := pX_bound (Z := Z) hV hS a1
    obtain ⟨M', m1, m2, m3, m4, m5⟩ := pM_bound hV hM a1
    exact ⟨_, Z, S', u, v, M', by show (fX10_bound Z S a1).map _ = _; rw [x1]; rfl, m1, R_set hk h1 h2 h3 h4 h5 h6 x2 (by simp) (by simp) x3 x4 m2 (by simp) (by simp) m3 m4 (fun q hq => okQ_bound (hQ q hq)) m5⟩
  · obtain ⟨Z', S', u', v', x1, x2, x3, x4, x5, x6⟩ := pX_rule (u := u) (v := v) hV hS hr a1 a2 a3 a4
    obtain ⟨M', m1, m2, m3, m4, m5⟩ := pM_rule hV hM hrM hQ a1 a2 a3 a4
    obtain ⟨p1, p2⟩ := ph_x x2
    obtain ⟨l, hl⟩ := spRule_pre (A := A) (qs := qs) a1 a2 a3 a4
    rw [hl] at x3 m3 m4 m5
    exact ⟨_, Z', S', u', v', M', x1, m1, A, qs ++ l, ps, tw, X_rule h1 x2 x3 m4 (x4 ps h1.2.1), twX_fr (ls := []) (frY_x x2) (by simp) (by simp) h2, M_rule h3 m2 m3 m4 m5, twM_fr m2 (by simp) (by simp) h4, by omega, by omega⟩
  · obtain ⟨S', u', v', x1, x2, x3, x4, x5, x6⟩ := pX_clear (u := u) (v := v) hr h1.1.2.2.2.2.1 h1.1.2.2.2.2.2
    obtain ⟨M', m1, m2, m3, m4, m5⟩ := pM_clear hrM
    unfold pt at x6
    exact ⟨_, Z, S', u', v', M', by show (fX10_clear Z S u v).map _ = _; rw [x1]; rfl, m1, A, [], ps, tw, X_clear h1 x2 x3 x4 x5, twX_fr x2 (by simp) (by simp) h2, M_rule h3 (frM_w m2 (by simp) (by simp)) m3 (fun q hq => by cases hq) (Or.inr ⟨m4, m5⟩), twM_fr m2 (by simp) (by simp) h4, by omega, by omega⟩
  · have x1 := pX_about hV hS hr h1.2.1 h2 a1
    have m1 := pM_about hV hM hrM h3.2.1 h4 a1
    exact ⟨_, Z, S, u, v, M, by show (fX10_about Z S a1).map _ = _; rw [x1]; rfl, by show (fM_about M a1).map _ = _; rw [m1]; rfl, A, qs, ps, tw, h1, h2, h3, h4, by omega, by omega⟩
  · obtain ⟨S', u', v', x1, x2⟩ := pX_many (u := u) (v := v) h1.1
    obtain ⟨M', m1, m2⟩ := pM_many h3.1
    exact ⟨_, Z, S', u', v', M', by show (fX10_many Z S u v).map _ = _; rw [x1]; rfl, m1, R_ask hk h1 h2 h3 h4 h5 h6 x2 m2⟩
  · obtain ⟨S', u', v', x1, x2⟩ := pX_kept (u := u) (v := v) h1.1
    obtain ⟨M', m1, m2⟩ := pM_kept h3.1
    exact ⟨_, Z, S', u', v', M', by show (fX10_kept Z S u v).map _ = _; rw [x1]; rfl, m1, R_ask hk h1 h2 h3 h4 h5 h6 x2 m2⟩
  · obtain ⟨S', u', v', x1, x2⟩ := pX_choice (u := u) (v := v) h1.1 a1 a2
    obtain ⟨M', m1, m2⟩ := pM_choice h3.1 a1 a2
    exact ⟨_, Z, S', u', v', M', by show (fX10_choice Z S a1 a2 u v).map _ = _; rw [x1]; rfl, m1, R_ask hk h1 h2 h3 h4 h5 h6 x2 m2⟩
  · obtain ⟨S', u', v', x1, x2⟩ := pX_object (u := u) (v := v) h1.1 a1 a2 a3
    obtain ⟨M', m1, m2⟩ := pM_object h3.1 a1 a2 a3
    exact ⟨_, Z, S', u', v', M', by show (fX10_object Z S a1 a2 a3 u v).map _ = _; rw [x1]; rfl, m1, R_ask hk h1 h2 h3 h4 h5 h6 x2 m2⟩
  · obtain ⟨S', x1, x2, x3⟩ := pX_put (P := Z) h2 a1
    obtain ⟨M', m1, m2, m3⟩ := pM_put h4 a1
    obtain ⟨p1, p2⟩ := ph_x x2
    exact ⟨_, Z, S', u, v, M', by show (fX10_put Z S a1).map _ = _; rw [x1]; rfl, m1, A, qs, ps, _, X_put h1 x2, x3, M_put h3 m2, m3, by omega, by omega⟩
  · obtain ⟨S', x1, x2, x3⟩ := pX_empty (P := Z) h2
    obtain ⟨M', m1, m2, m3⟩ := pM_empty h4
    obtain ⟨p1, p2⟩ := ph_x x2
    exact ⟨_, Z, S', u, v, M', by show (fX10_empty Z S).map (fun q => (q.1, Z, q.2, u, v)) = _; rw [x1]; rfl, m1, A, qs, ps, _, X_put h1 x2, x3, M_put h3 m2, m3, by omega, by omega⟩
  · obtain ⟨S', u', v', x1, x2⟩ := pX_rank (u := u) (v := v) h1.1 h2
    obtain ⟨M', m1, m2⟩ := pM_rank h3.1 h4
    exact ⟨_, Z, S', u', v', M', by show (fX10_rank Z S u v).map _ = _; rw [x1]; rfl, m1, R_ask hk h1 h2 h3 h4 h5 h6 x2 m2⟩
  · obtain ⟨Z', S', u', v', x1, x2, x3, x4, x5, x6, x7⟩ := pX_step (u := u) (v := v) h1.2.1 a1 a2 a3 a4 a5
    obtain ⟨M', m1, m2, m3, m4, m5⟩ := pM_step h3.2.1 h3.2.2.1 a1 a2 a3 a4 a5
    obtain ⟨p1, p2⟩ := ph_x x2
    exact ⟨_, Z', S', u', v', M', x1, m1, A, qs, _, tw, X_step h1 x2 x3 m4 (x4 qs hr) x5, twX_fr (ls := []) (frY_x x2) (by simp) (by simp) h2, M_step h3 m2 m3 m4 m5, twM_fr m2 (by simp) (by simp) h4, by omega, by omega⟩
  · obtain ⟨S', x1, x2, x3, x4⟩ := pX_erase (Z := Z) h1.2.1
    obtain ⟨M', m1, m2, m3, m4⟩ := pM_erase h3.2.1
    obtain ⟨p1, p2⟩ := ph_x x2
    have hG0 : okG [] := ⟨Nat.zero_le _, fun p hp => (by cases hp)⟩
    exact ⟨_, Z, S', u, v, M', by show (fX10_erase Z S).map (fun q => (q.1, Z, q.2, u, v)) = _; rw [x1]; rfl, m1, A, qs, [], tw, X_step h1 x2 x3 hG0 (rsX_fr (ls := []) (frY_x x2) (by simp) hr) (Or.inr x4), twX_fr (ls := []) (frY_x x2) (by simp) (by simp) h2, M_step h3 (frM_w m2 (by simp) (by simp)) m3 hG0 (Or.inr m4), twM_fr m2 (by simp) (by simp) h4, by omega, by omega⟩
  · obtain ⟨S', u', v', x1, x2⟩ := pX_ends (u := u) (v := v) h1
    obtain ⟨M', m1, m2⟩ := pM_ends h3
    exact ⟨_, Z, S', u', v', M', by show (fX10_ends Z S u v).map _ = _; rw [x1]; rfl, m1, R_ends hk h1 h2 h3 h4 h5 h6 x2 m2⟩
  · obtain ⟨S', u', v', x1, x2⟩ := pX_end (u := u) (v := v) h1 a1 a2
    obtain ⟨M', m1, m2⟩ := pM_end h3 a1 a2
    exact ⟨_, Z, S', u', v', M', by show (fX10_end Z S a1 a2 u v).map _ = _; rw [x1]; rfl, m1, R_ends hk h1 h2 h3 h4 h5 h6 x2 m2⟩
  · obtain ⟨S', u', v', x1, x2⟩ := pX_look (u := u) (v := v) h1 a1 a2
    obtain ⟨M', m1, m2⟩ := pM_look h3 a1 a2
    exact ⟨_, Z, S', u', v', M', by show (fX10_look Z S a1 a2 u v).map _ = _; rw [x1]; rfl, m1, R_ends hk h1 h2 h3 h4 h5 h6 x2 m2⟩
  · obtain ⟨S', u', v', x1, x2⟩ := pX_endOf (u := u) (v := v) h1 a1
    obtain ⟨M', m1, m2⟩ := pM_endOf h3 a1
    exact ⟨_, Z, S', u', v', M', by show (fX10_endOf Z S a1 u v).map _ = _; rw [x1]; rfl, m1, R_ends hk h1 h2 h3 h4 h5 h6 x2 m2⟩
end REL
