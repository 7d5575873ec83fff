/-! ===== L3: the class: keepAll, list ===== -/
theorem uX_sizeFor {n : Nat} (hn : n ≤ 4096) : ∀ (m i f : Nat), i + m = 8 → m + 1 ≤ f → (∀ j, j < i → 16 * 2 ^ j < n) → ∃ k, k ≤ 8 ∧ rr_loop f (LX10_sizeFor_5 (nI n)) (nI (16 * 2 ^ i), nI i) = some (nI (16 * 2 ^ k)) ∧ n ≤ 16 * 2 ^ k ∧ ∀ j, j < k → 16 * 2 ^ j < n := by
  intro m
  induction m with
  | zero =>
    intro i f hi hf hj
    obtain ⟨f, rfl⟩ : ∃ g, f = g + 1 := ⟨f - 1, by omega⟩
    obtain rfl : i = 8 := by omega
    refine ⟨8, Nat.le_refl _, ?_, by omega, hj⟩
    rw [loop_s, LX10_sizeFor_5]
    dsimp only
    rw [if_neg (show ¬ (20 : Int32) ≤ nI 8 by decide), if_pos (nI_le (by omega) (by decide))]
  | succ m ih =>
    intro i f hi hf hj
    obtain ⟨f, rfl⟩ : ∃ g, f = g + 1 := ⟨f - 1, by omega⟩
    have hpw : 2 ^ i ≤ 2 ^ 8 := Nat.pow_le_pow_right (by decide) (by omega)
    rw [loop_s, LX10_sizeFor_5]
    dsimp only
    rw [if_neg (show ¬ (20 : Int32) ≤ nI i from nI_ge (b := 20) (by omega) (by decide))]
    by_cases h : n ≤ 16 * 2 ^ i
    · rw [if_pos (nI_le h (by omega))]
      exact ⟨i, by omega, rfl, h, hj⟩
    · rw [if_neg (nI_ge (by omega) (by omega)), rr_l_e, show nI (16 * 2 ^ i) * 2 = nI (16 * 2 ^ i * 2) from pk_mul _ 2, nI_1, show 16 * 2 ^ i * 2 = 16 * 2 ^ (i + 1) by rw [Nat.pow_succ]; omega]
      exact ih (i + 1) f (by omega) (by omega) (fun j hj' => by
        by_cases e : j = i
        · rw [e]; omega
        · exact hj j (by omega))
theorem pX_sizeFor {n : Nat} (hn : n ≤ 4096) : ∃ k, k ≤ 8 ∧ fX10_sizeFor (nI n) = some (nI (16 * 2 ^ k)) ∧ n ≤ 16 * 2 ^ k ∧ ∀ j, j < k → 16 * 2 ^ j < n := uX_sizeFor hn 8 0 FU rfl (by decide) (fun j hj => absurd hj (Nat.not_lt_zero _))
/-- a size that doubles: what is made anew is twice as long -/
theorem size_two {n a k : Nat} (h1 : 16 * 2 ^ a < n) (h2 : n ≤ 16 * 2 ^ k) : 2 * (16 * 2 ^ a) ≤ 16 * 2 ^ k := by
  have hak : a < k := by
    rcases Nat.lt_or_ge a k with z | z
    · exact z
    · have : 2 ^ k ≤ 2 ^ a := Nat.pow_le_pow_right (by decide) z
      omega
  have : 2 ^ (a + 1) ≤ 2 ^ k := Nat.pow_le_pow_right (by decide) hak
  rw [Nat.pow_succ] at this
  omega
/-- the lengths of X's rows -/
def capX (S : rr_T) : Prop := 2 ≤ S.2.2.2 19 ∧ S.2.2.2 19 < 20000 ∧ 2 ≤ S.2.2.2 27 ∧ S.2.2.2 27 < 20000 ∧ (∃ i, i ≤ 8 ∧ S.2.2.2 20 = 16 * 2 ^ i) ∧ ∃ j, j ≤ 8 ∧ S.2.2.2 28 = 16 * 2 ^ j ∧ S.2.2.2 29 = 16 * 2 ^ j ∧ S.2.2.2 30 = 16 * 2 ^ j ∧ S.2.2.2 31 = 16 * 2 ^ j ∧ S.2.2.2 32 = 16 * 2 ^ j
theorem capX_x {is as : List Nat} {S S' : rr_T} (f : frX is as S S') (h : capX S) : capX S' := by
  unfold capX
  rw [f.2]
  exact h
/-- X's kept rows are K -/
def kpX (S : rr_T) (K : List Nat) : Prop := S.1 277 = nI K.length ∧ K.length ≤ S.2.2.2 20 ∧ ∀ i, i < K.length → S.2.1 20 i = nI (K.getD i 0)
theorem kpX_fr {is as ls : List Nat} {S S' : rr_T} {K : List Nat} (f : frY is as ls S S') (h1 : 277 ∉ is) (h2 : 20 ∉ as) (h3 : 20 ∉ ls) (h : kpX S K) : kpX S' K := by
  unfold kpX
  rw [f.1.1 277 h1, f.1.2 20 h2, (f.2 20 h3).2]
  exact h
theorem xNw_s (S : rr_T) (a n : Nat) : (xNw S a n).2.2.2 a = n := by show va_up S.2.2.2 a n a = n; simp [va_up]
theorem xNw_n {S : rr_T} {a n m : Nat} (h : m ≠ a) : (xNw S a n).2.2.2 m = S.2.2.2 m ∧ (xNw S a n).2.1 m = S.2.1 m := by
  constructor
  · show va_up S.2.2.2 a n m = _; simp [va_up, h]
  · show va_up S.2.1 a _ m = _; simp [va_up, h]
theorem frY_nw {is as ls : List Nat} {S S' : rr_T} (h : frY is as ls S S') {a n : Nat} (h2 : a ∈ as) (h3 : a ∈ ls) : frY is as ls S (xNw S' a n) := by
  refine ⟨⟨fun k hk => h.1.1 k hk, fun m hm => ?_⟩, fun m hm => ?_⟩
  · rw [(xNw_n (fun e => hm (by rw [e]; exact h2))).2]; exact h.1.2 m hm
  · exact ⟨(h.2 m hm).1, by rw [(xNw_n (fun e => hm (by rw [e]; exact h3))).1]; exact (h.2 m hm).2⟩
theorem range_get {n i : Nat} (h : i < n) : (List.range n).getD i 0 = i := by
  rw [gD_g (by rw [List.length_range]; exact h), List.getElem_range]
section XKEEP
variable {A : Sh} {P : rr_T}
theorem uX_keep64 {n c u v : Nat} (hn : n ≤ 4000) (hc : n ≤ c) (hc2 : c < 2 ^ 20) : ∀ (m i f : Nat) (S : rr_T), i + m = n → m + 1 ≤ f → S.1 289 = nI n → S.2.2.2 20 = c → (∀ j, j < i → S.2.1 20 j = nI j) → ∃ S', rr_loop f LX0_keepAll_64 (nI i, S, u, v) = some (S', u, v) ∧ frX [277] [20] S S' ∧ kpX S' (List.range n) := by
  intro m
  induction m with
  | zero =>
    intro i f S hi hf e289 ec hj
    obtain ⟨f, rfl⟩ : ∃ g, f = g + 1 := ⟨f - 1, by omega⟩
    obtain rfl : i = n := by omega
    refine ⟨pI S 277 (nI i), ?_, frX_pI (frX_r _ _ _) (by simp), by rw [pI_s, List.length_range], by rw [List.length_range]; show i ≤ S.2.2.2 20; omega, fun j h => ?_⟩
    · rw [loop_s, LX0_keepAll_64]
      dsimp only
      rw [e289, if_pos (nI_le (Nat.le_refl _) (by omega)), JX0_keepAll_97]
      dsimp only
      rw [e289, rr_l_e]
    · rw [List.length_range] at h
      rw [range_get h]
      exact hj j h
  | succ m ih =>
    intro i f S hi hf e289 ec hj
    obtain ⟨f, rfl⟩ : ∃ g, f = g + 1 := ⟨f - 1, by omega⟩
    obtain ⟨S', b1, b2, b3⟩ := ih (i + 1) f (pA S 20 (nI i) (nI i)) (by omega) (by omega) e289 ec (fun j h => by
      rw [pA_s, nI_clamp (by omega)]
      by_cases e : j = i
      · rw [e, upd_s]
      · rw [upd_n e]; exact hj j (by omega))
    refine ⟨S', ?_, frX_t (frX_pA (frX_r _ _ _) (by simp)) b2, b3⟩
    rw [loop_s, LX0_keepAll_64]
    dsimp only
    rw [e289, if_neg (nI_ge (by omega) (by omega)), ec, if_neg (nI_ge (by omega) (by omega)), if_pos (inb_nI (by omega) (by omega)), rr_l_e, nI_1]
    exact b1
theorem pX_keep0 {S : rr_T} {u v : Nat} (h : S.1 275 = 0) : ∃ S', fX0_keepAll P S u v = some (S', u, v) ∧ frX [277, 278] [] S S' ∧ S'.1 278 = 0 := by
  refine ⟨pI (pI S 278 0) 277 0, ?_, frX_pI (frX_pI (frX_r _ _ _) (by simp)) (by simp), by rw [pI_n (by decide), pI_s]⟩
  have e : (pI (pI S 278 0) 277 0).1 275 = 0 := h
  rw [fX0_keepAll, rr_l_e, rr_l_e, e, if_pos rfl]
theorem pX_keep1 {S : rr_T} {u v n : Nat} (h : S.1 275 = 1) (e289 : S.1 289 = nI n) (hn : n ≤ 4001) (hc : capX S) : ∃ S' u' v', fX0_keepAll P S u v = some (S', u', v') ∧ frY [277, 278] [20] [20] S S' ∧ S'.1 278 = 0 ∧ (n ≤ 4000 → kpX S' (List.range n)) ∧ capX S' ∧ pt S u v S' u' v' := by
  obtain ⟨a, ha, ec⟩ := hc.2.2.2.2.1
  have hpa : 2 ^ a ≤ 2 ^ 8 := Nat.pow_le_pow_right (by decide) ha
  have hpa1 : 0 < 2 ^ a := Nat.pow_pos (by decide)
  have f2 : frX [277, 278] [] S (pI (pI S 278 0) 277 0) := frX_pI (frX_pI (frX_r _ _ _) (by simp)) (by simp)
  have k275 : (pI (pI S 278 0) 277 0).1 275 = 1 := h
  have k289 : (pI (pI S 278 0) 277 0).1 289 = nI n := e289
  have k20 : (pI (pI S 278 0) 277 0).2.2.2 20 = 16 * 2 ^ a := ec
  have k278 : (pI (pI S 278 0) 277 0).1 278 = 0 := by rw [pI_n (by decide), pI_s]
  have hc2 := capX_x f2 hc
  rw [fX0_keepAll, rr_l_e, rr_l_e]
  generalize pI (pI S 278 0) 277 0 = S2 at f2 k275 k289 k20 k278 hc2 ⊢
  rw [k275, if_neg (show ¬ (1 : Int32) = 0 by decide), k289]
  by_cases h4 : n ≤ 4000
  · rw [if_pos (show nI n ≤ 4000 from nI_le (b := 4000) h4 (by decide)), k20]
    by_cases hle : n ≤ 16 * 2 ^ a
    · rw [if_pos (nI_le hle (by omega)), JX0_keepAll_62]
      obtain ⟨S', b1, b2, b3⟩ := uX_keep64 (u := u) (v := v) h4 hle (by omega) n 0 FU S2 (Nat.zero_add _) (by show _ ≤ 5000; omega) k289 k20 (fun j hj => absurd hj (Nat.not_lt_zero _))
      exact ⟨S', u, v, b1, frY_t (frY_x (frX_w f2 (by simp) (by simp))) (frY_x (frX_w b2 (by simp) (by simp))), by rw [frX_1 b2 (by simp)]; exact k278, fun _ => b3, capX_x b2 hc2, pt_t (pt_x f2) (pt_x b2)⟩
    · obtain ⟨k, k1, k2, k3, k4⟩ := pX_sizeFor (n := n) (by omega)
      have hpk : 2 ^ k ≤ 2 ^ 8 := Nat.pow_le_pow_right (by decide) k1
      have htw := size_two (show 16 * 2 ^ a < n by omega) k3
      rw [if_neg (nI_ge (by omega) (by omega)), k2, Option.bind_some, if_pos (inb_nI (show 16 * 2 ^ k < 100000 by omega) (by decide)), nI_clamp (by omega), rr_l_e, JX0_keepAll_62]
      obtain ⟨S', b1, b2, b3⟩ := uX_keep64 (u := u + 1) (v := v + 16 * 2 ^ k) h4 k3 (by omega) n 0 FU (xNw S2 20 (16 * 2 ^ k)) (Nat.zero_add _) (by show _ ≤ 5000; omega) k289 (xNw_s _ _ _) (fun j hj => absurd hj (Nat.not_lt_zero _))
      have f3 : frY [277, 278] [20] [20] S (xNw S2 20 (16 * 2 ^ k)) := frY_nw (frY_x (frX_w f2 (by simp) (by simp))) (by simp) (by simp)
      have hc3 : capX (xNw S2 20 (16 * 2 ^ k)) := by
        unfold capX
        rw [xNw_s, (xNw_n (by decide)).1, (xNw_n (by decide)).1, (xNw_n (by decide)).1, (xNw_n (by decide)).1, (xNw_n (by decide)).1, (xNw_n (by decide)).1, (xNw_n (by decide)).1]
        exact ⟨hc2.1, hc2.2.1, hc2.2.2.1, hc2.2.2.2.1, ⟨k, k1, rfl⟩, hc2.2.2.2.2.2⟩
      refine ⟨S', u + 1, v + 16 * 2 ^ k, b1, frY_t f3 (frY_x (frX_w b2 (by simp) (by simp))), by rw [frX_1 b2 (by simp)]; exact k278, fun _ => b3, capX_x b2 hc3, pt_t (pt_x f2) (pt_t (S' := xNw S2 20 (16 * 2 ^ k)) (u' := u + 1) (v' := v + 16 * 2 ^ k) ?_ (pt_x b2))⟩
      unfold pt phU phV
      rw [xNw_s, (xNw_n (by decide)).1, (xNw_n (by decide)).1, (xNw_n (by decide)).1, k20]
      exact ⟨by omega, by omega⟩
  · rw [if_neg (show ¬ nI n ≤ 4000 from nI_ge (a := 4000) (by omega) (by omega))]
    exact ⟨S2, u, v, rfl, frY_x (frX_w f2 (by simp) (by simp)), k278, fun z => absurd z h4, hc2, pt_x f2⟩
/-- X's rows, when they are told -/
def liX (A : Sh) (S : rr_T) : Prop := S.1 275 = 1 ∧ rowsX S (allR A) ∧ ∃ r, okR A r.2 r.1 ∧ cuX A S r
theorem keF_nil : ∀ (l : List Rw) (i : Nat), keF A [] i l = (List.range l.length).map (fun j => i + j) := by
  intro l
  induction l with
  | nil => intro i; rfl
  | cons r t ih =>
    intro i
    show (if kpR A [] r = true then [i] else []) ++ keF A [] (i + 1) t = _
    rw [if_pos (show kpR A [] r = true from rfl), ih, List.length_cons, List.range_succ_eq_map, List.map_cons, List.map_map]
    show i :: _ = (i + 0) :: _
    congr 1
    apply List.map_congr_left
    intro a _
    show i + 1 + a = i + (a + 1)
    omega
theorem keF_nil0 (l : List Rw) : keF A [] 0 l = List.range l.length := by
  rw [keF_nil]
  have : (fun j => 0 + j) = (id : Nat → Nat) := funext (fun j => by simp)
  rw [this, List.map_id]
/-- X's kept rows hold to the first rules -/
def sfX (A : Sh) (qs : List Ru) (S : rr_T) : Prop := (allR A).length ≤ 4000 → ∃ j, j ≤ qs.length ∧ S.1 278 = nI j ∧ kpX S (keF A (qs.take j) 0 (allR A))
/-- X's caches -/
def caX (A : Sh) (qs : List Ru) (S : rr_T) : Prop := S.1 275 = 0 ∨ (liX A S ∧ sfX A qs S)
abbrev lR : List Nat := [275, 277, 278, 289, 167, 168, 169, 170]
abbrev lQ : List Nat := [20, 11, 12, 13, 14, 15, 16]
theorem pX_list {S : rr_T} {qs : List Ru} {u v : Nat} (hA : okA A) (hS : shX S A) (hcp : capX S) (hc : caX A qs S) : ∃ S' u' v', fX0_list P S u v = some ((if (allR A).length ≤ 4000 then 1 else 0), S', u', v') ∧ frY lR lQ [19, 20] S S' ∧ liX A S' ∧ sfX A qs S' ∧ capX S' ∧ pt S u v S' u' v' ∧ (S.1 275 = 1 → S' = S ∧ u' = u ∧ v' = v) := by
  have hL := allR_len A
  have fin87 : ∀ (S : rr_T) (u v : Nat), S.1 289 = nI (allR A).length → JX0_list_87 (S, u, v) = some ((if (allR A).length ≤ 4000 then 1 else 0), S, u, v) := by
    intro S u v e
    rw [JX0_list_87]
    dsimp only
    rw [e]
    by_cases h : (allR A).length ≤ 4000
    · rw [if_neg (show ¬ (4000 : Int32) < nI (allR A).length from nI_nlt (a := 4000) h (by decide)), if_pos h]
    · rw [if_pos (show (4000 : Int32) < nI (allR A).length from nI_lt (a := 4000) (by omega) (by omega)), if_neg h]
  rcases hc with hc | ⟨h1, h2⟩
  · rw [fX0_list, if_pos hc, fX5_drop_18, rr_l_e, Option.bind_some]
    have f1 : frX lR lQ S (pI S 289 0) := frX_pI (frX_r _ _ _) (by simp)
    obtain ⟨S2, b1, b2, b3⟩ := pX_begin (P := P) (a := fun _ => 0) hA (shX_fr f1 (by simp) (by simp) hS)
    have f2 : frX lR lQ S S2 := frX_t f1 (frX_w b2 (by simp) (by simp))
    have hcp2 := capX_x f2 hcp
    have hrw2 : rowsX S2 [] := ⟨by rw [frX_1 b2 (by simp), pI_s]; rfl, fun i hi => absurd hi (Nat.not_lt_zero _), Nat.zero_le _, hcp2.1, hcp2.2.1⟩
    obtain ⟨S3, u3, v3, s3, c1, c2, c3, c4, c5, c6⟩ := pX_list25 (P := P) hA 4001 [] (0, fun _ => 0) S2 FU u v rfl (by decide) (fun p hp => absurd hp (Nat.not_lt_zero _)) (shX_fr f2 (by simp) (by simp) hS) b3 hrw2
    rw [List.nil_append] at c5
    have c5 : rowsX S3 (allR A) := c5
    have c1' : rr_loop FU (LX0_list_25 P) (1, 0, S2, u, v) = JX0_list_78 P (S3, u3, v3) := c1
    have hcp3 : capX S3 := by
      obtain ⟨d1, d2, d3, d4, d5, d6⟩ := hcp2
      unfold capX
      rw [(c2.2 27 (by simp)).2, (c2.2 20 (by simp)).2, (c2.2 28 (by simp)).2, (c2.2 29 (by simp)).2, (c2.2 30 (by simp)).2, (c2.2 31 (by simp)).2, (c2.2 32 (by simp)).2]
      exact ⟨c5.2.2.2.1, c5.2.2.2.2, d3, d4, d5, d6⟩
    obtain ⟨S5, u5, v5, k1, k2, k3, k4, k5, k6⟩ := pX_keep1 (P := P) (S := pI S3 275 1) (u := u3) (v := v3) (n := (allR A).length) (pI_s _ _ _) c5.1 hL hcp3
    have f35 : frY lR lQ [19, 20] (pI S3 275 1) S5 := frY_w k2 (by simp) (by simp) (by simp)
    have f05 : frY lR lQ [19, 20] S S5 := frY_t (frY_x f2) (frY_t (frY_w c2 (by simp) (by simp) (by simp)) (frY_t (frY_pI (frY_r _ _ _ _) (by simp)) f35))
    have hrw5 : rowsX S5 (allR A) := rowsX_fr k2 (by simp) (by simp) (show rowsX (pI S3 275 1) (allR A) from c5)
    refine ⟨S5, u5, v5, ?_, f05, ⟨?_, hrw5, s3, c3, ?_⟩, fun h4 => ⟨0, Nat.zero_le _, k3, ?_⟩, k5, pt_t (pt_x f2) (pt_t c6 (pt_t ?_ k6)), fun z => by rw [hc] at z; cases z⟩
    · rw [b1, Option.bind_some, c1', JX0_list_78]
      dsimp only
      rw [rr_l_e, k1, Option.bind_some]
      exact fin87 S5 u5 v5 hrw5.1
    · rw [k2.1.1 275 (by simp), pI_s]
    · obtain ⟨e1, e2, e3, e4, e5, e6, e7, e8⟩ := c4
      unfold cuX
      rw [k2.1.1 167 (by simp), k2.1.1 168 (by simp), k2.1.1 169 (by simp), k2.1.1 170 (by simp), k2.1.2 11 (by simp), k2.1.2 12 (by simp), k2.1.2 13 (by simp), k2.1.2 14 (by simp), k2.1.2 15 (by simp), k2.1.2 16 (by simp)]
      exact ⟨e1, e2, e3, e4, e5, e6, e7, e8⟩
    · rw [List.take_zero, keF_nil0]; exact k4 h4
    · exact pt_x (is := [275]) (as := []) (frX_pI (frX_r _ _ _) (by simp))
  · rw [fX0_list, if_neg (by rw [h1.1]; decide), fin87 S u v h1.2.1.1]
    exact ⟨S, u, v, rfl, frY_r _ _ _ _, h1, h2, hcp, pt_r _ _ _, fun _ => ⟨rfl, rfl, rfl⟩⟩
end XKEEP
