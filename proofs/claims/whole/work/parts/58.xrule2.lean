/-! ===== L3: the class's rules of sorts 2, 0, 3, 4, 5, 6; holdsIn; holdFrom ===== -/
theorem b5_s : ∀ a, a < 6 → ∀ b, b < 6 → (bt a &&& bt b = 0 ↔ ¬ (0 < a ∧ a = b)) := by decide
theorem b5_u (a : Nat) (ha : a < 6) (b : Nat) (hb : b < 6) (w : Nat) (hw : w < 32) : (bt a ||| bt b) &&& w = 0 ↔ ¬ ((0 < a ∧ w.testBit (a - 1) = true) ∨ (0 < b ∧ w.testBit (b - 1) = true)) := by
  obtain ⟨t1, t1'⟩ := bt_t a ha
  obtain ⟨t2, t2'⟩ := bt_t b hb
  rw [b5_a _ (or_32 t1 t2) w hw]
  constructor
  · rintro h (⟨p1, p2⟩ | ⟨p1, p2⟩)
    · exact h (a - 1) (by omega) ⟨by rw [Nat.testBit_or, t1' _ (by omega), decide_eq_true (show a = a - 1 + 1 by omega)]; rfl, p2⟩
    · exact h (b - 1) (by omega) ⟨by rw [Nat.testBit_or, t2' _ (by omega), decide_eq_true (show b = b - 1 + 1 by omega), Bool.or_true], p2⟩
  · rintro h y hy ⟨q1, q2⟩
    rw [Nat.testBit_or, t1' y hy, t2' y hy] at q1
    simp only [Bool.or_eq_true, decide_eq_true_eq] at q1
    rcases q1 with e | e
    · exact h (Or.inl ⟨by omega, by rw [e]; exact q2⟩)
    · exact h (Or.inr ⟨by omega, by rw [e]; exact q2⟩)
section XRULE2
variable {A : Sh} {P S : rr_T} {H : Hp} {q : Ru} {i : Nat}
theorem cnt_gv (hq : okQ A q) (h2 : q.1 = 2) (y m : Nat) : cnt A q H y (m + 1) = cnt A q H y m + (if suc A q H m = true then ((if H.2.1 m q.2.2.1 = y + 1 then 1 else 0) + (if gv q H m = y + 1 then 1 else 0)) else 0) := by
  show cnt A q H y m + (if suc A q H m = true then ((if H.2.1 m q.2.2.1 = y + 1 then 1 else 0) + (if 0 < q.2.2.2 ∧ ¬ q.2.2.2 = q.2.2.1 + 1 ∧ H.2.1 m (q.2.2.2 - 1) = y + 1 then 1 else 0)) else 0) = _
  congr 1
  by_cases hs : suc A q H m = true
  · rw [if_pos hs, if_pos hs]
    congr 1
    unfold gv
    by_cases e : gn q = 0
    · rw [if_pos e, if_neg (show ¬ 0 = y + 1 by omega), if_neg]
      rintro ⟨w1, w2, -⟩
      have : gn q = q.2.2.2 := if_neg (fun w => w2 w.2)
      omega
    · rw [if_neg e]
      obtain ⟨g1, g2, -⟩ := gn_ok hq (Or.inr h2) e
      rw [g1] at e ⊢
      by_cases z : H.2.1 m (q.2.2.2 - 1) = y + 1
      · rw [if_pos ⟨by omega, g2, z⟩, if_pos z]
      · rw [if_neg (fun w => z w.2.2), if_neg z]
  · rw [if_neg hs, if_neg hs]
theorem cnt_mono {y : Nat} : ∀ d m, cnt A q H y m ≤ cnt A q H y (m + d) := by
  intro d
  induction d with
  | zero => intro m; exact Nat.le_refl _
  | succ d ih =>
    intro m
    have := ih m
    show _ ≤ cnt A q H y (m + d + 1)
    conv => rhs; unfold cnt
    omega
theorem uX_sh4 (hV : okV A) (hS : shX S A) (hH : okH A H) (hp : hpX S A H) (hr : rlX P i q) (hq : okQ A q) (h2 : q.1 = 2) : ∀ (m x f w : Nat), x + m = H.1.length → m + 1 ≤ f → w < 32 → (∀ y, y < 5 → cnt A q H y x < 2 ∧ (w.testBit y = true ↔ cnt A q H y x = 1)) → ((∀ y, y < H.1.length → cnt A q H y H.1.length < 2) → rr_loop f (LX6_sharesNothing_4 P S (34 + i)) (nI w, nI x) = some 1) ∧ ((¬ ∀ y, y < H.1.length → cnt A q H y H.1.length < 2) → rr_loop f (LX6_sharesNothing_4 P S (34 + i)) (nI w, nI x) = some 0) := by
  have h5 := hH.1
  obtain ⟨k1, k2, k3⟩ := okQ_k hq (by omega)
  obtain ⟨r1, r2, r3⟩ := hr.2 (by omega)
  have r3 := r3 (by omega)
  intro m
  induction m with
  | zero =>
    intro x f w hx hf hw hc
    obtain ⟨f, rfl⟩ : ∃ g, f = g + 1 := ⟨f - 1, by omega⟩
    obtain rfl : x = H.1.length := by omega
    refine ⟨fun _ => ?_, fun z => absurd (fun y hy => (hc y (by omega)).1) z⟩
    rw [loop_s, LX6_sharesNothing_4]
    dsimp only
    rw [hp.1, if_pos (nI_le (Nat.le_refl _) (by omega))]
  | succ m ih =>
    intro x f w hx hf hw hc
    obtain ⟨f, rfl⟩ : ∃ g, f = g + 1 := ⟨f - 1, by omega⟩
    have hxl : x < H.1.length := by omega
    have bad : ∀ y, y < H.1.length → 2 ≤ cnt A q H y (x + 1) → ¬ ∀ y, y < H.1.length → cnt A q H y H.1.length < 2 := by
      intro y hy h w
      have := cnt_mono (A := A) (q := q) (H := H) (y := y) (H.1.length - (x + 1)) (x + 1)
      rw [show x + 1 + (H.1.length - (x + 1)) = H.1.length by omega] at this
      have := w y hy
      omega
    rw [loop_s, LX6_sharesNothing_4]
    dsimp only
    rw [hp.1, if_neg (nI_ge (by omega) (by omega)), r1, pX_isU hV.1 hS hH hp hxl k1, Option.bind_some]
    by_cases hs : suc A q H x = true
    · have hs' : shU A (H.1.getD x 0) q.2.1 = true := hs
      obtain ⟨b1, b2⟩ := pX_bit (P := P) hV hH hp hxl hs k2 k3
      obtain ⟨c1, c2⟩ := pX_bitG (P := P) hV hH hp hq (Or.inr h2) hxl hs
      obtain ⟨-, tl, -⟩ := pX_tell (P := P) hV hH hp hxl hs k2
      have tl := tl k3
      have gl : gv q H x ≤ H.1.length := by
        unfold gv
        by_cases e : gn q = 0
        · rw [if_pos e]; omega
        · rw [if_neg e]
          obtain ⟨g1, g2, g3, g4⟩ := gn_ok hq (Or.inr h2) e
          rw [g1]
          obtain ⟨-, u2, -⟩ := pX_tell (P := P) hV hH hp hxl hs g3
          exact u2 g4
      obtain ⟨t1, t1'⟩ := bt_t _ b2
      obtain ⟨t2, t2'⟩ := bt_t _ c2
      have cnx : ∀ y, cnt A q H y (x + 1) = cnt A q H y x + ((if H.2.1 x q.2.2.1 = y + 1 then 1 else 0) + (if gv q H x = y + 1 then 1 else 0)) := fun y => by rw [cnt_gv hq h2, if_pos hs]
      generalize H.2.1 x q.2.2.1 = a at b1 b2 tl t1 t1' cnx
      generalize gv q H x = b at c1 c2 gl t2 t2' cnx
      have or1 := or_32 t1 t2
      have le1 : bt a &&& bt b ≤ bt a := Nat.and_le_left
      have le2 : (bt a ||| bt b) &&& w ≤ w := Nat.and_le_right
      rw [if_pos hs', if_neg (show ¬ (1 : Int32) = 0 by decide), r2, b1, Option.bind_some, r3, c1, Option.bind_some, nI_andN (by omega) (by omega), nI_orN (by omega) (by omega), nI_andN (by omega) (by omega)]
      by_cases z1 : bt a &&& bt b = 0
      · rw [if_pos (show nI (bt a &&& bt b) = 0 by rw [z1]; rfl)]
        have z1' := (b5_s a b2 b c2).mp z1
        by_cases z2 : (bt a ||| bt b) &&& w = 0
        · rw [if_pos (show nI ((bt a ||| bt b) &&& w) = 0 by rw [z2]; rfl), rr_l_e, nI_orN (by omega) (by omega), nI_1]
          have z2' := (b5_u a b2 b c2 w hw).mp z2
          refine ih (x + 1) f _ (by omega) (by omega) (or_32 hw or1) (fun y hy => ?_)
          obtain ⟨d1, d2⟩ := hc y hy
          rw [cnx y, Nat.testBit_or, Nat.testBit_or, t1' y hy, t2' y hy]
          by_cases ea : a = y + 1
          · have nb : ¬ b = y + 1 := fun w => z1' ⟨by omega, by omega⟩
            have nw : ¬ w.testBit y = true := fun q => z2' (Or.inl ⟨by omega, by rw [ea]; exact q⟩)
            have c0 : cnt A q H y x = 0 := by
              have : ¬ cnt A q H y x = 1 := fun q => nw (d2.mpr q)
              omega
            rw [if_pos ea, if_neg nb, c0]
            exact ⟨by omega, by simp [ea]⟩
          · by_cases eb : b = y + 1
            · have nw : ¬ w.testBit y = true := fun q => z2' (Or.inr ⟨by omega, by rw [eb]; exact q⟩)
              have c0 : cnt A q H y x = 0 := by
                have : ¬ cnt A q H y x = 1 := fun q => nw (d2.mpr q)
                omega
              rw [if_neg ea, if_pos eb, c0]
              exact ⟨by omega, by simp [eb]⟩
            · rw [if_neg ea, if_neg eb, Nat.add_zero]
              refine ⟨d1, ?_⟩
              rw [decide_eq_false ea, decide_eq_false eb, Bool.or_false, Bool.or_false]
              exact d2
        · rw [if_neg (nI_ne0 (by omega) (by omega))]
          have z2' : (0 < a ∧ w.testBit (a - 1) = true) ∨ (0 < b ∧ w.testBit (b - 1) = true) := Decidable.byContradiction (fun q => z2 ((b5_u a b2 b c2 w hw).mpr q))
          have hb : ¬ ∀ y, y < H.1.length → cnt A q H y H.1.length < 2 := by
            rcases z2' with ⟨p1, p2⟩ | ⟨p1, p2⟩
            · refine bad (a - 1) (by omega) ?_
              rw [cnx, ((hc (a - 1) (by omega)).2).mp p2, if_pos (show a = a - 1 + 1 by omega)]
              omega
            · refine bad (b - 1) (by omega) ?_
              rw [cnx, ((hc (b - 1) (by omega)).2).mp p2, if_pos (show b = b - 1 + 1 by omega)]
              omega
          exact ⟨fun w => absurd w hb, fun _ => rfl⟩
      · rw [if_neg (nI_ne0 (by omega) (by omega))]
        have z1' : 0 < a ∧ a = b := Decidable.byContradiction (fun q => z1 ((b5_s a b2 b c2).mpr q))
        have hb : ¬ ∀ y, y < H.1.length → cnt A q H y H.1.length < 2 := by
          refine bad (a - 1) (by omega) ?_
          rw [cnx, if_pos (show a = a - 1 + 1 by omega), if_pos (show b = a - 1 + 1 by omega)]
          omega
        exact ⟨fun w => absurd w hb, fun _ => rfl⟩
    · have hs' : ¬ shU A (H.1.getD x 0) q.2.1 = true := hs
      rw [if_neg hs', if_pos rfl, nI_1]
      exact ih (x + 1) f w (by omega) (by omega) hw (fun y hy => by rw [cnt_gv hq h2, if_neg hs]; exact hc y hy)
theorem pX_shares (hV : okV A) (hS : shX S A) (hH : okH A H) (hp : hpX S A H) (hr : rlX P i q) (hq : okQ A q) (h2 : q.1 = 2) (hP : i < P.2.2.2 34) (hi : i < 6) : ((∀ y, y < H.1.length → cnt A q H y H.1.length < 2) → fX6_sharesNothing P S (34 + i) = some 1) ∧ ((¬ ∀ y, y < H.1.length → cnt A q H y H.1.length < 2) → fX6_sharesNothing P S (34 + i) = some 0) := by
  have h5 := hH.1
  rw [fX6_sharesNothing, if_pos ⟨by omega, by omega, by omega⟩]
  exact uX_sh4 hV hS hH hp hr hq h2 H.1.length 0 FU 0 (Nat.zero_add _) (by show _ ≤ 5000; omega) (by decide) (fun y _ => ⟨by show 0 < 2; omega, by simp [cnt]⟩)
theorem pX_holdsAt (hV : okV A) (hS : shX S A) (hH : okH A H) (hp : hpX S A H) (hP : i < P.2.2.2 34) (hi : i < 6) (hr : rlX P i q) (hq : okQ A q) (h6 : ¬ q.1 = 6) (h1 : ¬ q.1 = 1) (h2 : ¬ q.1 = 2) {o : Nat} (ho : o < H.1.length) (hs : suc A q H o = true) : fX6_holdsAt P S (34 + i) (nI o) = some (if hAt A q H o = true then 1 else 0) := by
  have hA := hV.1
  have h5 := hH.1
  obtain ⟨hk1, hk2, hk3⟩ := okQ_k hq h6
  obtain ⟨t1, t3, -⟩ := pX_tell (P := P) hV hH hp ho hs hk2
  have t3 := t3 hk3
  obtain ⟨r1, r2, r3⟩ := hr.2 h6
  have hq6 : q.1 ≤ 5 := by
    rcases hq with hq | ⟨-, -, -, hq⟩
    · exact absurd hq h6
    · omega
  have egn : gn q = q.2.2.2 := if_neg (fun w => by rcases w.1 with z | z; exact h1 z; exact h2 z)
  rw [fX6_holdsAt, if_pos ⟨by omega, by omega, by omega⟩, r2, t1, Option.bind_some, hr.1, r1, show mv (shT A q.2.1 q.2.2.1) (H.2.1 o q.2.2.1) = nI (H.2.1 o q.2.2.1) - 1 from if_pos hk3]
  unfold hAt
  by_cases e0 : q.1 = 0
  · rw [if_pos (show nI q.1 = 0 by rw [e0]; rfl), if_pos e0]
    by_cases z : H.2.1 o q.2.2.1 = 0
    · rw [if_pos ((m1_iff (by omega)).mpr z), z]; rfl
    · rw [if_neg (fun w => z ((m1_iff (by omega)).mp w)), decide_eq_false z]; rfl
  · rw [if_neg (nI_ne0 (by omega) (by omega)), if_neg e0, if_neg (show ¬ nI q.1 = 1 from fun w => h1 ((nI_eq (b := 1) (by omega) (by decide)).mp w)), if_neg (show ¬ nI q.1 = 2 from fun w => h2 ((nI_eq (b := 2) (by omega) (by decide)).mp w))]
    have r3 := r3 e0
    rw [egn] at r3
    rw [r3]
    by_cases e3 : q.1 = 3
    · rw [if_pos (show nI q.1 = 3 by rw [e3]; rfl), if_pos e3]
      have hg : 0 < q.2.2.2 ∧ q.2.2.2 - 1 < shC A q.2.1 ∧ shT A q.2.1 (q.2.2.2 - 1) < 4 := by
        rcases hq with hq | ⟨-, -, -, hq⟩
        · exact absurd hq h6
        · rcases hq with hq | ⟨hq, -⟩ | hq | ⟨hq, -⟩
          · exact absurd hq e0
          · omega
          · exact hq.2
          · omega
      by_cases z : H.2.1 o q.2.2.1 = 0
      · rw [if_pos ((m1_iff (by omega)).mpr z), z]; rfl
      · obtain ⟨y, hy⟩ : ∃ y, H.2.1 o q.2.2.1 = y + 1 := ⟨H.2.1 o q.2.2.1 - 1, by omega⟩
        obtain ⟨g, hgg⟩ : ∃ g, q.2.2.2 = g + 1 := ⟨q.2.2.2 - 1, by omega⟩
        rw [if_neg (fun w => z ((m1_iff (by omega)).mp w)), decide_eq_false z, Bool.false_or, hy, nI_pred, show y + 1 - 1 = y from rfl, pX_isU hA hS hH hp (by omega) hk1, Option.bind_some]
        by_cases hsy : suc A q H y = true
        · have hsy' : shU A (H.1.getD y 0) q.2.1 = true := hsy
          rw [hgg, show g + 1 - 1 = g from rfl] at hg
          obtain ⟨u1, u3, -⟩ := pX_tell (P := P) hV hH hp (o := y) (by omega) hsy hg.2.1
          have u3 := u3 hg.2.2
          rw [if_pos hsy', if_neg (show ¬ (1 : Int32) = 0 by decide), hgg, nI_pred, u1, Option.bind_some, show mv (shT A q.2.1 g) (H.2.1 y g) = nI (H.2.1 y g) - 1 from if_pos hg.2.2, show g + 1 - 1 = g from rfl, hsy, Bool.true_and]
          by_cases w : H.2.1 y g = o + 1
          · rw [if_pos ((m1_eqN (by omega) (by omega)).mpr w), decide_eq_true w]; rfl
          · rw [if_neg (fun z => w ((m1_eqN (by omega) (by omega)).mp z)), decide_eq_false w]; rfl
        · have hsy' : ¬ shU A (H.1.getD y 0) q.2.1 = true := hsy
          rw [if_neg hsy', if_pos rfl, Bool.eq_false_iff.mpr hsy]; rfl
    · rw [if_neg (show ¬ nI q.1 = 3 from fun w => e3 ((nI_eq (b := 3) (by omega) (by decide)).mp w)), if_neg e3]
      have hg : 0 < q.2.2.2 ∧ q.2.2.2 - 1 < shC A q.2.1 ∧ ¬ shT A q.2.1 (q.2.2.2 - 1) < 4 := by
        rcases hq with hq | ⟨-, -, -, hq⟩
        · exact absurd hq h6
        · rcases hq with hq | ⟨hq, -⟩ | hq | ⟨-, hq⟩
          · exact absurd hq e0
          · omega
          · omega
          · exact hq
      obtain ⟨g, hgg⟩ : ∃ g, q.2.2.2 = g + 1 := ⟨q.2.2.2 - 1, by omega⟩
      rw [hgg, show g + 1 - 1 = g from rfl] at hg
      obtain ⟨v1, -, v3⟩ := pX_tell (P := P) hV hH hp ho hs hg.2.1
      have v3 := v3 hg.2.2
      rw [show mv (shT A q.2.1 g) (H.2.1 o g) = nI (H.2.1 o g) from if_neg hg.2.2] at v1
      rw [hgg, nI_pred, show g + 1 - 1 = g from rfl]
      by_cases e4 : q.1 = 4
      · rw [if_pos (show nI q.1 = 4 by rw [e4]; rfl), if_pos e4]
        by_cases z : H.2.1 o q.2.2.1 = 0
        · rw [(m1_iff (by omega)).mpr z, pX_isUM hp, Option.bind_some, if_pos rfl, z]; rfl
        · obtain ⟨y, hy⟩ : ∃ y, H.2.1 o q.2.2.1 = y + 1 := ⟨H.2.1 o q.2.2.1 - 1, by omega⟩
          rw [decide_eq_false z, Bool.false_or, hy, nI_pred, show y + 1 - 1 = y from rfl, pX_isU hA hS hH hp (by omega) hk1, Option.bind_some]
          by_cases hsy : suc A q H y = true
          · have hsy' : shU A (H.1.getD y 0) q.2.1 = true := hsy
            obtain ⟨u1, -, u3⟩ := pX_tell (P := P) hV hH hp (o := y) (by omega) hsy hg.2.1
            have u3 := u3 hg.2.2
            rw [if_pos hsy', if_neg (show ¬ (1 : Int32) = 0 by decide), v1, Option.bind_some, u1, Option.bind_some, show mv (shT A q.2.1 g) (H.2.1 y g) = nI (H.2.1 y g) from if_neg hg.2.2, hsy]
            by_cases w : H.2.1 o g ≤ H.2.1 y g
            · rw [if_neg (nI_nlt w (by omega)), decide_eq_true w]; rfl
            · rw [if_pos (nI_lt (by omega) (by omega)), decide_eq_false w]; rfl
          · have hsy' : ¬ shU A (H.1.getD y 0) q.2.1 = true := hsy
            rw [if_neg hsy', if_pos rfl, Bool.eq_false_iff.mpr hsy]; rfl
      · rw [if_neg (show ¬ nI q.1 = 4 from fun w => e4 ((nI_eq (b := 4) (by omega) (by decide)).mp w)), if_neg e4, if_pos (show nI q.1 = 5 by rw [show q.1 = 5 by omega]; rfl)]
        have e148 : ∀ b : Bool, JX6_holdsAt_148 P S (34 + i) (nI o) (if b = true then 1 else 0) = some (if (b == decide (H.2.1 o g = 0)) = true then 1 else 0) := by
          intro b
          rw [JX6_holdsAt_148, r3, hgg, nI_pred, v1, Option.bind_some, JX6_holdsAt_165, JX6_holdsAt_165]
          by_cases z : H.2.1 o g = 0
          · rw [if_pos (show nI (H.2.1 o g) = 0 by rw [z]; rfl), decide_eq_true z]
            cases b <;> rfl
          · rw [if_neg (nI_ne0 (by omega) (by omega)), decide_eq_false z]
            cases b <;> rfl
        by_cases z : H.2.1 o q.2.2.1 = 0
        · rw [if_pos ((m1_iff (by omega)).mpr z), decide_eq_true z]
          exact e148 true
        · rw [if_neg (fun w => z ((m1_iff (by omega)).mp w)), decide_eq_false z]
          exact e148 false
theorem uX_holds80 (hV : okV A) (hS : shX S A) (hH : okH A H) (hp : hpX S A H) (hP : i < P.2.2.2 34) (hi : i < 6) (hr : rlX P i q) (hq : okQ A q) (h6 : ¬ q.1 = 6) (h1 : ¬ q.1 = 1) (h2 : ¬ q.1 = 2) : ∀ (m o f : Nat), o + m = H.1.length → m + 1 ≤ f → ((∀ j, o ≤ j → j < H.1.length → suc A q H j = true → hAt A q H j = true) → rr_loop f (LX6_holdsIn_80 P S (34 + i)) (nI o) = some 1) ∧ (¬ (∀ j, o ≤ j → j < H.1.length → suc A q H j = true → hAt A q H j = true) → rr_loop f (LX6_holdsIn_80 P S (34 + i)) (nI o) = some 0) := by
  have h5 := hH.1
  obtain ⟨hk1, hk2, hk3⟩ := okQ_k hq h6
  obtain ⟨r1, -, -⟩ := hr.2 h6
  intro m
  induction m with
  | zero =>
    intro o f ho hf
    obtain ⟨f, rfl⟩ : ∃ g, f = g + 1 := ⟨f - 1, by omega⟩
    refine ⟨fun _ => ?_, fun z => absurd (fun j a b => by omega) z⟩
    rw [loop_s, LX6_holdsIn_80, hp.1, if_pos (nI_le (by omega) (by omega))]
  | succ m ih =>
    intro o f ho hf
    obtain ⟨f, rfl⟩ : ∃ g, f = g + 1 := ⟨f - 1, by omega⟩
    have ih' := ih (o + 1) f (by omega) (by omega)
    have step : (suc A q H o = true → hAt A q H o = true) → ((∀ j, o ≤ j → j < H.1.length → suc A q H j = true → hAt A q H j = true) ↔ (∀ j, o + 1 ≤ j → j < H.1.length → suc A q H j = true → hAt A q H j = true)) := fun z => ⟨fun w j a b => w j (by omega) b, fun w j a b => by
      by_cases e : j = o
      · rw [e]; exact z
      · exact w j (by omega) b⟩
    rw [loop_s, LX6_holdsIn_80, hp.1, if_neg (nI_ge (by omega) (by omega)), r1, pX_isU hV.1 hS hH hp (by omega) hk1, Option.bind_some, nI_1]
    by_cases hs : suc A q H o = true
    · have hs' : shU A (H.1.getD o 0) q.2.1 = true := hs
      rw [if_pos hs', if_neg (show ¬ (1 : Int32) = 0 by decide), pX_holdsAt hV hS hH hp hP hi hr hq h6 h1 h2 (by omega) hs, Option.bind_some]
      by_cases ha : hAt A q H o = true
      · rw [if_pos ha, if_neg (show ¬ (1 : Int32) = 0 by decide), step (fun _ => ha)]
        exact ih'
      · rw [if_neg ha, if_pos rfl]
        exact ⟨fun w => absurd (w o (Nat.le_refl _) (by omega) hs) ha, fun _ => rfl⟩
    · have hs' : ¬ shU A (H.1.getD o 0) q.2.1 = true := hs
      rw [if_neg hs', if_pos rfl, step (fun w => absurd w hs)]
      exact ih'
theorem pX_inputTells (hp : hpX S A H) (hS : shX S A) (hI : shI A ≤ 2) {j : Nat} (hj : j < 2) : fX2_inputTells P S (nI j) = some (nI (if j < shI A then H.2.2 j else 0) - 1) := by
  rw [fX2_inputTells, if_neg (nI_pos (by omega)), hS.2.1]
  by_cases h : j < shI A
  · rw [if_neg (nI_ge h (by omega)), if_pos (inb_nI (show j < 22 by omega) (by decide)), nI_clamp (by omega), hp.2.2.2 j h, if_pos h]
  · rw [if_pos (nI_le (by omega) (by omega)), if_neg h]; rfl
theorem pX_holdsIn (hV : okV A) (hS : shX S A) (hH : okH A H) (hp : hpX S A H) (hP : i < P.2.2.2 34) (hi : i < 6) (hr : rlX P i q) (hq : okQ A q) : fX6_holdsIn P S (34 + i) = some (if hol A q H = true then 1 else 0) := by
  have h5 := hH.1
  have hI := hV.1.2.1
  have hq6 : q.1 ≤ 6 := by
    rcases hq with hq | ⟨-, -, -, hq⟩
    · omega
    · omega
  have hP' : hol A q H = true ↔ holP A q H := hol_t
  unfold holP at hP'
  rw [fX6_holdsIn, if_pos ⟨by omega, by omega, by omega⟩, hr.1]
  by_cases e1 : q.1 = 1
  · rw [if_pos (show nI q.1 = 1 by rw [e1]; rfl)]
    rw [if_pos e1] at hP'
    obtain ⟨u1, u2⟩ := pX_hasNoCycle hV hS hH hp hr hq e1 hP hi
    by_cases hc : cyc (edg A q H) H.1.length
    · rw [u1 hc, Option.bind_some, if_neg (fun w => hP'.mp w hc)]
      exact if_pos (show (0 : Int32) &&& 1 = 0 by decide)
    · rw [u2 hc, Option.bind_some, if_pos (hP'.mpr hc)]
      exact if_pos (show (1 : Int32) &&& 1 = 1 by decide)
  · rw [if_neg (show ¬ nI q.1 = 1 from fun w => e1 ((nI_eq (b := 1) (by omega) (by decide)).mp w))]
    rw [if_neg e1] at hP'
    by_cases e2 : q.1 = 2
    · rw [if_pos (show nI q.1 = 2 by rw [e2]; rfl)]
      rw [if_pos e2] at hP'
      obtain ⟨u1, u2⟩ := pX_shares hV hS hH hp hr hq e2 hP hi
      by_cases hc : ∀ y, y < H.1.length → cnt A q H y H.1.length < 2
      · rw [u1 hc, Option.bind_some, if_pos (hP'.mpr hc)]
        exact if_pos (show (1 : Int32) &&& 1 = 1 by decide)
      · rw [u2 hc, Option.bind_some, if_neg (fun w => hc (hP'.mp w))]
        exact if_pos (show (0 : Int32) &&& 1 = 0 by decide)
    · rw [if_neg (show ¬ nI q.1 = 2 from fun w => e2 ((nI_eq (b := 2) (by omega) (by decide)).mp w))]
      rw [if_neg e2] at hP'
      by_cases e6 : q.1 = 6
      · rw [if_pos (show nI q.1 = 6 by rw [e6]; rfl), show fX2_inputTells P S 0 = _ from pX_inputTells (j := 0) hp hS hI (by decide), Option.bind_some, show fX2_inputTells P S 1 = _ from pX_inputTells (j := 1) hp hS hI (by decide)]
        rw [if_pos e6] at hP'
        by_cases i0 : 0 < shI A
        · have v0 := hH.2.2.2 0 i0
          rw [if_pos i0]
          by_cases z0 : H.2.2 0 = 0
          · rw [if_pos ((m1_iff (by omega)).mpr z0), if_pos (hP'.mpr (Or.inr (Or.inl z0)))]
          · rw [if_neg (fun w => z0 ((m1_iff (by omega)).mp w)), Option.bind_some]
            by_cases i1 : 1 < shI A
            · have v1 := hH.2.2.2 1 i1
              rw [if_pos i1]
              by_cases z1 : H.2.2 0 = H.2.2 1
              · rw [if_pos (by rw [z1]), if_neg (fun w => by rcases hP'.mp w with w | w | w; omega; exact z0 w; exact w z1)]
              · rw [if_neg (fun w => z1 ((m1_inj (by omega) (by omega)).mp w)), if_pos (hP'.mpr (Or.inr (Or.inr z1)))]
            · rw [if_neg i1, if_neg (fun w => z0 ((m1_inj (by omega) (by omega)).mp w)), if_pos (hP'.mpr (Or.inl (by omega)))]
        · rw [if_neg i0, if_pos (show nI 0 - 1 = -1 by decide), if_pos (hP'.mpr (Or.inl (by omega)))]
      · rw [if_neg (show ¬ nI q.1 = 6 from fun w => e6 ((nI_eq (b := 6) (by omega) (by decide)).mp w))]
        rw [if_neg e6] at hP'
        have h := uX_holds80 hV hS hH hp hP hi hr hq e6 e1 e2 H.1.length 0 FU (by omega) (by show _ ≤ 5000; omega)
        by_cases hc : ∀ o, o < H.1.length → suc A q H o = true → hAt A q H o = true
        · rw [if_pos (hP'.mpr hc)]
          exact h.1 (fun j _ b => hc j b)
        · rw [if_neg (fun w => hc (hP'.mp w))]
          exact h.2 (fun w => hc (fun o b => w o (Nat.zero_le _) b))
/-- X's rules -/
def rsX (P S : rr_T) (qs : List Ru) : Prop := S.1 97 = nI qs.length ∧ qs.length ≤ 6 ∧ qs.length ≤ P.2.2.2 34 ∧ P.2.2.2 34 ≤ 6 ∧ ∀ i, i < qs.length → rlX P i (qs.getD i q0)
theorem rsX_fr {is as ls : List Nat} {S S' : rr_T} {qs : List Ru} (f : frY is as ls S S') (h1 : 97 ∉ is) (h : rsX P S qs) : rsX P S' qs := by
  unfold rsX
  rw [f.1.1 97 h1]
  exact h
theorem uX_from6 {qs : List Ru} (hV : okV A) (hS : shX S A) (hH : okH A H) (hp : hpX S A H) (hr : rsX P S qs) (hQ : ∀ q ∈ qs, okQ A q) : ∀ (m j f : Nat), j + m = qs.length → m + 1 ≤ f → rr_loop f (LX7_holdFrom_6 P S) (nI j) = some (if (qs.drop j).all (fun q => hol A q H) = true then 1 else 0) := by
  have h6 := hr.2.1
  intro m
  induction m with
  | zero =>
    intro j f hj hf
    obtain ⟨f, rfl⟩ : ∃ g, f = g + 1 := ⟨f - 1, by omega⟩
    rw [loop_s, LX7_holdFrom_6, hr.1, if_pos (nI_le (by omega) (by omega)), List.drop_eq_nil_of_le (by omega)]
    rfl
  | succ m ih =>
    intro j f hj hf
    obtain ⟨f, rfl⟩ : ∃ g, f = g + 1 := ⟨f - 1, by omega⟩
    have hl := hr.2.2.1
    have hjq : j < qs.length := by omega
    rw [loop_s, LX7_holdFrom_6, hr.1, if_neg (nI_ge (by omega) (by omega)), if_pos (inb_nI (by omega) (by decide)), nI_clamp (by omega), if_pos (show j < P.2.2.2 34 by omega), pX_holdsIn hV hS hH hp (by omega) (by omega) (hr.2.2.2.2 j hjq) (hQ _ (by rw [gD_g hjq]; exact List.getElem_mem _)), Option.bind_some, List.drop_eq_getElem_cons hjq, List.all_cons, gD_g hjq, nI_1]
    cases hb : hol A qs[j] H with
    | true =>
      rw [if_pos rfl, if_neg (show ¬ (1 : Int32) = 0 by decide), Bool.true_and]
      exact ih (j + 1) f (by omega) (by omega)
    | false =>
      rw [if_neg (show ¬ false = true by decide), if_pos rfl, Bool.false_and]
      rfl
theorem pX_holdFrom {qs : List Ru} {j : Nat} (hV : okV A) (hS : shX S A) (hH : okH A H) (hp : hpX S A H) (hr : rsX P S qs) (hQ : ∀ q ∈ qs, okQ A q) (hj : j ≤ qs.length) : fX7_holdFrom P S (nI j) = some (if (qs.drop j).all (fun q => hol A q H) = true then 1 else 0) := by
  have h6 := hr.2.1
  have em : jMax (nI j) 0 = nI j := by unfold jMax; rw [if_neg (nI_pos (by omega))]
  rw [fX7_holdFrom, rr_l_e, em]
  exact uX_from6 hV hS hH hp hr hQ (qs.length - j) j FU (by omega) (by show _ ≤ 5000; omega)
end XRULE2
