set_option maxHeartbeats 4000000 in
set_option maxRecDepth 20000 in
/-- THE LAW'S LOOP -/
theorem law_loop {p : Program} {l : Launch} {e : Env} {s : State} {m : MethodId} {b : Nat} {below : List Frame} {meth : Method} {c : Code} {G : rr_G} {L : Nat} {xs : Nat → Int32} {R : Nat → rr_T → rr_T → Nat → Nat → rr_T → Prop} (hL : L ≤ 3072) (C0 : lw_At p s m meth c b L xs) (C : lz_C G p s m b c) (hR : lz_R R) : ∀ (n k : Nat) (x3 : Int32), x3 = nI (6 * k) → 6 * k ≤ L + 6 → 600 ≤ k + n → ∀ (P S : rr_T) (u v : Nat) (M : rr_T) (adX adM : Nat → Nat) (H : Heap) (locs : List Loc) (ls : Array Slot), R k P S u v M → lz_S G adX adM s H locs (xw P S) (mw M) → lv_has ls 4 [(0, .ref b), (1, .ref (adX 0)), (2, .ref (adM 0)), (3, .int x3)] → W p l e room_1 s m #[Value.ref b] below meth c H locs (71 + u) (200844 + v) (lw_Z below #[Value.ref b] s) (F0 m 18 ls []) := by
  intro n
  induction n with
  | zero => intro k x3 ex h1 h2; omega
  | succ n ih =>
    intro k x3 ex hk6 hkn P S u v M adX adM H locs ls hr X hl
    obtain ⟨hx, hb, hr0, hml, hown, hts, hXs, hbl, hlocks, hgv⟩ := id C0
    have hbA : ¬ (fun q : Nat => s.heap.size ≤ q) b := Nat.not_le.mpr hbl
    have hu := hR.2.1 _ _ _ _ _ _ hr
    refine lv_iload_n hx hb dL_law_18 rfl (lv_at hl 3 rfl) ?_
    refine lv_aload_n hx hb dL_law_19 rfl (lv_at hl 0 rfl) ?_
    refine va_slen hx hb hXs hbl hbA X.2.2 dL_law_20 ?_
    refine lv_bipush (v := 6) hx hb dL_law_21 (by decide) ?_
    refine lv_isub hx hb dL_law_23 ?_
    refine lv_icmp_gt (tgt := 664) hx hb dL_law_24 (by decide) (fun z => ?_) (fun z => ?_)
    · refine lv_iconst (v := 1) hx hb dL_law_664 (by decide) ?_
      refine va_forget (fun q hq => X.2.2.2.2 q hq) ?_
      refine W.widen (k := 600000) (n := 7302250) (by have := hu.1; omega) (by have := hu.2.1; omega) ?_
      exact lw_ret hx hb hr0 hlocks dL_law_665
    · have e1 : (nI L - nI 6).toInt = (L : Int) - (6 : Nat) := pk_sub_toInt (by omega) (by omega)
      have e2 : x3.toInt = ((6 * k : Nat) : Int) := by rw [ex]; exact nI_toInt (by omega)
      have z' : ¬ ((nI L - nI 6).toInt < x3.toInt) := fun q => z (Int32.lt_iff_toInt_lt.mpr q)
      rw [e1, e2] at z'
      have hk : 6 * k + 6 ≤ L := by omega
      have z0 : vp_in x3 L := by rw [ex]; exact vp_in_nI (by omega) (by omega)
      have z1 : vp_in (x3 + 1) L := by rw [ex, show nI (6 * k) + 1 = nI (6 * k + 1) from nI_add (6 * k) 1]; exact vp_in_nI (by omega) (by omega)
      have z2 : vp_in (x3 + 2) L := by rw [ex, show nI (6 * k) + 2 = nI (6 * k + 2) from nI_add (6 * k) 2]; exact vp_in_nI (by omega) (by omega)
      have z3 : vp_in (x3 + 3) L := by rw [ex, show nI (6 * k) + 3 = nI (6 * k + 3) from nI_add (6 * k) 3]; exact vp_in_nI (by omega) (by omega)
      have z4 : vp_in (x3 + 4) L := by rw [ex, show nI (6 * k) + 4 = nI (6 * k + 4) from nI_add (6 * k) 4]; exact vp_in_nI (by omega) (by omega)
      have z5 : vp_in (x3 + 5) L := by rw [ex, show nI (6 * k) + 5 = nI (6 * k + 5) from nI_add (6 * k) 5]; exact vp_in_nI (by omega) (by omega)
      have ih' : ∀ (P' S' : rr_T) (u' v' : Nat) (M' : rr_T) (dX dM : Nat → Nat) (H' : Heap) (locs' : List Loc) (ls' : Array Slot), R (k + 1) P' S' u' v' M' → lz_S G dX dM s H' locs' (xw P' S') (mw M') → lv_has ls' 4 [(0, .ref b), (1, .ref (dX 0)), (2, .ref (dM 0)), (3, .int (x3 + 6))] → W p l e room_1 s m #[Value.ref b] below meth c H' locs' (71 + u') (200844 + v') (lw_Z below #[Value.ref b] s) (F0 m 18 ls' []) := fun P' S' u' v' M' dX dM H' locs' ls' hr' X' hl' => ih (k + 1) (x3 + 6) (by rw [ex]; exact nI_add (6 * k) 6) (by omega) (by omega) P' S' u' v' M' dX dM H' locs' ls' hr' X' hl'
      refine lv_aload_n hx hb dL_law_27 rfl (lv_at hl 0 rfl) ?_
      refine lv_iload_n hx hb dL_law_28 rfl (lv_at hl 3 rfl) ?_
      refine va_sld hx hb hXs hbl hbA X.2.2 z0 dL_law_29 ?_
      refine lv_bipush (v := 31) hx hb dL_law_30 (by decide) ?_
      refine lv_iand hx hb dL_law_32 ?_
      obtain ⟨j, hj, ej⟩ := pk_andE (xs x3.toNatClampNeg) (m := 31) 5 (by decide)
      rw [ej]
      by_cases hj20 : j < 20
      · rcases (show j = 0 ∨ j = 1 ∨ j = 2 ∨ j = 3 ∨ j = 4 ∨ j = 5 ∨ j = 6 ∨ j = 7 ∨ j = 8 ∨ j = 9 ∨ j = 10 ∨ j = 11 ∨ j = 12 ∨ j = 13 ∨ j = 14 ∨ j = 15 ∨ j = 16 ∨ j = 17 ∨ j = 18 ∨ j = 19 by omega) with rfl | rfl | rfl | rfl | rfl | rfl | rfl | rfl | rfl | rfl | rfl | rfl | rfl | rfl | rfl | rfl | rfl | rfl | rfl | rfl
        · exact lv_tableIn (off := 95) (tgt := 128) hx hb dL_law_33 (by decide) (by decide) (by decide) (by decide) (lc_kind C0 C X hl hR (by omega) hr z1 z2 z3 z4 z5 ih')
        · exact lv_tableIn (off := 118) (tgt := 151) hx hb dL_law_33 (by decide) (by decide) (by decide) (by decide) (lc_field C0 C X hl hR (by omega) hr z1 z2 z3 z4 z5 ih')
        · exact lv_tableIn (off := 161) (tgt := 194) hx hb dL_law_33 (by decide) (by decide) (by decide) (by decide) (lc_input C0 C X hl hR (by omega) hr z1 z2 z3 z4 z5 ih')
        · exact lv_tableIn (off := 184) (tgt := 217) hx hb dL_law_33 (by decide) (by decide) (by decide) (by decide) (lc_bound C0 C X hl hR (by omega) hr z1 z2 z3 z4 z5 ih')
        · exact lv_tableIn (off := 207) (tgt := 240) hx hb dL_law_33 (by decide) (by decide) (by decide) (by decide) (lc_rule C0 C X hl hR (by omega) hr z1 z2 z3 z4 z5 ih')
        · exact lv_tableIn (off := 260) (tgt := 293) hx hb dL_law_33 (by decide) (by decide) (by decide) (by decide) (lc_clear C0 C X hl hR (by omega) hr z1 z2 z3 z4 z5 ih')
        · exact lv_tableIn (off := 273) (tgt := 306) hx hb dL_law_33 (by decide) (by decide) (by decide) (by decide) (lc_about C0 C X hl hR (by omega) hr z1 z2 z3 z4 z5 ih')
        · exact lv_tableIn (off := 296) (tgt := 329) hx hb dL_law_33 (by decide) (by decide) (by decide) (by decide) (lc_many C0 C X hl hR (by omega) hr z1 z2 z3 z4 z5 ih')
        · exact lv_tableIn (off := 309) (tgt := 342) hx hb dL_law_33 (by decide) (by decide) (by decide) (by decide) (lc_kept C0 C X hl hR (by omega) hr z1 z2 z3 z4 z5 ih')
        · exact lv_tableIn (off := 322) (tgt := 355) hx hb dL_law_33 (by decide) (by decide) (by decide) (by decide) (lc_choice C0 C X hl hR (by omega) hr z1 z2 z3 z4 z5 ih')
        · exact lv_tableIn (off := 355) (tgt := 388) hx hb dL_law_33 (by decide) (by decide) (by decide) (by decide) (lc_object C0 C X hl hR (by omega) hr z1 z2 z3 z4 z5 ih')
        · exact lv_tableIn (off := 398) (tgt := 431) hx hb dL_law_33 (by decide) (by decide) (by decide) (by decide) (lc_put C0 C X hl hR (by omega) hr z1 z2 z3 z4 z5 ih')
        · exact lv_tableIn (off := 421) (tgt := 454) hx hb dL_law_33 (by decide) (by decide) (by decide) (by decide) (lc_empty C0 C X hl hR (by omega) hr z1 z2 z3 z4 z5 ih')
        · exact lv_tableIn (off := 434) (tgt := 467) hx hb dL_law_33 (by decide) (by decide) (by decide) (by decide) (lc_rank C0 C X hl hR (by omega) hr z1 z2 z3 z4 z5 ih')
        · exact lv_tableIn (off := 447) (tgt := 480) hx hb dL_law_33 (by decide) (by decide) (by decide) (by decide) (lc_step C0 C X hl hR (by omega) hr z1 z2 z3 z4 z5 ih')
        · exact lv_tableIn (off := 510) (tgt := 543) hx hb dL_law_33 (by decide) (by decide) (by decide) (by decide) (lc_erase C0 C X hl hR (by omega) hr z1 z2 z3 z4 z5 ih')
        · exact lv_tableIn (off := 523) (tgt := 556) hx hb dL_law_33 (by decide) (by decide) (by decide) (by decide) (lc_ends C0 C X hl hR (by omega) hr z1 z2 z3 z4 z5 ih')
        · exact lv_tableIn (off := 536) (tgt := 569) hx hb dL_law_33 (by decide) (by decide) (by decide) (by decide) (lc_end C0 C X hl hR (by omega) hr z1 z2 z3 z4 z5 ih')
        · exact lv_tableIn (off := 569) (tgt := 602) hx hb dL_law_33 (by decide) (by decide) (by decide) (by decide) (lc_look C0 C X hl hR (by omega) hr z1 z2 z3 z4 z5 ih')
        · exact lv_tableIn (off := 602) (tgt := 635) hx hb dL_law_33 (by decide) (by decide) (by decide) (by decide) (lc_endOf C0 C X hl hR (by omega) hr z1 z2 z3 z4 z5 ih')
      · refine lv_tableOut (tgt := 658) hx hb dL_law_33 (Or.inr (by rw [nI_toInt (by omega)]; omega)) (by decide) ?_
        exact lc_tail C0 C X hl hu.2.2 ih'
set_option maxHeartbeats 4000000 in
set_option maxRecDepth 20000 in
/-- THE LAW, from its entry, open over a relation -/
theorem whole_open {R : Nat → rr_T → rr_T → Nat → Nat → rr_T → Prop} (hR : lz_R R) {p : Program} {e : Env} {s : State} {m : MethodId} {below : List Frame} {meth : Method} {c : Code} (l : Launch) {b L : Nat} {xs : Nat → Int32} (hL : L ≤ 3072) (C0 : lw_At p s m meth c b L xs) : W p l e room_1 s m #[Value.ref b] below meth c s.heap [] 0 0 (lw_Z below #[Value.ref b] s) (entryFrame m ([Value.ref b] : List Value).toArray 4) := by
  obtain ⟨hx, hb, hr0, hml, hown, hts, hXs, hbl, hlocks, hgv⟩ := id C0
  have hw : ∀ w ∈ rr_ws, w.before #[Value.ref b] s = true := fun w h => hts w (List.mem_filter.mp h).1
  obtain ⟨G, hK⟩ := lw_K hts
  have C : lz_C G p s m b c := ⟨hx, hb, hml, hown, hw, hK⟩
  have hA : ∀ q : Nat, s.heap.size ≤ q → (fun q : Nat => s.heap.size ≤ q) q := fun _ h => h
  have hS : va_S (fun q : Nat => s.heap.size ≤ q) s.heap s.heap [] := va_S.rf
  have hP : va_P (rr_D G) vwCl [] s.heap := fun k q h => by simp at h
  have hD : va_D (fun q : Nat => s.heap.size ≤ q) [] := ⟨fun i j p q h => by simp at h, fun k q h => by simp at h⟩
  have hl := lv_entry ([.ref b]) (n := 4) (Nat.le_of_ble_eq_true rfl)
  rw [lg_entry_eq]
  generalize (lg_sl ([.ref b]) ++ List.replicate (4 - (lg_sl ([.ref b])).length) Slot.unset).toArray = ls at hl ⊢
  have hl : lv_has ls 4 [(0, .ref b)] := hl
  refine va_new (D := rr_D G) (ci := 10) (fs := [.null, .null, .null, .null, .null, .null, .null, .null, .int 0]) (C := RX10) (T := TX10) (N := 9) hx hb hw cl10.2.1 tyX10 tyX10_ok hown (hw (.classLink RL 7 RX10) (in_rr 65 (by decide +kernel) rfl)) (hw _ ins10.1) (hw _ ins10.2) hK.1 hP hD hS hA rfl (fun j hj => by rcases (show j = 0 ∨ j = 1 ∨ j = 2 ∨ j = 3 ∨ j = 4 ∨ j = 5 ∨ j = 6 ∨ j = 7 ∨ j = 8 by omega) with rfl | rfl | rfl | rfl | rfl | rfl | rfl | rfl | rfl <;> rfl) (Nat.le_of_ble_eq_true rfl) (Nat.le_of_ble_eq_true rfl) dL_law_0 (fun q0 H hP hD hS => ?_)
  have X0 : lz_S G (fun _ => q0) (fun _ => 0) s H [] [some (.inr (10, [.null, .null, .null, .null, .null, .null, .null, .null, .int 0])), none, none, none, none, none, none, none, none, none, none, none, none, none, none, none, none, none, none, none, none, none, none, none, none, none, none, none, none, none, none, none, none, none, none, none, none, none, none, none, none, none, none, none, none, none, none, none, none, none, none, none, none, none, none, none, none] [] := ⟨hP, hD, hS⟩
  refine lv_dup hx hb dL_law_3 rfl ?_
  refine lz_initX (As := []) (rest := [.ref q0]) C X0 (tX10_init 0 0 33 447 rfl rfl) rfl cbX10_init li_9.1 li_9.2 rfl rfl rfl rfl (fun _ => rfl) ⟨Nat.le_of_ble_eq_true rfl, Nat.le_of_ble_eq_true rfl⟩ (Nat.le_of_ble_eq_true rfl) rfl hl.1 dL_law_4 (Nat.le_of_ble_eq_true rfl) (Nat.le_of_ble_eq_true rfl) (fun adX H1 locs1 f0 X1 => ?_)
  have X1 : lz_S G adX (fun _ => 0) s H1 locs1 (xw xP0 xS0) [] := X1
  have f0 : adX 0 = q0 := f0
  refine W.widen (k := 34) (n := 456) (Nat.le_of_ble_eq_true rfl) (Nat.le_of_ble_eq_true rfl) ?_
  show W p l e room_1 s m #[Value.ref b] below meth c H1 locs1 34 456 (lw_Z below #[Value.ref b] s) (F0 m 7 ls [.ref q0])
  refine lv_astore_n (lv' := [(1, .ref q0), (0, .ref b)]) hx hb dL_law_7 rfl hl (by decide) rfl (fun ls hl => ?_)
  obtain ⟨hP, hD, hS⟩ := X1
  refine va_new (D := rr_D G) (ci := 11) (fs := [.int 0, .null, .null, .null, .null, .int 0, .null, .int 0, .int 0, .null, .null, .null, .null, .int 0, .null, .null, .null, .null, .null, .int 0, .null, .int 0, .int 0, .null, .null, .int 0, .null, .null, .int 0, .null, .null, .null, .null, .int 0, .null, .null, .null, .int 0, .null, .null, .null, .int 0, .int 0, .null, .null, .null, .null, .null, .null, .int 0, .int 0, .null, .int 0, .int 0]) (C := RX11) (T := TX11) (N := 54) hx hb hw cl11.2.1 tyX11 tyX11_ok hown (hw (.classLink RL 10 RX11) (in_rr 840 (by decide +kernel) rfl)) (hw _ ins11.1) (hw _ ins11.2) hK.1 hP hD hS hA rfl (fun j hj => by rcases (show j = 0 ∨ j = 1 ∨ j = 2 ∨ j = 3 ∨ j = 4 ∨ j = 5 ∨ j = 6 ∨ j = 7 ∨ j = 8 ∨ j = 9 ∨ j = 10 ∨ j = 11 ∨ j = 12 ∨ j = 13 ∨ j = 14 ∨ j = 15 ∨ j = 16 ∨ j = 17 ∨ j = 18 ∨ j = 19 ∨ j = 20 ∨ j = 21 ∨ j = 22 ∨ j = 23 ∨ j = 24 ∨ j = 25 ∨ j = 26 ∨ j = 27 ∨ j = 28 ∨ j = 29 ∨ j = 30 ∨ j = 31 ∨ j = 32 ∨ j = 33 ∨ j = 34 ∨ j = 35 ∨ j = 36 ∨ j = 37 ∨ j = 38 ∨ j = 39 ∨ j = 40 ∨ j = 41 ∨ j = 42 ∨ j = 43 ∨ j = 44 ∨ j = 45 ∨ j = 46 ∨ j = 47 ∨ j = 48 ∨ j = 49 ∨ j = 50 ∨ j = 51 ∨ j = 52 ∨ j = 53 by omega) with rfl | rfl | rfl | rfl | rfl | rfl | rfl | rfl | rfl | rfl | rfl | rfl | rfl | rfl | rfl | rfl | rfl | rfl | rfl | rfl | rfl | rfl | rfl | rfl | rfl | rfl | rfl | rfl | rfl | rfl | rfl | rfl | rfl | rfl | rfl | rfl | rfl | rfl | rfl | rfl | rfl | rfl | rfl | rfl | rfl | rfl | rfl | rfl | rfl | rfl | rfl | rfl | rfl | rfl <;> rfl) (Nat.le_of_ble_eq_true rfl) (Nat.le_of_ble_eq_true rfl) dL_law_8 (fun q1 H2 hP2 hD2 hS2 => ?_)
  have ea : ∀ x : Nat × va_E, (a_w G.2.2 adX 0 (xw xP0 xS0) ++ a_w G.2.2 (fun _ => 0) 0 []) ++ [x] = a_w G.2.2 adX 0 (xw xP0 xS0) ++ [x] := fun x => by rw [show a_w G.2.2 (fun _ => 0) 0 [] = [] from rfl, List.append_nil]
  rw [ea] at hP2 hD2
  have X2 : lz_S G adX (fun _ => q1) s H2 locs1 (xw xP0 xS0) [some (.inr (11, [.int 0, .null, .null, .null, .null, .int 0, .null, .int 0, .int 0, .null, .null, .null, .null, .int 0, .null, .null, .null, .null, .null, .int 0, .null, .int 0, .int 0, .null, .null, .int 0, .null, .null, .int 0, .null, .null, .null, .null, .int 0, .null, .null, .null, .int 0, .null, .null, .null, .int 0, .int 0, .null, .null, .null, .null, .null, .null, .int 0, .int 0, .null, .int 0, .int 0])), none, none, none, none, none, none, none, none, none, none, none, none, none, none, none, none, none, none, none, none, none, none, none, none, none, none, none, none, none, none, none, none, none, none, none, none] := ⟨hP2, hD2, hS2⟩
  refine lv_dup hx hb dL_law_11 rfl ?_
  refine lz_initM (As := []) (rest := [.ref q1]) C X2 (tX11_init 0 0 36 200334 rfl rfl) rfl cbX11_init li_12.1 li_12.2 rfl rfl rfl rfl (fun _ => rfl) ⟨Nat.le_of_ble_eq_true rfl, Nat.le_of_ble_eq_true rfl⟩ (Nat.le_of_ble_eq_true rfl) rfl hl.1 dL_law_12 (Nat.le_of_ble_eq_true rfl) (Nat.le_of_ble_eq_true rfl) (fun adM H3 locs3 g0 X3 => ?_)
  have X3 : lz_S G adX adM s H3 locs3 (xw xP0 xS0) (mw mS0) := X3
  have g0 : adM 0 = q1 := g0
  refine W.widen (k := 71 + 0) (n := 200844 + 0) (Nat.le_of_ble_eq_true rfl) (Nat.le_of_ble_eq_true rfl) ?_
  show W p l e room_1 s m #[Value.ref b] below meth c H3 locs3 (71 + 0) (200844 + 0) (lw_Z below #[Value.ref b] s) (F0 m 15 ls [.ref q1])
  refine lv_astore_n (lv' := [(2, .ref q1), (1, .ref q0), (0, .ref b)]) hx hb dL_law_15 rfl hl (by decide) rfl (fun ls hl => ?_)
  refine lv_iconst (v := 0) hx hb dL_law_16 (by decide) ?_
  refine lv_istore_n (lv' := [(3, .int 0), (2, .ref q1), (1, .ref q0), (0, .ref b)]) hx hb dL_law_17 rfl hl (by decide) rfl (fun ls hl => ?_)
  exact law_loop hL C0 C hR 600 0 0 rfl (by omega) (by omega) xP0 xS0 0 0 mS0 adX adM H3 locs3 ls hR.1 X3 (by rw [f0, g0]; exact lv_sub hl [3, 2, 1, 0] rfl)
