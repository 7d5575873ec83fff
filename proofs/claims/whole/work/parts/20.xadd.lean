/-! ===== Object(), aastore, Rule(), Step(), Rules.add, Program.add ===== -/
def rr_oi (own : String) (idx : Nat) : Prop := Cond.methodLink own idx Lib.objectInit ∈ rr_ws ∧ Cond.instanceMethod Lib.objectInit ∈ rr_ws ∧ Cond.code Lib.objectInit ⟨#[0xb1]⟩ 1 none ∈ rr_ws
theorem rr_objI {σ : Type} {l : Launch} {G : rr_G} {mt : rr_M} {d lo : Nat} {fx : Nat → Bool} {rv : σ → Option Value} {w : σ → rr_H} {U V : σ → Nat} {uu vv pc : Nat} {lv : List (Nat × Value)} {st : List Value} {h : rr_H} {o : Option σ} {n idx : Nat} (hk : rr_oi mt.1.cls idx) (hfr : 1 ≤ d) (hlo : (st.map fun v => v.category).sum + 12 ≤ lo) (hd : decode mt.2.1 pc = .ok (.invokespecial idx, 3)) (kk : RR l G mt d lo fx rv w U V uu vv (pc + 3) lv st h o) : RR l G mt d lo fx rv w U V uu vv pc lv (.ref n :: st) h o := by
  intro q ho
  obtain ⟨k1, k2, K0⟩ := kk q ho
  refine ⟨k1, k2, ?_⟩
  intro p e s m args below meth c ad0 ad A H locs cells slots mc ms ls C X L hcc hs
  have K := K0 p e s m args below meth c ad0 ad A H locs cells slots mc ms ls C X L hcc hs
  obtain ⟨hx, hb, hml, hown, hts, hr, hl0, hnm, hK⟩ := C
  obtain ⟨a1, a2, a3⟩ := hk
  refine W.objInit (a := ad n) (rest := st.map (a_v ad)) hx hb hown (hts _ a1) (hts _ a2) (hts _ a3) rfl (by rw [hml]; exact L.1) rfl hd hfr ?_ K
  show 2 * 0 + ((st.map (a_v ad)).map fun v => v.category).sum + 12 ≤ lo
  rw [List.map_map]
  have : (List.map ((fun v => v.category) ∘ a_v ad) st).sum = (st.map fun v => v.category).sum := by simp [Function.comp_def, a_v_cat]
  omega
theorem rr_aast {σ : Type} {l : Launch} {G : rr_G} {mt : rr_M} {d lo : Nat} {fx : Nat → Bool} {rv : σ → Option Value} {w : σ → rr_H} {U V : σ → Nat} {uu vv pc : Nat} {lv : List (Nat × Value)} {st : List Value} {h : rr_H} {o : Option σ} {n x ci len t : Nat} {r : vw_C} {vs : List Value} {f : Nat → Option Nat} {i : Int32} {h' : rr_H} (ht : ∀ cy : Nat → ClassId, (rr_tys cy)[t]? = some (cy t, .object r.1)) (hc : vwCl[ci]? = some r) (hn : h[n]? = some (some (.inl (t, len, .inr (.inr (.inr (.inr f))))))) (hv : h[x]? = some (some (.inr (ci, vs)))) (hin : vp_in i len) (hd : decode mt.2.1 pc = .ok (.aastore, 1)) (hh : h.set n (some (.inl (t, len, .inr (.inr (.inr (.inr (va_up f i.toNatClampNeg (some x)))))))) = h') (kk : RR l G mt d lo fx rv w U V uu vv (pc + 1) lv st h' o) : RR l G mt d lo fx rv w U V uu vv pc lv (.ref x :: .int i :: .ref n :: st) h o := by
  intro q ho
  obtain ⟨k1, k2, K0⟩ := kk q ho
  refine ⟨k1, k2, ?_⟩
  intro p e s m args below meth c ad0 ad A H locs cells slots mc ms ls C X L hcc hs
  obtain ⟨hP, hD, hS, hA, hf⟩ := X
  refine va_astq (n := len) (v := ad x) (f := fun j => (f j).map ad) C.1 C.2.1 C.2.2.2.2.2.2.2.2.1 hP hD hS _ t _ ci (rr_at0 hn) (ht _) (rr_at0 hv) hc hin hd (fun H1 locs1 hP1 hD1 hS1 => ?_)
  have e0 : va_up (fun j => (f j).map ad) i.toNatClampNeg (some (ad x)) = fun j => (va_up f i.toNatClampNeg (some x) j).map ad := by
    funext j
    by_cases hj : j = i.toNatClampNeg
    · rw [hj, va_up_self, va_up_self]; rfl
    · rw [va_up_ne _ _ hj, va_up_ne _ _ hj]
  rw [e0] at hP1 hD1
  have e1 : (a_w G.2.2 ad 0 h).set (a_k h n) (ad n, .inl (G.2.2 t, len, .inr (.inr (.inr (.inr (fun j => (va_up f i.toNatClampNeg (some x) j).map ad)))))) = a_w G.2.2 ad 0 h' := by rw [← hh]; exact rr_set0 (.inl (t, len, .inr (.inr (.inr (.inr (va_up f i.toNatClampNeg (some x))))))) hn
  exact K0 p e s m args below meth c ad0 ad A H1 locs1 cells slots mc ms ls C ⟨e1 ▸ hP1, e1 ▸ hD1, hS1, hA, hf⟩ L hcc hs
theorem oi10_3 : rr_oi RX10 3 := ⟨in_rr 70 (by decide +kernel) rfl, in_rr 71 (by decide +kernel) rfl, in_rr 72 (by decide +kernel) rfl⟩
theorem oi8_3 : rr_oi RX8 3 := ⟨in_rr 78 (by decide +kernel) rfl, in_rr 71 (by decide +kernel) rfl, in_rr 72 (by decide +kernel) rfl⟩
theorem oi7_3 : rr_oi RX7 3 := ⟨in_rr 114 (by decide +kernel) rfl, in_rr 71 (by decide +kernel) rfl, in_rr 72 (by decide +kernel) rfl⟩
theorem oi4_3 : rr_oi RX4 3 := ⟨in_rr 131 (by decide +kernel) rfl, in_rr 71 (by decide +kernel) rfl, in_rr 72 (by decide +kernel) rfl⟩
theorem oi2_3 : rr_oi RX2 3 := ⟨in_rr 147 (by decide +kernel) rfl, in_rr 71 (by decide +kernel) rfl, in_rr 72 (by decide +kernel) rfl⟩
theorem oi0_3 : rr_oi RX0 3 := ⟨in_rr 191 (by decide +kernel) rfl, in_rr 71 (by decide +kernel) rfl, in_rr 72 (by decide +kernel) rfl⟩
theorem oi5_3 : rr_oi RX5 3 := ⟨in_rr 197 (by decide +kernel) rfl, in_rr 71 (by decide +kernel) rfl, in_rr 72 (by decide +kernel) rfl⟩
theorem oi3_3 : rr_oi RX3 3 := ⟨in_rr 241 (by decide +kernel) rfl, in_rr 71 (by decide +kernel) rfl, in_rr 72 (by decide +kernel) rfl⟩
theorem oi1_3 : rr_oi RX1 3 := ⟨in_rr 283 (by decide +kernel) rfl, in_rr 71 (by decide +kernel) rfl, in_rr 72 (by decide +kernel) rfl⟩
theorem oi6_3 : rr_oi RX6 3 := ⟨in_rr 446 (by decide +kernel) rfl, in_rr 71 (by decide +kernel) rfl, in_rr 72 (by decide +kernel) rfl⟩
theorem oi9_1 : rr_oi RX9 1 := ⟨in_rr 692 (by decide +kernel) rfl, in_rr 71 (by decide +kernel) rfl, in_rr 72 (by decide +kernel) rfl⟩
theorem oi11_1 : rr_oi RX11 1 := ⟨in_rr 845 (by decide +kernel) rfl, in_rr 71 (by decide +kernel) rfl, in_rr 72 (by decide +kernel) rfl⟩
def rvN {α : Type} : α → Option Value := fun _ => none
def rvA : Int32 × rr_T × rr_T → Option Value := fun q => some (.int q.1)
def rvR : Int32 × rr_T × rr_T × Nat × Nat → Option Value := fun q => some (.int q.1)
def fRi (a c e : Int32) : Option Int32 := if e = c then (if a = 1 then some (-1) else if a = 2 then some (-1) else some e) else some e
def xR4 (a b c g : Int32) : Nat → Int32 := fun k => if k = 0 then a else if k = 1 then b else if k = 2 then c else g
def xS5 (a b c n m : Int32) : Nat → Int32 := fun k => if k = 0 then a else if k = 1 then b else if k = 2 then c else if k = 3 then n else m
def xwt (P S : rr_T) (ci : Nat) (vs : List Value) : rr_H := (xw P S).set 56 (some (.inr (ci, vs)))
theorem kp6_9 : Cond.fieldLink RX6 9 RX6 (TX6 0).2.1 (TX6 0).2.2.1 ∈ rr_ws := in_rr 447 (by decide +kernel) rfl
theorem kp6_15 : Cond.fieldLink RX6 15 RX6 (TX6 1).2.1 (TX6 1).2.2.1 ∈ rr_ws := in_rr 448 (by decide +kernel) rfl
theorem kp6_18 : Cond.fieldLink RX6 18 RX6 (TX6 2).2.1 (TX6 2).2.2.1 ∈ rr_ws := in_rr 449 (by decide +kernel) rfl
theorem kp6_21 : Cond.fieldLink RX6 21 RX6 (TX6 3).2.1 (TX6 3).2.2.1 ∈ rr_ws := in_rr 450 (by decide +kernel) rfl
theorem kp9_7 : Cond.fieldLink RX9 7 RX9 (TX9 0).2.1 (TX9 0).2.2.1 ∈ rr_ws := in_rr 693 (by decide +kernel) rfl
theorem kp9_13 : Cond.fieldLink RX9 13 RX9 (TX9 1).2.1 (TX9 1).2.2.1 ∈ rr_ws := in_rr 695 (by decide +kernel) rfl
theorem kp9_16 : Cond.fieldLink RX9 16 RX9 (TX9 2).2.1 (TX9 2).2.2.1 ∈ rr_ws := in_rr 697 (by decide +kernel) rfl
theorem kp9_19 : Cond.fieldLink RX9 19 RX9 (TX9 3).2.1 (TX9 3).2.2.1 ∈ rr_ws := in_rr 699 (by decide +kernel) rfl
theorem kp9_22 : Cond.fieldLink RX9 22 RX9 (TX9 4).2.1 (TX9 4).2.2.1 ∈ rr_ws := in_rr 701 (by decide +kernel) rfl
set_option maxRecDepth 20000 in
theorem tX6_init {l : Launch} {G : rr_G} (P S : rr_T) (a b c e : Int32) : TT l G mX6_init 1 20 fxA rvN (fun q => xwt P S 6 [.int a, .int b, .int c, .int q]) z0 z0 0 0 [.ref 56, .int a, .int b, .int c, .int e] (xwt P S 6 [.int 0, .int 0, .int 0, .int 0]) (fRi a c e) := by
  refine TT.by (by decide) (Nat.le_of_ble_eq_true rfl) (lv := [(0, .ref 56), (1, .int a), (2, .int b), (3, .int c), (4, .int e)]) rfl ?_
  unfold fRi
  refine rr_aload_n dX6_init_0 rfl 0 rfl ?_
  refine rr_objI oi6_3 (Nat.le_of_ble_eq_true rfl) (Nat.le_of_ble_eq_true rfl) dX6_init_1 ?_
  refine rr_aload_n dX6_init_4 rfl 0 rfl ?_
  refine rr_iload_n dX6_init_5 rfl 1 rfl ?_
  refine rr_putF (N := 4) cl6 kp6_9 (Nat.le_of_ble_eq_true rfl) rfl rfl rfl rfl rfl rfl (Nat.le_of_ble_eq_true rfl) dX6_init_6 (h' := xwt P S 6 [.int a, .int 0, .int 0, .int 0]) rfl ?_
  refine rr_aload_n dX6_init_9 rfl 0 rfl ?_
  refine rr_iload_n dX6_init_10 rfl 2 rfl ?_
  refine rr_putF (N := 4) cl6 kp6_15 (Nat.le_of_ble_eq_true rfl) rfl rfl rfl rfl rfl rfl (Nat.le_of_ble_eq_true rfl) dX6_init_11 (h' := xwt P S 6 [.int a, .int b, .int 0, .int 0]) rfl ?_
  refine rr_aload_n dX6_init_14 rfl 0 rfl ?_
  refine rr_iload_n dX6_init_15 rfl 3 rfl ?_
  refine rr_putF (N := 4) cl6 kp6_18 (Nat.le_of_ble_eq_true rfl) rfl rfl rfl rfl rfl rfl (Nat.le_of_ble_eq_true rfl) dX6_init_16 (h' := xwt P S 6 [.int a, .int b, .int c, .int 0]) rfl ?_
  refine rr_aload_n dX6_init_19 rfl 0 rfl ?_
  refine rr_iload dX6_init_20 4 rfl ?_
  refine rr_iload_n dX6_init_22 rfl 3 rfl ?_
  refine rr_icmp_ne (tgt := 40) dX6_init_23 (by decide) (fun _ => ?_) (fun _ => ?_)
  · refine rr_iload dX6_init_40 4 rfl ?_
    refine rr_putF (N := 4) cl6 kp6_21 (Nat.le_of_ble_eq_true rfl) rfl rfl rfl rfl rfl rfl (Nat.le_of_ble_eq_true rfl) dX6_init_42 (h' := xwt P S 6 [.int a, .int b, .int c, .int e]) rfl ?_
    exact rr_vret dX6_init_45 rfl rfl rfl rfl rfl
  · refine rr_iload_n dX6_init_26 rfl 1 rfl ?_
    refine rr_iconst (v := 1) dX6_init_27 (by decide) ?_
    refine rr_icmp_eq (tgt := 36) dX6_init_28 (by decide) (fun _ => ?_) (fun _ => ?_)
    · refine rr_iconst (v := (-1)) dX6_init_36 (by decide) ?_
      refine rr_goto (tgt := 42) dX6_init_37 (by decide) ?_
      refine rr_putF (N := 4) cl6 kp6_21 (Nat.le_of_ble_eq_true rfl) rfl rfl rfl rfl rfl rfl (Nat.le_of_ble_eq_true rfl) dX6_init_42 (h' := xwt P S 6 [.int a, .int b, .int c, .int (-1)]) rfl ?_
      exact rr_vret dX6_init_45 rfl rfl rfl rfl rfl
    · refine rr_iload_n dX6_init_31 rfl 1 rfl ?_
      refine rr_iconst (v := 2) dX6_init_32 (by decide) ?_
      refine rr_icmp_ne (tgt := 40) dX6_init_33 (by decide) (fun _ => ?_) (fun _ => ?_)
      · refine rr_iload dX6_init_40 4 rfl ?_
        refine rr_putF (N := 4) cl6 kp6_21 (Nat.le_of_ble_eq_true rfl) rfl rfl rfl rfl rfl rfl (Nat.le_of_ble_eq_true rfl) dX6_init_42 (h' := xwt P S 6 [.int a, .int b, .int c, .int e]) rfl ?_
        exact rr_vret dX6_init_45 rfl rfl rfl rfl rfl
      · refine rr_iconst (v := (-1)) dX6_init_36 (by decide) ?_
        refine rr_goto (tgt := 42) dX6_init_37 (by decide) ?_
        refine rr_putF (N := 4) cl6 kp6_21 (Nat.le_of_ble_eq_true rfl) rfl rfl rfl rfl rfl rfl (Nat.le_of_ble_eq_true rfl) dX6_init_42 (h' := xwt P S 6 [.int a, .int b, .int c, .int (-1)]) rfl ?_
        exact rr_vret dX6_init_45 rfl rfl rfl rfl rfl
set_option maxRecDepth 20000 in
theorem tX9_init {l : Launch} {G : rr_G} (P S : rr_T) (a b c n m : Int32) : TT l G mX9_init 1 20 fxA rvN (fun _ => xwt P S 9 [.int a, .int b, .int c, .int n, .int m]) z0 z0 0 0 [.ref 56, .int a, .int b, .int c, .int n, .int m] (xwt P S 9 [.int 0, .int 0, .int 0, .int 0, .int 0]) (some ()) := by
  refine TT.by (by decide) (Nat.le_of_ble_eq_true rfl) (lv := [(0, .ref 56), (1, .int a), (2, .int b), (3, .int c), (4, .int n), (5, .int m)]) rfl ?_
  refine rr_aload_n dX9_init_0 rfl 0 rfl ?_
  refine rr_objI oi9_1 (Nat.le_of_ble_eq_true rfl) (Nat.le_of_ble_eq_true rfl) dX9_init_1 ?_
  refine rr_aload_n dX9_init_4 rfl 0 rfl ?_
  refine rr_iload_n dX9_init_5 rfl 1 rfl ?_
  refine rr_putF (N := 5) cl9 kp9_7 (Nat.le_of_ble_eq_true rfl) rfl rfl rfl rfl rfl rfl (Nat.le_of_ble_eq_true rfl) dX9_init_6 (h' := xwt P S 9 [.int a, .int 0, .int 0, .int 0, .int 0]) rfl ?_
  refine rr_aload_n dX9_init_9 rfl 0 rfl ?_
  refine rr_iload_n dX9_init_10 rfl 2 rfl ?_
  refine rr_putF (N := 5) cl9 kp9_13 (Nat.le_of_ble_eq_true rfl) rfl rfl rfl rfl rfl rfl (Nat.le_of_ble_eq_true rfl) dX9_init_11 (h' := xwt P S 9 [.int a, .int b, .int 0, .int 0, .int 0]) rfl ?_
  refine rr_aload_n dX9_init_14 rfl 0 rfl ?_
  refine rr_iload_n dX9_init_15 rfl 3 rfl ?_
  refine rr_putF (N := 5) cl9 kp9_16 (Nat.le_of_ble_eq_true rfl) rfl rfl rfl rfl rfl rfl (Nat.le_of_ble_eq_true rfl) dX9_init_16 (h' := xwt P S 9 [.int a, .int b, .int c, .int 0, .int 0]) rfl ?_
  refine rr_aload_n dX9_init_19 rfl 0 rfl ?_
  refine rr_iload dX9_init_20 4 rfl ?_
  refine rr_putF (N := 5) cl9 kp9_19 (Nat.le_of_ble_eq_true rfl) rfl rfl rfl rfl rfl rfl (Nat.le_of_ble_eq_true rfl) dX9_init_22 (h' := xwt P S 9 [.int a, .int b, .int c, .int n, .int 0]) rfl ?_
  refine rr_aload_n dX9_init_25 rfl 0 rfl ?_
  refine rr_iload dX9_init_26 5 rfl ?_
  refine rr_putF (N := 5) cl9 kp9_22 (Nat.le_of_ble_eq_true rfl) rfl rfl rfl rfl rfl rfl (Nat.le_of_ble_eq_true rfl) dX9_init_28 (h' := xwt P S 9 [.int a, .int b, .int c, .int n, .int m]) rfl ?_
  exact rr_vret dX9_init_31 rfl rfl rfl rfl rfl
theorem x_drop {σ : Type} {l : Launch} {G : rr_G} {mt : rr_M} {d lo : Nat} {fx : Nat → Bool} {rv : σ → Option Value} {w : σ → rr_H} {U V : σ → Nat} {uu vv pc : Nat} {lv : List (Nat × Value)} {st : List Value} {o : Option σ} {P S : rr_T} {x : va_E} (kk : RR l G mt d lo fx rv w U V uu vv pc lv st (xw P S) o) : RR l G mt d lo fx rv w U V uu vv pc lv st ((xw P S).set 56 (some x)) o :=
  rr_view (h' := xw P S) (fun k => k) (fun n c' hc => ⟨c', by
    have h56 : n ≠ 56 := fun z => by rw [z] at hc; cases Option.some.inj hc
    rw [List.getElem?_set_ne (fun q => h56 q.symm)]; exact hc, fun _ _ => rfl⟩) (fun _ _ _ _ _ _ e => e) (fun _ _ => rfl) (List.all_eq_true.mpr (fun q _ => by cases q.2 <;> simp [rr_pf])) (List.all_eq_true.mpr (fun v _ => by cases v <;> simp [rr_pf])) kk
def fX7_add (P S : rr_T) (fs : Nat → Int32) : Option (Int32 × rr_T × rr_T) := if S.1 97 < 6 then (if (inb (S.1 97) 6 && decide ((S.1 97).toNatClampNeg ≤ P.2.2.2 34)) = true then some ((S.1 97 + 1) - 1, xPr P 34 (S.1 97).toNatClampNeg fs, pI S 97 (S.1 97 + 1)) else none) else some (-104, P, S)
set_option maxRecDepth 20000 in
theorem tX7_add {l : Launch} {G : rr_G} (P S : rr_T) (fs : Nat → Int32) : TT l G mX7_add 0 0 fxX rvA (fun q => xw q.2.1 q.2.2) z0 z0 0 0 [.ref 6, .ref 56] (xwt P S 6 [.int (fs 0), .int (fs 1), .int (fs 2), .int (fs 3)]) (fX7_add P S fs) := by
  refine TT.by (by decide) (Nat.le_of_ble_eq_true rfl) (lv := [(0, .ref 6), (1, .ref 56)]) rfl ?_
  unfold fX7_add
  refine rr_aload_n dX7_add_0 rfl 0 rfl ?_
  refine rr_get (v := .int (S.1 97)) cl7 k7_17 (Nat.le_of_ble_eq_true rfl) rfl rfl dX7_add_1 ?_
  refine rr_bipush (v := 6) dX7_add_4 (by decide) ?_
  refine rr_icmp_lt (tgt := 12) dX7_add_6 (by decide) (fun _ => ?_) (fun _ => ?_)
  · refine rr_if (fun z => ?_)
    obtain ⟨z1, z2⟩ := (Bool.and_eq_true _ _).mp z
    have z2 := of_decide_eq_true z2
    have z1 := inb_in z1
    refine rr_aload_n dX7_add_12 rfl 0 rfl ?_
    refine rr_get (v := .ref 7) cl7 k7_11 (Nat.le_of_ble_eq_true rfl) rfl rfl dX7_add_13 ?_
    refine rr_aload_n dX7_add_16 rfl 0 rfl ?_
    refine rr_get (v := .int (S.1 97)) cl7 k7_17 (Nat.le_of_ble_eq_true rfl) rfl rfl dX7_add_17 ?_
    refine rr_aload_n dX7_add_20 rfl 1 rfl ?_
    refine rr_aast (n := 7) (x := 56) (t := 4) (ci := 6) (r := (RX6, TX6, 4)) (fun _ => rfl) rfl rfl rfl z1 dX7_add_21 rfl ?_
    refine rr_aload_n dX7_add_22 rfl 0 rfl ?_
    refine rr_dup dX7_add_23 rfl ?_
    refine rr_get (v := .int (S.1 97)) cl7 k7_17 (Nat.le_of_ble_eq_true rfl) rfl rfl dX7_add_24 ?_
    refine rr_iconst (v := 1) dX7_add_27 (by decide) ?_
    refine rr_iadd dX7_add_28 ?_
    refine rr_put cl7 k7_17 (Nat.le_of_ble_eq_true rfl) rfl rfl rfl rfl (Nat.le_of_ble_eq_true rfl) dX7_add_29 (h' := ((xw P (pI S 97 (S.1 97 + 1))).set 56 (some (.inr (6, [.int (fs 0), .int (fs 1), .int (fs 2), .int (fs 3)])))).set 7 (some (.inl (4, 6, .inr (.inr (.inr (.inr (va_up (xRl P) (S.1 97).toNatClampNeg (some 56))))))))) rfl ?_
    refine rr_aload_n dX7_add_32 rfl 0 rfl ?_
    refine rr_get (v := .int (S.1 97 + 1)) cl7 k7_17 (Nat.le_of_ble_eq_true rfl) rfl rfl dX7_add_33 ?_
    refine rr_iconst (v := 1) dX7_add_36 (by decide) ?_
    refine rr_isub dX7_add_37 ?_
    refine rr_sub (lv' := []) [] rfl ?_
    refine rr_view (h' := xw (xPr P 34 (S.1 97).toNatClampNeg fs) (pI S 97 (S.1 97 + 1))) (xq (34 + (S.1 97).toNatClampNeg)) (xvaR (x_lt z1) z2) (xq_inj rfl) (fun n hn => if_neg (by have := of_decide_eq_true hn; omega)) rfl rfl ?_
    exact rr_iret dX7_add_38 rfl rfl rfl rfl rfl
  · refine rr_bipush (v := (-104)) dX7_add_9 (by decide) ?_
    refine x_drop ?_
    exact rr_iret dX7_add_11 rfl rfl rfl rfl rfl
def fX4_add (P S : rr_T) (fs : Nat → Int32) : Option (Int32 × rr_T × rr_T) := if S.1 129 < 16 then (if (inb (S.1 129) 16 && decide ((S.1 129).toNatClampNeg ≤ P.2.2.2 40)) = true then some ((S.1 129 + 1) - 1, xPr P 40 (S.1 129).toNatClampNeg fs, pI S 129 (S.1 129 + 1)) else none) else some (-104, P, S)
set_option maxRecDepth 20000 in
theorem tX4_add {l : Launch} {G : rr_G} (P S : rr_T) (fs : Nat → Int32) : TT l G mX4_add 0 0 fxX rvA (fun q => xw q.2.1 q.2.2) z0 z0 0 0 [.ref 8, .ref 56] (xwt P S 9 [.int (fs 0), .int (fs 1), .int (fs 2), .int (fs 3), .int (fs 4)]) (fX4_add P S fs) := by
  refine TT.by (by decide) (Nat.le_of_ble_eq_true rfl) (lv := [(0, .ref 8), (1, .ref 56)]) rfl ?_
  unfold fX4_add
  refine rr_aload_n dX4_add_0 rfl 0 rfl ?_
  refine rr_get (v := .int (S.1 129)) cl4 k4_17 (Nat.le_of_ble_eq_true rfl) rfl rfl dX4_add_1 ?_
  refine rr_bipush (v := 16) dX4_add_4 (by decide) ?_
  refine rr_icmp_lt (tgt := 12) dX4_add_6 (by decide) (fun _ => ?_) (fun _ => ?_)
  · refine rr_if (fun z => ?_)
    obtain ⟨z1, z2⟩ := (Bool.and_eq_true _ _).mp z
    have z2 := of_decide_eq_true z2
    have z1 := inb_in z1
    refine rr_aload_n dX4_add_12 rfl 0 rfl ?_
    refine rr_get (v := .ref 9) cl4 k4_11 (Nat.le_of_ble_eq_true rfl) rfl rfl dX4_add_13 ?_
    refine rr_aload_n dX4_add_16 rfl 0 rfl ?_
    refine rr_get (v := .int (S.1 129)) cl4 k4_17 (Nat.le_of_ble_eq_true rfl) rfl rfl dX4_add_17 ?_
    refine rr_aload_n dX4_add_20 rfl 1 rfl ?_
    refine rr_aast (n := 9) (x := 56) (t := 5) (ci := 9) (r := (RX9, TX9, 5)) (fun _ => rfl) rfl rfl rfl z1 dX4_add_21 rfl ?_
    refine rr_aload_n dX4_add_22 rfl 0 rfl ?_
    refine rr_dup dX4_add_23 rfl ?_
    refine rr_get (v := .int (S.1 129)) cl4 k4_17 (Nat.le_of_ble_eq_true rfl) rfl rfl dX4_add_24 ?_
    refine rr_iconst (v := 1) dX4_add_27 (by decide) ?_
    refine rr_iadd dX4_add_28 ?_
    refine rr_put cl4 k4_17 (Nat.le_of_ble_eq_true rfl) rfl rfl rfl rfl (Nat.le_of_ble_eq_true rfl) dX4_add_29 (h' := ((xw P (pI S 129 (S.1 129 + 1))).set 56 (some (.inr (9, [.int (fs 0), .int (fs 1), .int (fs 2), .int (fs 3), .int (fs 4)])))).set 9 (some (.inl (5, 16, .inr (.inr (.inr (.inr (va_up (xSl P) (S.1 129).toNatClampNeg (some 56))))))))) rfl ?_
    refine rr_aload_n dX4_add_32 rfl 0 rfl ?_
    refine rr_get (v := .int (S.1 129 + 1)) cl4 k4_17 (Nat.le_of_ble_eq_true rfl) rfl rfl dX4_add_33 ?_
    refine rr_iconst (v := 1) dX4_add_36 (by decide) ?_
    refine rr_isub dX4_add_37 ?_
    refine rr_sub (lv' := []) [] rfl ?_
    refine rr_view (h' := xw (xPr P 40 (S.1 129).toNatClampNeg fs) (pI S 129 (S.1 129 + 1))) (xq (40 + (S.1 129).toNatClampNeg)) (xvaS (x_lt z1) z2) (xq_inj rfl) (fun n hn => if_neg (by have := of_decide_eq_true hn; omega)) rfl rfl ?_
    exact rr_iret dX4_add_38 rfl rfl rfl rfl rfl
  · refine rr_bipush (v := (-104)) dX4_add_9 (by decide) ?_
    refine x_drop ?_
    exact rr_iret dX4_add_11 rfl rfl rfl rfl rfl
