/-! ===== the class's methods: holdFrom, isKeptNumber, loadKept, choiceAt, isMet, put, empty, loadUnsure, compare, find_18, keptNumber, isVariable, drop, erase, fill_22, fill_23, begin, stepAt, note, asked ===== -/
def LX7_holdFrom_6 (P : rr_T) (S : rr_T) (rec6 : Int32 → Option Int32) (a2 : Int32) : Option Int32 :=
  if (S.1 97) ≤ a2 then
  some 1
else
  if inb a2 6 then
    if a2.toNatClampNeg < P.2.2.2 34 then
      (fX6_holdsIn P S ((34 + a2.toNatClampNeg))).bind (fun r3 =>
        if r3 = 0 then
        some 0
      else
        rec6 ((a2 + 1)))
    else
      rec6 ((a2 + 1))
  else none
set_option maxRecDepth 20000 in
theorem tX7_holdFrom_6 {l : Launch} {G : rr_G} (P : rr_T) (S : rr_T) : ∀ (n : Nat) (a : Int32), RR l G mX7_holdFrom 4 93 fxA rvI (fun _ => xw P S) z0 z0 0 0 6 [(0, .ref 6), (2, .ref 10), (3, .int a)] [] (xw P S) (rr_loop n (LX7_holdFrom_6 P S) a) := by
  refine rr_lp (α := Int32) 6 (fun a => [(0, .ref 6), (2, .ref 10), (3, .int a)]) (fun a => (xw P S)) (fun rec6 hrec6 a2 => ?_)
  show RR l G mX7_holdFrom 4 93 fxA rvI (fun _ => xw P S) z0 z0 0 0 6 [(0, .ref 6), (2, .ref 10), (3, .int a2)] [] (xw P S) (LX7_holdFrom_6 P S rec6 a2)
  unfold LX7_holdFrom_6
  refine rr_iload_n dX7_holdFrom_6 rfl 2 rfl ?_
  refine rr_aload_n dX7_holdFrom_7 rfl 0 rfl ?_
  refine rr_get (v := .int (S.1 97)) cl7 k7_17 (Nat.le_of_ble_eq_true rfl) rfl rfl dX7_holdFrom_8 ?_
  refine rr_icmp_ge (tgt := 44) dX7_holdFrom_11 (by decide) (fun _ => ?_) (fun _ => ?_)
  · refine rr_iconst (v := 1) dX7_holdFrom_44 (by decide) ?_
    exact rr_zret dX7_holdFrom_45 rfl (by decide) rfl rfl rfl rfl
  · refine rr_aload_n dX7_holdFrom_14 rfl 0 rfl ?_
    refine rr_get (v := .ref 7) cl7 k7_11 (Nat.le_of_ble_eq_true rfl) rfl rfl dX7_holdFrom_15 ?_
    refine rr_iload_n dX7_holdFrom_18 rfl 2 rfl ?_
    refine rr_if (fun za => ?_)
    refine rr_ite (fun ya => ?_) (fun ya => ?_)
    · refine rr_aald (x := (34 + a2.toNatClampNeg)) (Or.inl rfl) rfl (inb_in za) (if_pos ⟨ya, x_lt (inb_in za)⟩) dX7_holdFrom_19 ?_
      refine rr_astore (lv' := [(4, .ref (34 + a2.toNatClampNeg)), (0, .ref 6), (2, .ref 10), (3, .int a2)]) dX7_holdFrom_20 (by decide) rfl ?_
      refine rr_aload dX7_holdFrom_22 0 rfl ?_
      refine rr_ifnull dX7_holdFrom_24 ?_
      refine rr_aload dX7_holdFrom_27 0 rfl ?_
      refine rr_aload_n dX7_holdFrom_29 rfl 2 rfl ?_
      refine rr_vi (As := [.ref 10]) (rest := []) (tX6_holdsIn P S ((34 + a2.toNatClampNeg))) v7_27 (xR_at (xR_g ya (inb_in za))) rfl ⟨Nat.le_of_ble_eq_true rfl, Nat.le_of_ble_eq_true rfl⟩ rfl rfl (Nat.le_of_ble_eq_true rfl) rfl dX7_holdFrom_30 (fun r3 => ?_)
      refine rr_if_ne (tgt := 38) dX7_holdFrom_33 (by decide) (fun _ => ?_) (fun _ => ?_)
      · refine rr_iinc (lv' := [(3, .int (a2 + 1)), (4, .ref (34 + a2.toNatClampNeg)), (0, .ref 6), (2, .ref 10)]) dX7_holdFrom_38 3 rfl (by decide) rfl ?_
        refine rr_goto (tgt := 6) dX7_holdFrom_41 (by decide) ?_
        refine rr_sub [2, 3, 0] rfl ?_
        exact hrec6 ((a2 + 1))
      · refine rr_iconst (v := 0) dX7_holdFrom_36 (by decide) ?_
        exact rr_zret dX7_holdFrom_37 rfl (by decide) rfl rfl rfl rfl
    · refine rr_aaldN (Or.inl rfl) rfl (inb_in za) (if_neg (fun q => ya q.1)) dX7_holdFrom_19 ?_
      refine rr_astoreN (lv' := [(4, .null), (0, .ref 6), (2, .ref 10), (3, .int a2)]) dX7_holdFrom_20 (by decide) rfl ?_
      refine rr_aloadN dX7_holdFrom_22 0 rfl ?_
      refine rr_ifnullN (tgt := 38) dX7_holdFrom_24 (by decide) ?_
      refine rr_iinc (lv' := [(3, .int (a2 + 1)), (4, .null), (0, .ref 6), (2, .ref 10)]) dX7_holdFrom_38 3 rfl (by decide) rfl ?_
      refine rr_goto (tgt := 6) dX7_holdFrom_41 (by decide) ?_
      refine rr_sub [2, 3, 0] rfl ?_
      exact hrec6 ((a2 + 1))
def fX7_holdFrom (P : rr_T) (S : rr_T) (x1 : Int32) : Option Int32 :=
  rr_l ((jMax x1 0)) (fun v1 =>
  rr_loop FU (LX7_holdFrom_6 P S) v1)
set_option maxRecDepth 20000 in
theorem tX7_holdFrom {l : Launch} {G : rr_G} (P : rr_T) (S : rr_T) (x1 : Int32) : TT l G mX7_holdFrom 4 93 fxA rvI (fun _ => xw P S) z0 z0 0 0 [.ref 6, .int x1, .ref 10] (xw P S) (fX7_holdFrom P S x1) := by
  refine TT.by (by decide) (Nat.le_of_ble_eq_true rfl) (lv := [(0, .ref 6), (1, .int x1), (2, .ref 10)]) rfl ?_
  show RR l G mX7_holdFrom 4 93 fxA rvI (fun _ => xw P S) z0 z0 0 0 0 [(0, .ref 6), (1, .int x1), (2, .ref 10)] [] (xw P S) (fX7_holdFrom P S x1)
  unfold fX7_holdFrom
  refine rr_iload_n dX7_holdFrom_0 rfl 1 rfl ?_
  refine rr_iconst (v := 0) dX7_holdFrom_1 (by decide) ?_
  refine rr_mmax mk7_21 (Nat.le_of_ble_eq_true rfl) (Nat.le_of_ble_eq_true rfl) dX7_holdFrom_2 ?_
  refine rr_letI (fun v1 => ?_)
  refine rr_istore_n (lv' := [(3, .int v1), (0, .ref 6), (1, .int x1), (2, .ref 10)]) dX7_holdFrom_5 rfl (by decide) rfl ?_
  refine rr_sub [1, 3, 0] rfl ?_
  exact tX7_holdFrom_6 P S FU v1
def fX0_isKeptNumber (P : rr_T) (S : rr_T) (x1 : Int32) : Option Int32 :=
  if x1 < 0 then
  some 0
else
  if (S.1 277) ≤ x1 then
    some 0
  else
    some 1
set_option maxRecDepth 20000 in
theorem tX0_isKeptNumber {l : Launch} {G : rr_G} (P : rr_T) (S : rr_T) (x1 : Int32) : TT l G mX0_isKeptNumber 0 0 fxA rvI (fun _ => xw P S) z0 z0 0 0 [.ref 17, .int x1] (xw P S) (fX0_isKeptNumber P S x1) := by
  refine TT.by (by decide) (Nat.le_of_ble_eq_true rfl) (lv := [(0, .ref 17), (1, .int x1)]) rfl ?_
  show RR l G mX0_isKeptNumber 0 0 fxA rvI (fun _ => xw P S) z0 z0 0 0 0 [(0, .ref 17), (1, .int x1)] [] (xw P S) (fX0_isKeptNumber P S x1)
  unfold fX0_isKeptNumber
  refine rr_iload_n dX0_isKeptNumber_0 rfl 1 rfl ?_
  refine rr_if_lt (tgt := 16) dX0_isKeptNumber_1 (by decide) (fun _ => ?_) (fun _ => ?_)
  · refine rr_iconst (v := 0) dX0_isKeptNumber_16 (by decide) ?_
    exact rr_zret dX0_isKeptNumber_17 rfl (by decide) rfl rfl rfl rfl
  · refine rr_iload_n dX0_isKeptNumber_4 rfl 1 rfl ?_
    refine rr_aload_n dX0_isKeptNumber_5 rfl 0 rfl ?_
    refine rr_get (v := .int (S.1 277)) cl0 k0_26 (Nat.le_of_ble_eq_true rfl) rfl rfl dX0_isKeptNumber_6 ?_
    refine rr_icmp_ge (tgt := 16) dX0_isKeptNumber_9 (by decide) (fun _ => ?_) (fun _ => ?_)
    · refine rr_iconst (v := 0) dX0_isKeptNumber_16 (by decide) ?_
      exact rr_zret dX0_isKeptNumber_17 rfl (by decide) rfl rfl rfl rfl
    · refine rr_iconst (v := 1) dX0_isKeptNumber_12 (by decide) ?_
      refine rr_goto (tgt := 17) dX0_isKeptNumber_13 (by decide) ?_
      exact rr_zret dX0_isKeptNumber_17 rfl (by decide) rfl rfl rfl rfl
def fX0_loadKept (P : rr_T) (S : rr_T) (x1 : Int32) : Option (Int32 × rr_T) :=
  (fX0_isKeptNumber P S x1).bind (fun r1 =>
  if r1 = 0 then
  some ((0, S))
else
  if inb x1 (S.2.2.2 20) then
    (fX2_load P S ((S.2.1 20 x1.toNatClampNeg))).bind (fun S2 =>
      some ((1, S2)))
  else none)
set_option maxRecDepth 20000 in
theorem tX0_loadKept {l : Launch} {G : rr_G} (P : rr_T) (S : rr_T) (x1 : Int32) : TT l G mX0_loadKept 4 91 fxA rvIS (fun q => xw P q.2) z0 z0 0 0 [.ref 17, .int x1] (xw P S) (fX0_loadKept P S x1) := by
  refine TT.by (by decide) (Nat.le_of_ble_eq_true rfl) (lv := [(0, .ref 17), (1, .int x1)]) rfl ?_
  show RR l G mX0_loadKept 4 91 fxA rvIS (fun q => xw P q.2) z0 z0 0 0 0 [(0, .ref 17), (1, .int x1)] [] (xw P S) (fX0_loadKept P S x1)
  unfold fX0_loadKept
  refine rr_aload_n dX0_loadKept_0 rfl 0 rfl ?_
  refine rr_iload_n dX0_loadKept_1 rfl 1 rfl ?_
  refine rr_vi (As := [.int x1]) (rest := []) (tX0_isKeptNumber P S x1) v0_90 rfl rfl ⟨Nat.le_of_ble_eq_true rfl, Nat.le_of_ble_eq_true rfl⟩ rfl rfl (Nat.le_of_ble_eq_true rfl) rfl dX0_loadKept_2 (fun r1 => ?_)
  refine rr_if_ne (tgt := 10) dX0_loadKept_5 (by decide) (fun _ => ?_) (fun _ => ?_)
  · refine rr_aload_n dX0_loadKept_10 rfl 0 rfl ?_
    refine rr_get (v := .ref 10) cl0 k0_33 (Nat.le_of_ble_eq_true rfl) rfl rfl dX0_loadKept_11 ?_
    refine rr_aload_n dX0_loadKept_14 rfl 0 rfl ?_
    refine rr_get (v := .ref 18) cl0 k0_12 (Nat.le_of_ble_eq_true rfl) rfl rfl dX0_loadKept_15 ?_
    refine rr_aload_n dX0_loadKept_18 rfl 0 rfl ?_
    refine rr_get (v := .ref 20) cl0 k0_22 (Nat.le_of_ble_eq_true rfl) rfl rfl dX0_loadKept_19 ?_
    refine rr_iload_n dX0_loadKept_22 rfl 1 rfl ?_
    refine rr_if (fun z => ?_)
    refine rr_iald (len := (S.2.2.2 20)) rfl (inb_in z) dX0_loadKept_23 ?_
    refine rr_vs (W := xw P) (As := [.ref 18, .int (S.2.1 20 x1.toNatClampNeg)]) (rest := []) (tX2_load P S ((S.2.1 20 x1.toNatClampNeg))) v0_82 rfl rfl ⟨Nat.le_of_ble_eq_true rfl, Nat.le_of_ble_eq_true rfl⟩ (fun _ _ => rfl) rfl rfl (Nat.le_of_ble_eq_true rfl) rfl dX0_loadKept_24 (fun S2 => ?_)
    refine rr_iconst (v := 1) dX0_loadKept_27 (by decide) ?_
    exact rr_zret dX0_loadKept_28 rfl (by decide) rfl rfl rfl rfl
  · refine rr_iconst (v := 0) dX0_loadKept_8 (by decide) ?_
    exact rr_zret dX0_loadKept_9 rfl (by decide) rfl rfl rfl rfl
def fX2_choiceAt (P : rr_T) (S : rr_T) (x1 : Int32) : Option Int32 :=
  if x1 < 0 then
  some (-1)
else
  if (S.1 167) ≤ x1 then
    some (-1)
  else
    if inb x1 22 then
      some ((S.2.1 13 x1.toNatClampNeg))
    else none
set_option maxRecDepth 20000 in
theorem tX2_choiceAt {l : Launch} {G : rr_G} (P : rr_T) (S : rr_T) (x1 : Int32) : TT l G mX2_choiceAt 0 0 fxA rvI (fun _ => xw P S) z0 z0 0 0 [.ref 10, .int x1] (xw P S) (fX2_choiceAt P S x1) := by
  refine TT.by (by decide) (Nat.le_of_ble_eq_true rfl) (lv := [(0, .ref 10), (1, .int x1)]) rfl ?_
  show RR l G mX2_choiceAt 0 0 fxA rvI (fun _ => xw P S) z0 z0 0 0 0 [(0, .ref 10), (1, .int x1)] [] (xw P S) (fX2_choiceAt P S x1)
  unfold fX2_choiceAt
  refine rr_iload_n dX2_choiceAt_0 rfl 1 rfl ?_
  refine rr_if_lt (tgt := 21) dX2_choiceAt_1 (by decide) (fun _ => ?_) (fun _ => ?_)
  · refine rr_iconst (v := (-1)) dX2_choiceAt_21 (by decide) ?_
    exact rr_iret dX2_choiceAt_22 rfl rfl rfl rfl rfl
  · refine rr_iload_n dX2_choiceAt_4 rfl 1 rfl ?_
    refine rr_aload_n dX2_choiceAt_5 rfl 0 rfl ?_
    refine rr_get (v := .int (S.1 167)) cl2 k2_30 (Nat.le_of_ble_eq_true rfl) rfl rfl dX2_choiceAt_6 ?_
    refine rr_icmp_ge (tgt := 21) dX2_choiceAt_9 (by decide) (fun _ => ?_) (fun _ => ?_)
    · refine rr_iconst (v := (-1)) dX2_choiceAt_21 (by decide) ?_
      exact rr_iret dX2_choiceAt_22 rfl rfl rfl rfl rfl
    · refine rr_aload_n dX2_choiceAt_12 rfl 0 rfl ?_
      refine rr_get (v := .ref 13) cl2 k2_18 (Nat.le_of_ble_eq_true rfl) rfl rfl dX2_choiceAt_13 ?_
      refine rr_iload_n dX2_choiceAt_16 rfl 1 rfl ?_
      refine rr_if (fun z => ?_)
      refine rr_iald (len := 22) rfl (inb_in z) dX2_choiceAt_17 ?_
      refine rr_goto (tgt := 22) dX2_choiceAt_18 (by decide) ?_
      exact rr_iret dX2_choiceAt_22 rfl rfl rfl rfl rfl
def fX2_isMet (P : rr_T) (S : rr_T) (x1 : Int32) : Option Int32 :=
  if x1 < 0 then
  some 0
else
  if (S.1 168) ≤ x1 then
    some 0
  else
    some 1
set_option maxRecDepth 20000 in
theorem tX2_isMet {l : Launch} {G : rr_G} (P : rr_T) (S : rr_T) (x1 : Int32) : TT l G mX2_isMet 0 0 fxA rvI (fun _ => xw P S) z0 z0 0 0 [.ref 10, .int x1] (xw P S) (fX2_isMet P S x1) := by
  refine TT.by (by decide) (Nat.le_of_ble_eq_true rfl) (lv := [(0, .ref 10), (1, .int x1)]) rfl ?_
  show RR l G mX2_isMet 0 0 fxA rvI (fun _ => xw P S) z0 z0 0 0 0 [(0, .ref 10), (1, .int x1)] [] (xw P S) (fX2_isMet P S x1)
  unfold fX2_isMet
  refine rr_iload_n dX2_isMet_0 rfl 1 rfl ?_
  refine rr_if_lt (tgt := 16) dX2_isMet_1 (by decide) (fun _ => ?_) (fun _ => ?_)
  · refine rr_iconst (v := 0) dX2_isMet_16 (by decide) ?_
    exact rr_zret dX2_isMet_17 rfl (by decide) rfl rfl rfl rfl
  · refine rr_iload_n dX2_isMet_4 rfl 1 rfl ?_
    refine rr_aload_n dX2_isMet_5 rfl 0 rfl ?_
    refine rr_get (v := .int (S.1 168)) cl2 k2_34 (Nat.le_of_ble_eq_true rfl) rfl rfl dX2_isMet_6 ?_
    refine rr_icmp_ge (tgt := 16) dX2_isMet_9 (by decide) (fun _ => ?_) (fun _ => ?_)
    · refine rr_iconst (v := 0) dX2_isMet_16 (by decide) ?_
      exact rr_zret dX2_isMet_17 rfl (by decide) rfl rfl rfl rfl
    · refine rr_iconst (v := 1) dX2_isMet_12 (by decide) ?_
      refine rr_goto (tgt := 17) dX2_isMet_13 (by decide) ?_
      exact rr_zret dX2_isMet_17 rfl (by decide) rfl rfl rfl rfl
def fX10_put (P : rr_T) (S : rr_T) (x1 : Int32) : Option (Int32 × rr_T) :=
  if (S.1 8) < 40 then
  if inb (S.1 8) 40 then
    rr_l (pA S 33 ((S.1 8)) x1) (fun S1 =>
      rr_l (pI S1 8 (((S1.1 8) + 1))) (fun S2 =>
      some (((S2.1 8), S2))))
  else none
else
  some (((-104), S))
set_option maxRecDepth 20000 in
theorem tX10_put {l : Launch} {G : rr_G} (P : rr_T) (S : rr_T) (x1 : Int32) : TT l G mX10_put 0 0 fxA rvIS (fun q => xw P q.2) z0 z0 0 0 [.ref 0, .int x1] (xw P S) (fX10_put P S x1) := by
  refine TT.by (by decide) (Nat.le_of_ble_eq_true rfl) (lv := [(0, .ref 0), (1, .int x1)]) rfl ?_
  show RR l G mX10_put 0 0 fxA rvIS (fun q => xw P q.2) z0 z0 0 0 0 [(0, .ref 0), (1, .int x1)] [] (xw P S) (fX10_put P S x1)
  unfold fX10_put
  refine rr_aload_n dX10_put_0 rfl 0 rfl ?_
  refine rr_get (v := .int (S.1 8)) cl10 k10_70 (Nat.le_of_ble_eq_true rfl) rfl rfl dX10_put_1 ?_
  refine rr_bipush (v := 40) dX10_put_4 (by decide) ?_
  refine rr_icmp_lt (tgt := 12) dX10_put_6 (by decide) (fun _ => ?_) (fun _ => ?_)
  · refine rr_aload_n dX10_put_12 rfl 0 rfl ?_
    refine rr_get (v := .ref 33) cl10 k10_66 (Nat.le_of_ble_eq_true rfl) rfl rfl dX10_put_13 ?_
    refine rr_aload_n dX10_put_16 rfl 0 rfl ?_
    refine rr_get (v := .int (S.1 8)) cl10 k10_70 (Nat.le_of_ble_eq_true rfl) rfl rfl dX10_put_17 ?_
    refine rr_iload_n dX10_put_20 rfl 1 rfl ?_
    refine rr_if (fun z => ?_)
    refine rr_iast (len := 40) rfl (inb_in z) dX10_put_21 (xa33 P S ((S.1 8)) x1) ?_
    refine rr_letS (W := xw P) (fun S1 => ?_)
    refine rr_aload_n dX10_put_22 rfl 0 rfl ?_
    refine rr_dup dX10_put_23 rfl ?_
    refine rr_get (v := .int (S1.1 8)) cl10 k10_70 (Nat.le_of_ble_eq_true rfl) rfl rfl dX10_put_24 ?_
    refine rr_iconst (v := 1) dX10_put_27 (by decide) ?_
    refine rr_iadd dX10_put_28 ?_
    refine rr_put cl10 k10_70 (Nat.le_of_ble_eq_true rfl) rfl rfl rfl rfl (Nat.le_of_ble_eq_true rfl) dX10_put_29 (xp0_8 P S1 (((S1.1 8) + 1))) ?_
    refine rr_letS (W := xw P) (fun S2 => ?_)
    refine rr_aload_n dX10_put_32 rfl 0 rfl ?_
    refine rr_get (v := .int (S2.1 8)) cl10 k10_70 (Nat.le_of_ble_eq_true rfl) rfl rfl dX10_put_33 ?_
    exact rr_iret dX10_put_36 rfl rfl rfl rfl rfl
  · refine rr_bipush (v := (-104)) dX10_put_9 (by decide) ?_
    exact rr_iret dX10_put_11 rfl rfl rfl rfl rfl
def fX10_empty (P : rr_T) (S : rr_T) : Option (Int32 × rr_T) :=
  rr_l ((S.1 8)) (fun v1 =>
  rr_l (pI S 8 0) (fun S2 =>
  some ((v1, S2))))
set_option maxRecDepth 20000 in
theorem tX10_empty {l : Launch} {G : rr_G} (P : rr_T) (S : rr_T) : TT l G mX10_empty 0 0 fxA rvIS (fun q => xw P q.2) z0 z0 0 0 [.ref 0] (xw P S) (fX10_empty P S) := by
  refine TT.by (by decide) (Nat.le_of_ble_eq_true rfl) (lv := [(0, .ref 0)]) rfl ?_
  show RR l G mX10_empty 0 0 fxA rvIS (fun q => xw P q.2) z0 z0 0 0 0 [(0, .ref 0)] [] (xw P S) (fX10_empty P S)
  unfold fX10_empty
  refine rr_aload_n dX10_empty_0 rfl 0 rfl ?_
  refine rr_get (v := .int (S.1 8)) cl10 k10_70 (Nat.le_of_ble_eq_true rfl) rfl rfl dX10_empty_1 ?_
  refine rr_letI (fun v1 => ?_)
  refine rr_istore_n (lv' := [(1, .int v1), (0, .ref 0)]) dX10_empty_4 rfl (by decide) rfl ?_
  refine rr_aload_n dX10_empty_5 rfl 1 rfl ?_
  refine rr_iconst (v := 0) dX10_empty_6 (by decide) ?_
  refine rr_put cl10 k10_70 (Nat.le_of_ble_eq_true rfl) rfl rfl rfl rfl (Nat.le_of_ble_eq_true rfl) dX10_empty_7 (xp0_8 P S 0) ?_
  refine rr_letS (W := xw P) (fun S2 => ?_)
  refine rr_iload_n dX10_empty_10 rfl 0 rfl ?_
  exact rr_iret dX10_empty_11 rfl rfl rfl rfl rfl
def JX2_loadUnsure_42 (x2 : Int32) (a2 : rr_T) : Option (Int32 × rr_T) :=
  if (a2.1 169) = (-1) then
  some (((-1), a2))
else
  some ((x2, a2))
set_option maxRecDepth 20000 in
theorem tX2_loadUnsure_42 {l : Launch} {G : rr_G} (x2 : Int32) (P : rr_T) (a2 : rr_T) : RR l G mX2_loadUnsure 3 67 fxA rvIS (fun q => xw P q.2) z0 z0 0 0 42 [(0, .ref 10), (2, .int x2)] [] (xw P a2) (JX2_loadUnsure_42 x2 a2) := by
  unfold JX2_loadUnsure_42
  refine rr_aload_n dX2_loadUnsure_42 rfl 0 rfl ?_
  refine rr_get (v := .int (a2.1 169)) cl2 k2_37 (Nat.le_of_ble_eq_true rfl) rfl rfl dX2_loadUnsure_43 ?_
  refine rr_iconst (v := (-1)) dX2_loadUnsure_46 (by decide) ?_
  refine rr_icmp_ne (tgt := 54) dX2_loadUnsure_47 (by decide) (fun _ => ?_) (fun _ => ?_)
  · refine rr_iload_n dX2_loadUnsure_54 rfl 1 rfl ?_
    exact rr_iret dX2_loadUnsure_55 rfl rfl rfl rfl rfl
  · refine rr_iconst (v := (-1)) dX2_loadUnsure_50 (by decide) ?_
    refine rr_goto (tgt := 55) dX2_loadUnsure_51 (by decide) ?_
    exact rr_iret dX2_loadUnsure_55 rfl rfl rfl rfl rfl
def LX2_loadUnsure_6 (P : rr_T) (x2 : Int32) (rec6 : (Int32 × rr_T) → Option (Int32 × rr_T)) (a3 : Int32 × rr_T) : Option (Int32 × rr_T) :=
  if x2 ≤ a3.1 then
  JX2_loadUnsure_42 x2 a3.2
else
  if (nI 40) ≤ a3.1 then
    JX2_loadUnsure_42 x2 a3.2
  else
    if inb a3.1 40 then
      (fX2_allows P a3.2 ((a3.2.2.1 33 a3.1.toNatClampNeg))).bind (fun r4 =>
        if r4 = 0 then
        some ((a3.1, a3.2))
      else
        if inb a3.1 40 then
          (fX2_take P a3.2 ((a3.2.2.1 33 a3.1.toNatClampNeg))).bind (fun S5 =>
            rec6 ((a3.1 + 1), S5))
        else none)
    else none
set_option maxRecDepth 20000 in
theorem tX2_loadUnsure_6 {l : Launch} {G : rr_G} (P : rr_T) (x2 : Int32) : ∀ (n : Nat) (a : Int32 × rr_T), RR l G mX2_loadUnsure 3 67 fxA rvIS (fun q => xw P q.2) z0 z0 0 0 6 [(0, .ref 10), (1, .ref 33), (2, .int x2), (3, .int a.1)] [] (xw P a.2) (rr_loop n (LX2_loadUnsure_6 P x2) a) := by
  refine rr_lp (α := Int32 × rr_T) 6 (fun a => [(0, .ref 10), (1, .ref 33), (2, .int x2), (3, .int a.1)]) (fun a => (xw P a.2)) (fun rec6 hrec6 a3 => ?_)
  show RR l G mX2_loadUnsure 3 67 fxA rvIS (fun q => xw P q.2) z0 z0 0 0 6 [(0, .ref 10), (1, .ref 33), (2, .int x2), (3, .int a3.1)] [] (xw P a3.2) (LX2_loadUnsure_6 P x2 rec6 a3)
  unfold LX2_loadUnsure_6
  refine rr_iload_n dX2_loadUnsure_6 rfl 3 rfl ?_
  refine rr_iload_n dX2_loadUnsure_7 rfl 2 rfl ?_
  refine rr_icmp_ge (tgt := 42) dX2_loadUnsure_8 (by decide) (fun _ => ?_) (fun _ => ?_)
  · refine rr_sub [0, 2] rfl ?_
    exact tX2_loadUnsure_42 x2 P a3.2
  · refine rr_iload_n dX2_loadUnsure_11 rfl 3 rfl ?_
    refine rr_aload_n dX2_loadUnsure_12 rfl 1 rfl ?_
    refine rr_alen (by decide) rfl dX2_loadUnsure_13 ?_
    refine rr_icmp_ge (tgt := 42) dX2_loadUnsure_14 (by decide) (fun _ => ?_) (fun _ => ?_)
    · refine rr_sub [0, 2] rfl ?_
      exact tX2_loadUnsure_42 x2 P a3.2
    · refine rr_aload_n dX2_loadUnsure_17 rfl 0 rfl ?_
      refine rr_aload_n dX2_loadUnsure_18 rfl 1 rfl ?_
      refine rr_iload_n dX2_loadUnsure_19 rfl 3 rfl ?_
      refine rr_if (fun z => ?_)
      refine rr_iald (len := 40) rfl (inb_in z) dX2_loadUnsure_20 ?_
      refine rr_vi (As := [.int (a3.2.2.1 33 a3.1.toNatClampNeg)]) (rest := []) (tX2_allows P a3.2 ((a3.2.2.1 33 a3.1.toNatClampNeg))) v2_83 rfl rfl ⟨Nat.le_of_ble_eq_true rfl, Nat.le_of_ble_eq_true rfl⟩ rfl rfl (Nat.le_of_ble_eq_true rfl) rfl dX2_loadUnsure_21 (fun r4 => ?_)
      refine rr_if_ne (tgt := 29) dX2_loadUnsure_24 (by decide) (fun _ => ?_) (fun _ => ?_)
      · refine rr_aload_n dX2_loadUnsure_29 rfl 0 rfl ?_
        refine rr_aload_n dX2_loadUnsure_30 rfl 1 rfl ?_
        refine rr_iload_n dX2_loadUnsure_31 rfl 3 rfl ?_
        refine rr_if (fun z => ?_)
        refine rr_iald (len := 40) rfl (inb_in z) dX2_loadUnsure_32 ?_
        refine rr_vs (W := xw P) (As := [.int (a3.2.2.1 33 a3.1.toNatClampNeg)]) (rest := []) (tX2_take P a3.2 ((a3.2.2.1 33 a3.1.toNatClampNeg))) v2_60 rfl rfl ⟨Nat.le_of_ble_eq_true rfl, Nat.le_of_ble_eq_true rfl⟩ (fun _ _ => rfl) rfl rfl (Nat.le_of_ble_eq_true rfl) rfl dX2_loadUnsure_33 (fun S5 => ?_)
        refine rr_iinc (lv' := [(3, .int (a3.1 + 1)), (0, .ref 10), (1, .ref 33), (2, .int x2)]) dX2_loadUnsure_36 3 rfl (by decide) rfl ?_
        refine rr_goto (tgt := 6) dX2_loadUnsure_39 (by decide) ?_
        refine rr_sub [1, 2, 3, 0] rfl ?_
        exact hrec6 ((a3.1 + 1), S5)
      · refine rr_iload_n dX2_loadUnsure_27 rfl 3 rfl ?_
        exact rr_iret dX2_loadUnsure_28 rfl rfl rfl rfl rfl
def fX2_loadUnsure (P : rr_T) (S : rr_T) (x2 : Int32) : Option (Int32 × rr_T) :=
  (fX2_begin P S).bind (fun S1 =>
  rr_loop FU (LX2_loadUnsure_6 P x2) (0, S1))
set_option maxRecDepth 20000 in
theorem tX2_loadUnsure {l : Launch} {G : rr_G} (P : rr_T) (S : rr_T) (x2 : Int32) : TT l G mX2_loadUnsure 3 67 fxA rvIS (fun q => xw P q.2) z0 z0 0 0 [.ref 10, .ref 33, .int x2] (xw P S) (fX2_loadUnsure P S x2) := by
  refine TT.by (by decide) (Nat.le_of_ble_eq_true rfl) (lv := [(0, .ref 10), (1, .ref 33), (2, .int x2)]) rfl ?_
  show RR l G mX2_loadUnsure 3 67 fxA rvIS (fun q => xw P q.2) z0 z0 0 0 0 [(0, .ref 10), (1, .ref 33), (2, .int x2)] [] (xw P S) (fX2_loadUnsure P S x2)
  unfold fX2_loadUnsure
  refine rr_aload_n dX2_loadUnsure_0 rfl 0 rfl ?_
  refine rr_vs (W := xw P) (As := []) (rest := []) (tX2_begin P S) v2_80 rfl rfl ⟨Nat.le_of_ble_eq_true rfl, Nat.le_of_ble_eq_true rfl⟩ (fun _ _ => rfl) rfl rfl (Nat.le_of_ble_eq_true rfl) rfl dX2_loadUnsure_1 (fun S1 => ?_)
  refine rr_iconst (v := 0) dX2_loadUnsure_4 (by decide) ?_
  refine rr_istore_n (lv' := [(3, .int 0), (0, .ref 10), (1, .ref 33), (2, .int x2)]) dX2_loadUnsure_5 rfl (by decide) rfl ?_
  refine rr_sub [1, 2, 3, 0] rfl ?_
  exact tX2_loadUnsure_6 P x2 FU (0, S1)
def fJ_compare (x1 : Int64) (x2 : Int64) : Option Int32 :=
  if 0 ≤ (lg_cmp x1 x2) then
  if (lg_cmp x1 x2) = 0 then
    some 0
  else
    some 1
else
  some (-1)
set_option maxRecDepth 20000 in
theorem tJ_compare {l : Launch} {G : rr_G} (x1 : Int64) (x2 : Int64) (h : rr_H) : TT l G mJ13_compare_74951 0 0 fxA rvI (fun _ => h) z0 z0 0 0 [.long x1, .long x2] (h) (fJ_compare x1 x2) := by
  refine TT.by (by decide) (Nat.le_of_ble_eq_true rfl) (lv := [(0, .long x1), (2, .long x2)]) rfl ?_
  show RR l G mJ13_compare_74951 0 0 fxA rvI (fun _ => h) z0 z0 0 0 0 [(0, .long x1), (2, .long x2)] [] (h) (fJ_compare x1 x2)
  unfold fJ_compare
  refine rr_lload_n dJ13_compare_74951_0 rfl 0 rfl ?_
  refine rr_lload_n dJ13_compare_74951_1 rfl 1 rfl ?_
  refine rr_lcmp dJ13_compare_74951_2 ?_
  refine rr_if_ge (tgt := 10) dJ13_compare_74951_3 (by decide) (fun _ => ?_) (fun _ => ?_)
  · refine rr_lload_n dJ13_compare_74951_10 rfl 0 rfl ?_
    refine rr_lload_n dJ13_compare_74951_11 rfl 1 rfl ?_
    refine rr_lcmp dJ13_compare_74951_12 ?_
    refine rr_if_ne (tgt := 20) dJ13_compare_74951_13 (by decide) (fun _ => ?_) (fun _ => ?_)
    · refine rr_iconst (v := 1) dJ13_compare_74951_20 (by decide) ?_
      exact rr_iret dJ13_compare_74951_21 rfl rfl rfl rfl rfl
    · refine rr_iconst (v := 0) dJ13_compare_74951_16 (by decide) ?_
      refine rr_goto (tgt := 21) dJ13_compare_74951_17 (by decide) ?_
      exact rr_iret dJ13_compare_74951_21 rfl rfl rfl rfl rfl
  · refine rr_iconst (v := (-1)) dJ13_compare_74951_6 (by decide) ?_
    refine rr_goto (tgt := 21) dJ13_compare_74951_7 (by decide) ?_
    exact rr_iret dJ13_compare_74951_21 rfl rfl rfl rfl rfl
def JX5_find_18_91 (rec30 : (Int32 × Int32 × Int32) → Option Int32) (a4 : Int32 × Int32 × Int32) (v5 : Int32) (a7 : Int32) : Option Int32 :=
  if a7 = 0 then
  some v5
else
  if 0 ≤ a7 then
    rr_l ((v5 - 1)) (fun v8 =>
      rec30 (a4.1, v8, (a4.2.2 + 1)))
  else
    rr_l ((v5 + 1)) (fun v9 =>
      rec30 (v9, a4.2.1, (a4.2.2 + 1)))
set_option maxRecDepth 20000 in
theorem tX5_find_18_91 {l : Launch} {G : rr_G} (rec30 : (Int32 × Int32 × Int32) → Option Int32) (a4 : Int32 × Int32 × Int32) (v5 : Int32) (P : rr_T) (S : rr_T) (r1 : Int64) (r2 : Int64) (hrec30 : ∀ a : Int32 × Int32 × Int32, RR l G mX5_find 2 49 fxA rvI (fun _ => xw P S) z0 z0 0 0 30 [(0, .ref 18), (3, .long r1), (5, .long r2), (7, .int a.1), (8, .int a.2.1), (9, .int a.2.2)] [] (xw P S) (rec30 a)) (a7 : Int32) : RR l G mX5_find 2 49 fxA rvI (fun _ => xw P S) z0 z0 0 0 91 [(0, .ref 18), (3, .long r1), (5, .long r2), (7, .int a4.1), (8, .int a4.2.1), (9, .int a4.2.2), (10, .int v5), (11, .int a7)] [] (xw P S) (JX5_find_18_91 rec30 a4 v5 a7) := by
  unfold JX5_find_18_91
  refine rr_iload dX5_find_91 7 rfl ?_
  refine rr_if_ne (tgt := 99) dX5_find_93 (by decide) (fun _ => ?_) (fun _ => ?_)
  · refine rr_iload dX5_find_99 7 rfl ?_
    refine rr_if_ge (tgt := 113) dX5_find_101 (by decide) (fun _ => ?_) (fun _ => ?_)
    · refine rr_iload dX5_find_113 6 rfl ?_
      refine rr_iconst (v := 1) dX5_find_115 (by decide) ?_
      refine rr_isub dX5_find_116 ?_
      refine rr_letI (fun v8 => ?_)
      refine rr_istore (lv' := [(8, .int v8), (0, .ref 18), (3, .long r1), (5, .long r2), (7, .int a4.1), (9, .int a4.2.2), (10, .int v5), (11, .int a7)]) dX5_find_117 (by decide) rfl ?_
      refine rr_iinc (lv' := [(9, .int (a4.2.2 + 1)), (8, .int v8), (0, .ref 18), (3, .long r1), (5, .long r2), (7, .int a4.1), (10, .int v5), (11, .int a7)]) dX5_find_119 5 rfl (by decide) rfl ?_
      refine rr_goto (tgt := 30) dX5_find_122 (by decide) ?_
      refine rr_sub [2, 3, 4, 5, 1, 0] rfl ?_
      exact hrec30 (a4.1, v8, (a4.2.2 + 1))
    · refine rr_iload dX5_find_104 6 rfl ?_
      refine rr_iconst (v := 1) dX5_find_106 (by decide) ?_
      refine rr_iadd dX5_find_107 ?_
      refine rr_letI (fun v9 => ?_)
      refine rr_istore (lv' := [(7, .int v9), (0, .ref 18), (3, .long r1), (5, .long r2), (8, .int a4.2.1), (9, .int a4.2.2), (10, .int v5), (11, .int a7)]) dX5_find_108 (by decide) rfl ?_
      refine rr_goto (tgt := 119) dX5_find_110 (by decide) ?_
      refine rr_iinc (lv' := [(9, .int (a4.2.2 + 1)), (7, .int v9), (0, .ref 18), (3, .long r1), (5, .long r2), (8, .int a4.2.1), (10, .int v5), (11, .int a7)]) dX5_find_119 5 rfl (by decide) rfl ?_
      refine rr_goto (tgt := 30) dX5_find_122 (by decide) ?_
      refine rr_sub [2, 3, 4, 1, 5, 0] rfl ?_
      exact hrec30 (v9, a4.2.1, (a4.2.2 + 1))
  · refine rr_iload dX5_find_96 6 rfl ?_
    exact rr_iret dX5_find_98 rfl rfl rfl rfl rfl
def LX5_find_18_30 (S : rr_T) (r1 : Int64) (r2 : Int64) (rec30 : (Int32 × Int32 × Int32) → Option Int32) (a4 : Int32 × Int32 × Int32) : Option Int32 :=
  if 32 ≤ a4.2.2 then
  some (-1)
else
  if a4.2.1 < a4.1 then
    some (-1)
  else
    rr_l (((a4.1 + a4.2.1) / 2)) (fun v5 =>
      if inb (2 * v5) (S.2.2.2 19) then
      (fJ_compare ((S.2.2.1 19 (2 * v5).toNatClampNeg)) r1).bind (fun r6 =>
        if r6 = 0 then
        if inb ((2 * v5) + 1) (S.2.2.2 19) then
          (fJ_compare ((S.2.2.1 19 ((2 * v5) + 1).toNatClampNeg)) r2).bind (fun r10 =>
            JX5_find_18_91 rec30 a4 v5 r10)
        else none
      else
        JX5_find_18_91 rec30 a4 v5 r6)
    else none)
set_option maxRecDepth 20000 in
theorem tX5_find_18_30 {l : Launch} {G : rr_G} (S : rr_T) (r1 : Int64) (r2 : Int64) (P : rr_T) : ∀ (n : Nat) (a : Int32 × Int32 × Int32), RR l G mX5_find 2 49 fxA rvI (fun _ => xw P S) z0 z0 0 0 30 [(0, .ref 18), (3, .long r1), (5, .long r2), (7, .int a.1), (8, .int a.2.1), (9, .int a.2.2)] [] (xw P S) (rr_loop n (LX5_find_18_30 S r1 r2) a) := by
  refine rr_lp (α := Int32 × Int32 × Int32) 30 (fun a => [(0, .ref 18), (3, .long r1), (5, .long r2), (7, .int a.1), (8, .int a.2.1), (9, .int a.2.2)]) (fun a => (xw P S)) (fun rec30 hrec30 a4 => ?_)
  show RR l G mX5_find 2 49 fxA rvI (fun _ => xw P S) z0 z0 0 0 30 [(0, .ref 18), (3, .long r1), (5, .long r2), (7, .int a4.1), (8, .int a4.2.1), (9, .int a4.2.2)] [] (xw P S) (LX5_find_18_30 S r1 r2 rec30 a4)
  unfold LX5_find_18_30
  refine rr_iload dX5_find_30 5 rfl ?_
  refine rr_bipush (v := 32) dX5_find_32 (by decide) ?_
  refine rr_icmp_ge (tgt := 125) dX5_find_34 (by decide) (fun _ => ?_) (fun _ => ?_)
  · refine rr_iconst (v := (-1)) dX5_find_125 (by decide) ?_
    exact rr_iret dX5_find_126 rfl rfl rfl rfl rfl
  · refine rr_iload dX5_find_37 3 rfl ?_
    refine rr_iload dX5_find_39 4 rfl ?_
    refine rr_icmp_gt (tgt := 125) dX5_find_41 (by decide) (fun _ => ?_) (fun _ => ?_)
    · refine rr_iconst (v := (-1)) dX5_find_125 (by decide) ?_
      exact rr_iret dX5_find_126 rfl rfl rfl rfl rfl
    · refine rr_iload dX5_find_44 3 rfl ?_
      refine rr_iload dX5_find_46 4 rfl ?_
      refine rr_iadd dX5_find_48 ?_
      refine rr_iconst (v := 2) dX5_find_49 (by decide) ?_
      refine rr_idiv dX5_find_50 (by decide) ?_
      refine rr_letI (fun v5 => ?_)
      refine rr_istore (lv' := [(10, .int v5), (0, .ref 18), (3, .long r1), (5, .long r2), (7, .int a4.1), (8, .int a4.2.1), (9, .int a4.2.2)]) dX5_find_51 (by decide) rfl ?_
      refine rr_aload_n dX5_find_53 rfl 1 rfl ?_
      refine rr_get (v := .ref 19) cl5 k5_9 (Nat.le_of_ble_eq_true rfl) rfl rfl dX5_find_54 ?_
      refine rr_iconst (v := 2) dX5_find_57 (by decide) ?_
      refine rr_iload dX5_find_58 0 rfl ?_
      refine rr_imul dX5_find_60 ?_
      refine rr_if (fun z => ?_)
      refine rr_lald (len := (S.2.2.2 19)) rfl (inb_in z) dX5_find_61 ?_
      refine rr_lload_n dX5_find_62 rfl 2 rfl ?_
      refine rr_si (As := [.long (S.2.2.1 19 (2 * v5).toNatClampNeg), .long r1]) (rest := []) (tJ_compare ((S.2.2.1 19 (2 * v5).toNatClampNeg)) r1 (xw P S)) s5_29 rfl ⟨Nat.le_of_ble_eq_true rfl, Nat.le_of_ble_eq_true rfl⟩ rfl rfl (Nat.le_of_ble_eq_true rfl) rfl dX5_find_63 (fun r6 => ?_)
      refine rr_istore (lv' := [(11, .int r6), (10, .int v5), (0, .ref 18), (3, .long r1), (5, .long r2), (7, .int a4.1), (8, .int a4.2.1), (9, .int a4.2.2)]) dX5_find_66 (by decide) rfl ?_
      refine rr_iload dX5_find_68 0 rfl ?_
      refine rr_if_ne (tgt := 91) dX5_find_70 (by decide) (fun _ => ?_) (fun _ => ?_)
      · refine rr_sub [2, 3, 4, 5, 6, 7, 1, 0] rfl ?_
        exact tX5_find_18_91 rec30 a4 v5 P S r1 r2 hrec30 r6
      · refine rr_aload_n dX5_find_73 rfl 2 rfl ?_
        refine rr_get (v := .ref 19) cl5 k5_9 (Nat.le_of_ble_eq_true rfl) rfl rfl dX5_find_74 ?_
        refine rr_iconst (v := 2) dX5_find_77 (by decide) ?_
        refine rr_iload dX5_find_78 1 rfl ?_
        refine rr_imul dX5_find_80 ?_
        refine rr_iconst (v := 1) dX5_find_81 (by decide) ?_
        refine rr_iadd dX5_find_82 ?_
        refine rr_if (fun z => ?_)
        refine rr_lald (len := (S.2.2.2 19)) rfl (inb_in z) dX5_find_83 ?_
        refine rr_lload dX5_find_84 4 rfl ?_
        refine rr_si (As := [.long (S.2.2.1 19 ((2 * v5) + 1).toNatClampNeg), .long r2]) (rest := []) (tJ_compare ((S.2.2.1 19 ((2 * v5) + 1).toNatClampNeg)) r2 (xw P S)) s5_29 rfl ⟨Nat.le_of_ble_eq_true rfl, Nat.le_of_ble_eq_true rfl⟩ rfl rfl (Nat.le_of_ble_eq_true rfl) rfl dX5_find_86 (fun r10 => ?_)
        refine rr_istore (lv' := [(11, .int r10), (10, .int v5), (0, .ref 18), (3, .long r1), (5, .long r2), (7, .int a4.1), (8, .int a4.2.1), (9, .int a4.2.2)]) dX5_find_89 (by decide) rfl ?_
        refine rr_sub [2, 3, 4, 5, 6, 7, 1, 0] rfl ?_
        exact tX5_find_18_91 rec30 a4 v5 P S r1 r2 hrec30 r10
def fX5_find_18 (P : rr_T) (S : rr_T) (x2 : Int32) : Option Int32 :=
  (fX5_pack_33 P S 0 x2).bind (fun r1 =>
  (fX5_pack_33 P S 11 x2).bind (fun r2 =>
  rr_l (((S.1 289) - 1)) (fun v3 =>
  rr_loop FU (LX5_find_18_30 S r1 r2) (0, v3, 0))))
set_option maxRecDepth 20000 in
theorem tX5_find_18 {l : Launch} {G : rr_G} (P : rr_T) (S : rr_T) (x2 : Int32) : TT l G mX5_find 2 49 fxA rvI (fun _ => xw P S) z0 z0 0 0 [.ref 18, .ref 33, .int x2] (xw P S) (fX5_find_18 P S x2) := by
  refine TT.by (by decide) (Nat.le_of_ble_eq_true rfl) (lv := [(0, .ref 18), (1, .ref 33), (2, .int x2)]) rfl ?_
  show RR l G mX5_find 2 49 fxA rvI (fun _ => xw P S) z0 z0 0 0 0 [(0, .ref 18), (1, .ref 33), (2, .int x2)] [] (xw P S) (fX5_find_18 P S x2)
  unfold fX5_find_18
  refine rr_aload_n dX5_find_0 rfl 1 rfl ?_
  refine rr_iconst (v := 0) dX5_find_1 (by decide) ?_
  refine rr_iload_n dX5_find_2 rfl 2 rfl ?_
  refine rr_sj (As := [.ref 33, .int 0, .int x2]) (rest := []) (tX5_pack_33 P S 0 x2) s5_25 rfl ⟨Nat.le_of_ble_eq_true rfl, Nat.le_of_ble_eq_true rfl⟩ rfl rfl (Nat.le_of_ble_eq_true rfl) rfl dX5_find_3 (fun r1 => ?_)
  refine rr_lstore_n (lv' := [(3, .long r1), (0, .ref 18), (1, .ref 33), (2, .int x2)]) dX5_find_6 rfl (by decide) rfl ?_
  refine rr_aload_n dX5_find_7 rfl 2 rfl ?_
  refine rr_bipush (v := 11) dX5_find_8 (by decide) ?_
  refine rr_iload_n dX5_find_10 rfl 3 rfl ?_
  refine rr_sj (As := [.ref 33, .int 11, .int x2]) (rest := []) (tX5_pack_33 P S 11 x2) s5_25 rfl ⟨Nat.le_of_ble_eq_true rfl, Nat.le_of_ble_eq_true rfl⟩ rfl rfl (Nat.le_of_ble_eq_true rfl) rfl dX5_find_11 (fun r2 => ?_)
  refine rr_lstore (lv' := [(5, .long r2), (3, .long r1), (0, .ref 18), (1, .ref 33), (2, .int x2)]) dX5_find_14 (by decide) rfl ?_
  refine rr_iconst (v := 0) dX5_find_16 (by decide) ?_
  refine rr_istore (lv' := [(7, .int 0), (5, .long r2), (3, .long r1), (0, .ref 18), (1, .ref 33), (2, .int x2)]) dX5_find_17 (by decide) rfl ?_
  refine rr_aload_n dX5_find_19 rfl 3 rfl ?_
  refine rr_get (v := .int (S.1 289)) cl5 k5_15 (Nat.le_of_ble_eq_true rfl) rfl rfl dX5_find_20 ?_
  refine rr_iconst (v := 1) dX5_find_23 (by decide) ?_
  refine rr_isub dX5_find_24 ?_
  refine rr_letI (fun v3 => ?_)
  refine rr_istore (lv' := [(8, .int v3), (7, .int 0), (5, .long r2), (3, .long r1), (0, .ref 18), (1, .ref 33), (2, .int x2)]) dX5_find_25 (by decide) rfl ?_
  refine rr_iconst (v := 0) dX5_find_27 (by decide) ?_
  refine rr_istore (lv' := [(9, .int 0), (8, .int v3), (7, .int 0), (5, .long r2), (3, .long r1), (0, .ref 18), (1, .ref 33), (2, .int x2)]) dX5_find_28 (by decide) rfl ?_
  refine rr_sub [5, 4, 3, 2, 1, 0] rfl ?_
  exact tX5_find_18_30 S r1 r2 P FU (0, v3, 0)
def LX0_keptNumber_12 (S : rr_T) (x1 : Int32) (rec12 : (Int32 × Int32 × Int32) → Option Int32) (a2 : Int32 × Int32 × Int32) : Option Int32 :=
  if 32 ≤ a2.2.2 then
  some (-1)
else
  if a2.2.1 < a2.1 then
    some (-1)
  else
    rr_l (((a2.1 + a2.2.1) / 2)) (fun v3 =>
      if inb v3 (S.2.2.2 20) then
      if (S.2.1 20 v3.toNatClampNeg) = x1 then
        some v3
      else
        if inb v3 (S.2.2.2 20) then
          if x1 ≤ (S.2.1 20 v3.toNatClampNeg) then
            rr_l ((v3 - 1)) (fun v4 =>
              rec12 (a2.1, v4, (a2.2.2 + 1)))
          else
            rr_l ((v3 + 1)) (fun v5 =>
              rec12 (v5, a2.2.1, (a2.2.2 + 1)))
        else none
    else none)
set_option maxRecDepth 20000 in
theorem tX0_keptNumber_12 {l : Launch} {G : rr_G} (S : rr_T) (x1 : Int32) (P : rr_T) : ∀ (n : Nat) (a : Int32 × Int32 × Int32), RR l G mX0_keptNumber 0 0 fxA rvI (fun _ => xw P S) z0 z0 0 0 12 [(0, .ref 17), (1, .int x1), (2, .int a.1), (3, .int a.2.1), (4, .int a.2.2)] [] (xw P S) (rr_loop n (LX0_keptNumber_12 S x1) a) := by
  refine rr_lp (α := Int32 × Int32 × Int32) 12 (fun a => [(0, .ref 17), (1, .int x1), (2, .int a.1), (3, .int a.2.1), (4, .int a.2.2)]) (fun a => (xw P S)) (fun rec12 hrec12 a2 => ?_)
  show RR l G mX0_keptNumber 0 0 fxA rvI (fun _ => xw P S) z0 z0 0 0 12 [(0, .ref 17), (1, .int x1), (2, .int a2.1), (3, .int a2.2.1), (4, .int a2.2.2)] [] (xw P S) (LX0_keptNumber_12 S x1 rec12 a2)
  unfold LX0_keptNumber_12
  refine rr_iload dX0_keptNumber_12 4 rfl ?_
  refine rr_bipush (v := 32) dX0_keptNumber_14 (by decide) ?_
  refine rr_icmp_ge (tgt := 75) dX0_keptNumber_16 (by decide) (fun _ => ?_) (fun _ => ?_)
  · refine rr_iconst (v := (-1)) dX0_keptNumber_75 (by decide) ?_
    exact rr_iret dX0_keptNumber_76 rfl rfl rfl rfl rfl
  · refine rr_iload_n dX0_keptNumber_19 rfl 2 rfl ?_
    refine rr_iload_n dX0_keptNumber_20 rfl 3 rfl ?_
    refine rr_icmp_gt (tgt := 75) dX0_keptNumber_21 (by decide) (fun _ => ?_) (fun _ => ?_)
    · refine rr_iconst (v := (-1)) dX0_keptNumber_75 (by decide) ?_
      exact rr_iret dX0_keptNumber_76 rfl rfl rfl rfl rfl
    · refine rr_iload_n dX0_keptNumber_24 rfl 2 rfl ?_
      refine rr_iload_n dX0_keptNumber_25 rfl 3 rfl ?_
      refine rr_iadd dX0_keptNumber_26 ?_
      refine rr_iconst (v := 2) dX0_keptNumber_27 (by decide) ?_
      refine rr_idiv dX0_keptNumber_28 (by decide) ?_
      refine rr_letI (fun v3 => ?_)
      refine rr_istore (lv' := [(5, .int v3), (0, .ref 17), (1, .int x1), (2, .int a2.1), (3, .int a2.2.1), (4, .int a2.2.2)]) dX0_keptNumber_29 (by decide) rfl ?_
      refine rr_aload_n dX0_keptNumber_31 rfl 1 rfl ?_
      refine rr_get (v := .ref 20) cl0 k0_22 (Nat.le_of_ble_eq_true rfl) rfl rfl dX0_keptNumber_32 ?_
      refine rr_iload dX0_keptNumber_35 0 rfl ?_
      refine rr_if (fun z => ?_)
      refine rr_iald (len := (S.2.2.2 20)) rfl (inb_in z) dX0_keptNumber_37 ?_
      refine rr_iload_n dX0_keptNumber_38 rfl 2 rfl ?_
      refine rr_icmp_ne (tgt := 45) dX0_keptNumber_39 (by decide) (fun _ => ?_) (fun _ => ?_)
      · refine rr_aload_n dX0_keptNumber_45 rfl 1 rfl ?_
        refine rr_get (v := .ref 20) cl0 k0_22 (Nat.le_of_ble_eq_true rfl) rfl rfl dX0_keptNumber_46 ?_
        refine rr_iload dX0_keptNumber_49 0 rfl ?_
        refine rr_if (fun z => ?_)
        refine rr_iald (len := (S.2.2.2 20)) rfl (inb_in z) dX0_keptNumber_51 ?_
        refine rr_iload_n dX0_keptNumber_52 rfl 2 rfl ?_
        refine rr_icmp_ge (tgt := 64) dX0_keptNumber_53 (by decide) (fun _ => ?_) (fun _ => ?_)
        · refine rr_iload dX0_keptNumber_64 0 rfl ?_
          refine rr_iconst (v := 1) dX0_keptNumber_66 (by decide) ?_
          refine rr_isub dX0_keptNumber_67 ?_
          refine rr_letI (fun v4 => ?_)
          refine rr_istore_n (lv' := [(3, .int v4), (5, .int v3), (0, .ref 17), (1, .int x1), (2, .int a2.1), (4, .int a2.2.2)]) dX0_keptNumber_68 rfl (by decide) rfl ?_
          refine rr_iinc (lv' := [(4, .int (a2.2.2 + 1)), (3, .int v4), (5, .int v3), (0, .ref 17), (1, .int x1), (2, .int a2.1)]) dX0_keptNumber_69 5 rfl (by decide) rfl ?_
          refine rr_goto (tgt := 12) dX0_keptNumber_72 (by decide) ?_
          refine rr_sub [3, 4, 5, 1, 0] rfl ?_
          exact hrec12 (a2.1, v4, (a2.2.2 + 1))
        · refine rr_iload dX0_keptNumber_56 0 rfl ?_
          refine rr_iconst (v := 1) dX0_keptNumber_58 (by decide) ?_
          refine rr_iadd dX0_keptNumber_59 ?_
          refine rr_letI (fun v5 => ?_)
          refine rr_istore_n (lv' := [(2, .int v5), (5, .int v3), (0, .ref 17), (1, .int x1), (3, .int a2.2.1), (4, .int a2.2.2)]) dX0_keptNumber_60 rfl (by decide) rfl ?_
          refine rr_goto (tgt := 69) dX0_keptNumber_61 (by decide) ?_
          refine rr_iinc (lv' := [(4, .int (a2.2.2 + 1)), (2, .int v5), (5, .int v3), (0, .ref 17), (1, .int x1), (3, .int a2.2.1)]) dX0_keptNumber_69 5 rfl (by decide) rfl ?_
          refine rr_goto (tgt := 12) dX0_keptNumber_72 (by decide) ?_
          refine rr_sub [3, 4, 1, 5, 0] rfl ?_
          exact hrec12 (v5, a2.2.1, (a2.2.2 + 1))
      · refine rr_iload dX0_keptNumber_42 0 rfl ?_
        exact rr_iret dX0_keptNumber_44 rfl rfl rfl rfl rfl
def fX0_keptNumber (P : rr_T) (S : rr_T) (x1 : Int32) : Option Int32 :=
  rr_l (((S.1 277) - 1)) (fun v1 =>
  rr_loop FU (LX0_keptNumber_12 S x1) (0, v1, 0))
set_option maxRecDepth 20000 in
theorem tX0_keptNumber {l : Launch} {G : rr_G} (P : rr_T) (S : rr_T) (x1 : Int32) : TT l G mX0_keptNumber 0 0 fxA rvI (fun _ => xw P S) z0 z0 0 0 [.ref 17, .int x1] (xw P S) (fX0_keptNumber P S x1) := by
  refine TT.by (by decide) (Nat.le_of_ble_eq_true rfl) (lv := [(0, .ref 17), (1, .int x1)]) rfl ?_
  show RR l G mX0_keptNumber 0 0 fxA rvI (fun _ => xw P S) z0 z0 0 0 0 [(0, .ref 17), (1, .int x1)] [] (xw P S) (fX0_keptNumber P S x1)
  unfold fX0_keptNumber
  refine rr_iconst (v := 0) dX0_keptNumber_0 (by decide) ?_
  refine rr_istore_n (lv' := [(2, .int 0), (0, .ref 17), (1, .int x1)]) dX0_keptNumber_1 rfl (by decide) rfl ?_
  refine rr_aload_n dX0_keptNumber_2 rfl 1 rfl ?_
  refine rr_get (v := .int (S.1 277)) cl0 k0_26 (Nat.le_of_ble_eq_true rfl) rfl rfl dX0_keptNumber_3 ?_
  refine rr_iconst (v := 1) dX0_keptNumber_6 (by decide) ?_
  refine rr_isub dX0_keptNumber_7 ?_
  refine rr_letI (fun v1 => ?_)
  refine rr_istore_n (lv' := [(3, .int v1), (2, .int 0), (0, .ref 17), (1, .int x1)]) dX0_keptNumber_8 rfl (by decide) rfl ?_
  refine rr_iconst (v := 0) dX0_keptNumber_9 (by decide) ?_
  refine rr_istore (lv' := [(4, .int 0), (3, .int v1), (2, .int 0), (0, .ref 17), (1, .int x1)]) dX0_keptNumber_10 (by decide) rfl ?_
  refine rr_sub [3, 4, 2, 1, 0] rfl ?_
  exact tX0_keptNumber_12 S x1 P FU (0, v1, 0)
def fX10_isVariable (x1 : Int32) : Option Int32 :=
  if x1 < 0 then
  some 0
else
  if 4 ≤ x1 then
    some 0
  else
    some 1
set_option maxRecDepth 20000 in
theorem tX10_isVariable {l : Launch} {G : rr_G} (x1 : Int32) (h : rr_H) : TT l G mX10_isVariable 0 0 fxA rvI (fun _ => h) z0 z0 0 0 [.int x1] (h) (fX10_isVariable x1) := by
  refine TT.by (by decide) (Nat.le_of_ble_eq_true rfl) (lv := [(0, .int x1)]) rfl ?_
  show RR l G mX10_isVariable 0 0 fxA rvI (fun _ => h) z0 z0 0 0 0 [(0, .int x1)] [] (h) (fX10_isVariable x1)
  unfold fX10_isVariable
  refine rr_iload_n dX10_isVariable_0 rfl 0 rfl ?_
  refine rr_if_lt (tgt := 13) dX10_isVariable_1 (by decide) (fun _ => ?_) (fun _ => ?_)
  · refine rr_iconst (v := 0) dX10_isVariable_13 (by decide) ?_
    exact rr_zret dX10_isVariable_14 rfl (by decide) rfl rfl rfl rfl
  · refine rr_iload_n dX10_isVariable_4 rfl 0 rfl ?_
    refine rr_iconst (v := 4) dX10_isVariable_5 (by decide) ?_
    refine rr_icmp_ge (tgt := 13) dX10_isVariable_6 (by decide) (fun _ => ?_) (fun _ => ?_)
    · refine rr_iconst (v := 0) dX10_isVariable_13 (by decide) ?_
      exact rr_zret dX10_isVariable_14 rfl (by decide) rfl rfl rfl rfl
    · refine rr_iconst (v := 1) dX10_isVariable_9 (by decide) ?_
      refine rr_goto (tgt := 14) dX10_isVariable_10 (by decide) ?_
      exact rr_zret dX10_isVariable_14 rfl (by decide) rfl rfl rfl rfl
def fX4_drop (P : rr_T) (S : rr_T) : Option (Int32 × rr_T) :=
  rr_l ((S.1 129)) (fun v1 =>
  rr_l (pI S 129 0) (fun S2 =>
  some ((v1, S2))))
set_option maxRecDepth 20000 in
theorem tX4_drop {l : Launch} {G : rr_G} (P : rr_T) (S : rr_T) : TT l G mX4_drop 0 0 fxA rvIS (fun q => xw P q.2) z0 z0 0 0 [.ref 8] (xw P S) (fX4_drop P S) := by
  refine TT.by (by decide) (Nat.le_of_ble_eq_true rfl) (lv := [(0, .ref 8)]) rfl ?_
  show RR l G mX4_drop 0 0 fxA rvIS (fun q => xw P q.2) z0 z0 0 0 0 [(0, .ref 8)] [] (xw P S) (fX4_drop P S)
  unfold fX4_drop
  refine rr_aload_n dX4_drop_0 rfl 0 rfl ?_
  refine rr_get (v := .int (S.1 129)) cl4 k4_17 (Nat.le_of_ble_eq_true rfl) rfl rfl dX4_drop_1 ?_
  refine rr_letI (fun v1 => ?_)
  refine rr_istore_n (lv' := [(1, .int v1), (0, .ref 8)]) dX4_drop_4 rfl (by decide) rfl ?_
  refine rr_aload_n dX4_drop_5 rfl 1 rfl ?_
  refine rr_iconst (v := 0) dX4_drop_6 (by decide) ?_
  refine rr_put cl4 k4_17 (Nat.le_of_ble_eq_true rfl) rfl rfl rfl rfl (Nat.le_of_ble_eq_true rfl) dX4_drop_7 (xp8_1 P S 0) ?_
  refine rr_letS (W := xw P) (fun S2 => ?_)
  refine rr_iload_n dX4_drop_10 rfl 0 rfl ?_
  exact rr_iret dX4_drop_11 rfl rfl rfl rfl rfl
def fX10_erase (P : rr_T) (S : rr_T) : Option (Int32 × rr_T) :=
  (fX1_forget P S).bind (fun S1 =>
  (fX4_drop P S1).bind (fun q2 =>
  some ((q2.1, q2.2))))
set_option maxRecDepth 20000 in
theorem tX10_erase {l : Launch} {G : rr_G} (P : rr_T) (S : rr_T) : TT l G mX10_erase 1 21 fxA rvIS (fun q => xw P q.2) z0 z0 0 0 [.ref 0] (xw P S) (fX10_erase P S) := by
  refine TT.by (by decide) (Nat.le_of_ble_eq_true rfl) (lv := [(0, .ref 0)]) rfl ?_
  show RR l G mX10_erase 1 21 fxA rvIS (fun q => xw P q.2) z0 z0 0 0 0 [(0, .ref 0)] [] (xw P S) (fX10_erase P S)
  unfold fX10_erase
  refine rr_aload_n dX10_erase_0 rfl 0 rfl ?_
  refine rr_get (v := .ref 25) cl10 k10_62 (Nat.le_of_ble_eq_true rfl) rfl rfl dX10_erase_1 ?_
  refine rr_vs (W := xw P) (As := []) (rest := []) (tX1_forget P S) v10_191 rfl rfl ⟨Nat.le_of_ble_eq_true rfl, Nat.le_of_ble_eq_true rfl⟩ (fun _ _ => rfl) rfl rfl (Nat.le_of_ble_eq_true rfl) rfl dX10_erase_4 (fun S1 => ?_)
  refine rr_aload_n dX10_erase_7 rfl 0 rfl ?_
  refine rr_get (v := .ref 8) cl10 k10_26 (Nat.le_of_ble_eq_true rfl) rfl rfl dX10_erase_8 ?_
  refine rr_vis (W := xw P) (As := []) (rest := []) (tX4_drop P S1) v10_194 rfl rfl ⟨Nat.le_of_ble_eq_true rfl, Nat.le_of_ble_eq_true rfl⟩ (fun _ _ => rfl) rfl rfl (Nat.le_of_ble_eq_true rfl) rfl dX10_erase_11 (fun q2 => ?_)
  exact rr_iret dX10_erase_14 rfl rfl rfl rfl rfl
def LJ_fill_22_5 (x2 : Int32) (v1 : Int32) (rec5 : (Int32 × rr_T) → Option rr_T) (a2 : Int32 × rr_T) : Option rr_T :=
  if v1 ≤ a2.1 then
  some a2.2
else
  if inb a2.1 4 then
    rr_l (pA a2.2 22 a2.1 x2) (fun S3 =>
      rec5 ((a2.1 + 1), S3))
  else none
set_option maxRecDepth 20000 in
theorem tJ_fill_22_5 {l : Launch} {G : rr_G} (x2 : Int32) (v1 : Int32) (P : rr_T) : ∀ (n : Nat) (a : Int32 × rr_T), RR l G mJ7_fill_53178 0 0 fxA rvS (xw P) z0 z0 0 0 5 [(0, .ref 22), (1, .int x2), (2, .int a.1), (3, .int v1)] [] (xw P a.2) (rr_loop n (LJ_fill_22_5 x2 v1) a) := by
  refine rr_lp (α := Int32 × rr_T) 5 (fun a => [(0, .ref 22), (1, .int x2), (2, .int a.1), (3, .int v1)]) (fun a => (xw P a.2)) (fun rec5 hrec5 a2 => ?_)
  show RR l G mJ7_fill_53178 0 0 fxA rvS (xw P) z0 z0 0 0 5 [(0, .ref 22), (1, .int x2), (2, .int a2.1), (3, .int v1)] [] (xw P a2.2) (LJ_fill_22_5 x2 v1 rec5 a2)
  unfold LJ_fill_22_5
  refine rr_iload_n dJ7_fill_53178_5 rfl 2 rfl ?_
  refine rr_iload_n dJ7_fill_53178_6 rfl 3 rfl ?_
  refine rr_icmp_ge (tgt := 20) dJ7_fill_53178_7 (by decide) (fun _ => ?_) (fun _ => ?_)
  · exact rr_vret dJ7_fill_53178_20 rfl rfl rfl rfl rfl
  · refine rr_aload_n dJ7_fill_53178_10 rfl 0 rfl ?_
    refine rr_iload_n dJ7_fill_53178_11 rfl 2 rfl ?_
    refine rr_iload_n dJ7_fill_53178_12 rfl 1 rfl ?_
    refine rr_if (fun z => ?_)
    refine rr_iast (len := 4) rfl (inb_in z) dJ7_fill_53178_13 (xa22 P a2.2 a2.1 x2) ?_
    refine rr_letS (W := xw P) (fun S3 => ?_)
    refine rr_iinc (lv' := [(2, .int (a2.1 + 1)), (0, .ref 22), (1, .int x2), (3, .int v1)]) dJ7_fill_53178_14 2 rfl (by decide) rfl ?_
    refine rr_goto (tgt := 5) dJ7_fill_53178_17 (by decide) ?_
    refine rr_sub [1, 2, 0, 3] rfl ?_
    exact hrec5 ((a2.1 + 1), S3)
def fJ_fill_22 (P : rr_T) (S : rr_T) (x2 : Int32) : Option rr_T :=
  rr_l ((nI 4)) (fun v1 =>
  rr_loop FU (LJ_fill_22_5 x2 v1) (0, S))
set_option maxRecDepth 20000 in
theorem tJ_fill_22 {l : Launch} {G : rr_G} (P : rr_T) (S : rr_T) (x2 : Int32) : TT l G mJ7_fill_53178 0 0 fxA rvS (xw P) z0 z0 0 0 [.ref 22, .int x2] (xw P S) (fJ_fill_22 P S x2) := by
  refine TT.by (by decide) (Nat.le_of_ble_eq_true rfl) (lv := [(0, .ref 22), (1, .int x2)]) rfl ?_
  show RR l G mJ7_fill_53178 0 0 fxA rvS (xw P) z0 z0 0 0 0 [(0, .ref 22), (1, .int x2)] [] (xw P S) (fJ_fill_22 P S x2)
  unfold fJ_fill_22
  refine rr_iconst (v := 0) dJ7_fill_53178_0 (by decide) ?_
  refine rr_istore_n (lv' := [(2, .int 0), (0, .ref 22), (1, .int x2)]) dJ7_fill_53178_1 rfl (by decide) rfl ?_
  refine rr_aload_n dJ7_fill_53178_2 rfl 1 rfl ?_
  refine rr_alen (by decide) rfl dJ7_fill_53178_3 ?_
  refine rr_letI (fun v1 => ?_)
  refine rr_istore_n (lv' := [(3, .int v1), (2, .int 0), (0, .ref 22), (1, .int x2)]) dJ7_fill_53178_4 rfl (by decide) rfl ?_
  refine rr_sub [2, 3, 1, 0] rfl ?_
  exact tJ_fill_22_5 x2 v1 P FU (0, S)
def LJ_fill_23_5 (x2 : Int32) (v1 : Int32) (rec5 : (Int32 × rr_T) → Option rr_T) (a2 : Int32 × rr_T) : Option rr_T :=
  if v1 ≤ a2.1 then
  some a2.2
else
  if inb a2.1 5 then
    rr_l (pA a2.2 23 a2.1 x2) (fun S3 =>
      rec5 ((a2.1 + 1), S3))
  else none
set_option maxRecDepth 20000 in
theorem tJ_fill_23_5 {l : Launch} {G : rr_G} (x2 : Int32) (v1 : Int32) (P : rr_T) : ∀ (n : Nat) (a : Int32 × rr_T), RR l G mJ7_fill_53178 0 0 fxA rvS (xw P) z0 z0 0 0 5 [(0, .ref 23), (1, .int x2), (2, .int a.1), (3, .int v1)] [] (xw P a.2) (rr_loop n (LJ_fill_23_5 x2 v1) a) := by
  refine rr_lp (α := Int32 × rr_T) 5 (fun a => [(0, .ref 23), (1, .int x2), (2, .int a.1), (3, .int v1)]) (fun a => (xw P a.2)) (fun rec5 hrec5 a2 => ?_)
  show RR l G mJ7_fill_53178 0 0 fxA rvS (xw P) z0 z0 0 0 5 [(0, .ref 23), (1, .int x2), (2, .int a2.1), (3, .int v1)] [] (xw P a2.2) (LJ_fill_23_5 x2 v1 rec5 a2)
  unfold LJ_fill_23_5
  refine rr_iload_n dJ7_fill_53178_5 rfl 2 rfl ?_
  refine rr_iload_n dJ7_fill_53178_6 rfl 3 rfl ?_
  refine rr_icmp_ge (tgt := 20) dJ7_fill_53178_7 (by decide) (fun _ => ?_) (fun _ => ?_)
  · exact rr_vret dJ7_fill_53178_20 rfl rfl rfl rfl rfl
  · refine rr_aload_n dJ7_fill_53178_10 rfl 0 rfl ?_
    refine rr_iload_n dJ7_fill_53178_11 rfl 2 rfl ?_
    refine rr_iload_n dJ7_fill_53178_12 rfl 1 rfl ?_
    refine rr_if (fun z => ?_)
    refine rr_iast (len := 5) rfl (inb_in z) dJ7_fill_53178_13 (xa23 P a2.2 a2.1 x2) ?_
    refine rr_letS (W := xw P) (fun S3 => ?_)
    refine rr_iinc (lv' := [(2, .int (a2.1 + 1)), (0, .ref 23), (1, .int x2), (3, .int v1)]) dJ7_fill_53178_14 2 rfl (by decide) rfl ?_
    refine rr_goto (tgt := 5) dJ7_fill_53178_17 (by decide) ?_
    refine rr_sub [1, 2, 0, 3] rfl ?_
    exact hrec5 ((a2.1 + 1), S3)
def fJ_fill_23 (P : rr_T) (S : rr_T) (x2 : Int32) : Option rr_T :=
  rr_l ((nI 5)) (fun v1 =>
  rr_loop FU (LJ_fill_23_5 x2 v1) (0, S))
set_option maxRecDepth 20000 in
theorem tJ_fill_23 {l : Launch} {G : rr_G} (P : rr_T) (S : rr_T) (x2 : Int32) : TT l G mJ7_fill_53178 0 0 fxA rvS (xw P) z0 z0 0 0 [.ref 23, .int x2] (xw P S) (fJ_fill_23 P S x2) := by
  refine TT.by (by decide) (Nat.le_of_ble_eq_true rfl) (lv := [(0, .ref 23), (1, .int x2)]) rfl ?_
  show RR l G mJ7_fill_53178 0 0 fxA rvS (xw P) z0 z0 0 0 0 [(0, .ref 23), (1, .int x2)] [] (xw P S) (fJ_fill_23 P S x2)
  unfold fJ_fill_23
  refine rr_iconst (v := 0) dJ7_fill_53178_0 (by decide) ?_
  refine rr_istore_n (lv' := [(2, .int 0), (0, .ref 23), (1, .int x2)]) dJ7_fill_53178_1 rfl (by decide) rfl ?_
  refine rr_aload_n dJ7_fill_53178_2 rfl 1 rfl ?_
  refine rr_alen (by decide) rfl dJ7_fill_53178_3 ?_
  refine rr_letI (fun v1 => ?_)
  refine rr_istore_n (lv' := [(3, .int v1), (2, .int 0), (0, .ref 23), (1, .int x2)]) dJ7_fill_53178_4 rfl (by decide) rfl ?_
  refine rr_sub [2, 3, 1, 0] rfl ?_
  exact tJ_fill_23_5 x2 v1 P FU (0, S)
def JX3_begin_68 (a8 : rr_T) : Option rr_T :=
  rr_l (pI a8 343 (((1 <<< ((a8.1 21) &&& 31)) - 1))) (fun S9 =>
  some S9)
set_option maxRecDepth 20000 in
theorem tX3_begin_68 {l : Launch} {G : rr_G} (P : rr_T) (a8 : rr_T) : RR l G mX3_begin 1 23 fxA rvS (xw P) z0 z0 0 0 68 [(0, .ref 21)] [] (xw P a8) (JX3_begin_68 a8) := by
  unfold JX3_begin_68
  refine rr_aload_n dX3_begin_68 rfl 0 rfl ?_
  refine rr_iconst (v := 1) dX3_begin_69 (by decide) ?_
  refine rr_aload_n dX3_begin_70 rfl 0 rfl ?_
  refine rr_get (v := .ref 10) cl3 k3_40 (Nat.le_of_ble_eq_true rfl) rfl rfl dX3_begin_71 ?_
  refine rr_get (v := .ref 1) cl2 k3_69 (Nat.le_of_ble_eq_true rfl) rfl rfl dX3_begin_74 ?_
  refine rr_get (v := .int (a8.1 21)) cl8 k3_73 (Nat.le_of_ble_eq_true rfl) rfl rfl dX3_begin_77 ?_
  refine rr_ishl dX3_begin_80 ?_
  refine rr_iconst (v := 1) dX3_begin_81 (by decide) ?_
  refine rr_isub dX3_begin_82 ?_
  refine rr_put cl3 k3_31 (Nat.le_of_ble_eq_true rfl) rfl rfl rfl rfl (Nat.le_of_ble_eq_true rfl) dX3_begin_83 (xp21_7 P a8 (((1 <<< ((a8.1 21) &&& 31)) - 1))) ?_
  refine rr_letS (W := xw P) (fun S9 => ?_)
  exact rr_vret dX3_begin_86 rfl rfl rfl rfl rfl
def LX3_begin_43 (P : rr_T) (rec43 : (Int32 × rr_T) → Option rr_T) (a10 : Int32 × rr_T) : Option rr_T :=
  if 2 ≤ a10.1 then
  JX3_begin_68 a10.2
else
  (fX2_inputTells P a10.2 a10.1).bind (fun r11 =>
    if inb a10.1 4 then
    rr_l (pA a10.2 22 a10.1 r11) (fun S12 =>
      rec43 ((a10.1 + 1), S12))
  else none)
set_option maxRecDepth 20000 in
theorem tX3_begin_43 {l : Launch} {G : rr_G} (P : rr_T) : ∀ (n : Nat) (a : Int32 × rr_T), RR l G mX3_begin 1 23 fxA rvS (xw P) z0 z0 0 0 43 [(0, .ref 21), (1, .int a.1)] [] (xw P a.2) (rr_loop n (LX3_begin_43 P) a) := by
  refine rr_lp (α := Int32 × rr_T) 43 (fun a => [(0, .ref 21), (1, .int a.1)]) (fun a => (xw P a.2)) (fun rec43 hrec43 a10 => ?_)
  show RR l G mX3_begin 1 23 fxA rvS (xw P) z0 z0 0 0 43 [(0, .ref 21), (1, .int a10.1)] [] (xw P a10.2) (LX3_begin_43 P rec43 a10)
  unfold LX3_begin_43
  refine rr_iload_n dX3_begin_43 rfl 1 rfl ?_
  refine rr_iconst (v := 2) dX3_begin_44 (by decide) ?_
  refine rr_icmp_ge (tgt := 68) dX3_begin_45 (by decide) (fun _ => ?_) (fun _ => ?_)
  · refine rr_sub [0] rfl ?_
    exact tX3_begin_68 P a10.2
  · refine rr_aload_n dX3_begin_48 rfl 0 rfl ?_
    refine rr_get (v := .ref 22) cl3 k3_9 (Nat.le_of_ble_eq_true rfl) rfl rfl dX3_begin_49 ?_
    refine rr_iload_n dX3_begin_52 rfl 1 rfl ?_
    refine rr_aload_n dX3_begin_53 rfl 0 rfl ?_
    refine rr_get (v := .ref 10) cl3 k3_40 (Nat.le_of_ble_eq_true rfl) rfl rfl dX3_begin_54 ?_
    refine rr_iload_n dX3_begin_57 rfl 1 rfl ?_
    refine rr_vi (As := [.int a10.1]) (rest := [.int a10.1, .ref 22]) (tX2_inputTells P a10.2 a10.1) v3_63 rfl rfl ⟨Nat.le_of_ble_eq_true rfl, Nat.le_of_ble_eq_true rfl⟩ rfl rfl (Nat.le_of_ble_eq_true rfl) rfl dX3_begin_58 (fun r11 => ?_)
    refine rr_if (fun z => ?_)
    refine rr_iast (len := 4) rfl (inb_in z) dX3_begin_61 (xa22 P a10.2 a10.1 r11) ?_
    refine rr_letS (W := xw P) (fun S12 => ?_)
    refine rr_iinc (lv' := [(1, .int (a10.1 + 1)), (0, .ref 21)]) dX3_begin_62 1 rfl (by decide) rfl ?_
    refine rr_goto (tgt := 43) dX3_begin_65 (by decide) ?_
    refine rr_sub [1, 0] rfl ?_
    exact hrec43 ((a10.1 + 1), S12)
def fX3_begin (P : rr_T) (S : rr_T) : Option rr_T :=
  (fJ_fill_22 P S (-1)).bind (fun S1 =>
  (fJ_fill_23 P S1 (-1)).bind (fun S2 =>
  rr_l (pI S2 340 0) (fun S3 =>
  rr_l (pI S3 341 0) (fun S4 =>
  rr_l (pI S4 342 0) (fun S5 =>
  rr_l (pI S5 344 0) (fun S6 =>
  rr_l (pI S6 345 0) (fun S7 =>
  rr_loop FU (LX3_begin_43 P) (0, S7))))))))
set_option maxRecDepth 20000 in
theorem tX3_begin {l : Launch} {G : rr_G} (P : rr_T) (S : rr_T) : TT l G mX3_begin 1 23 fxA rvS (xw P) z0 z0 0 0 [.ref 21] (xw P S) (fX3_begin P S) := by
  refine TT.by (by decide) (Nat.le_of_ble_eq_true rfl) (lv := [(0, .ref 21)]) rfl ?_
  show RR l G mX3_begin 1 23 fxA rvS (xw P) z0 z0 0 0 0 [(0, .ref 21)] [] (xw P S) (fX3_begin P S)
  unfold fX3_begin
  refine rr_aload_n dX3_begin_0 rfl 0 rfl ?_
  refine rr_get (v := .ref 22) cl3 k3_9 (Nat.le_of_ble_eq_true rfl) rfl rfl dX3_begin_1 ?_
  refine rr_iconst (v := (-1)) dX3_begin_4 (by decide) ?_
  refine rr_ss (W := xw P) (As := [.ref 22, .int (-1)]) (rest := []) (tJ_fill_22 P S (-1)) s3_57 rfl ⟨Nat.le_of_ble_eq_true rfl, Nat.le_of_ble_eq_true rfl⟩ (fun _ _ => rfl) rfl rfl (Nat.le_of_ble_eq_true rfl) rfl dX3_begin_5 (fun S1 => ?_)
  refine rr_aload_n dX3_begin_8 rfl 0 rfl ?_
  refine rr_get (v := .ref 23) cl3 k3_15 (Nat.le_of_ble_eq_true rfl) rfl rfl dX3_begin_9 ?_
  refine rr_iconst (v := (-1)) dX3_begin_12 (by decide) ?_
  refine rr_ss (W := xw P) (As := [.ref 23, .int (-1)]) (rest := []) (tJ_fill_23 P S1 (-1)) s3_57 rfl ⟨Nat.le_of_ble_eq_true rfl, Nat.le_of_ble_eq_true rfl⟩ (fun _ _ => rfl) rfl rfl (Nat.le_of_ble_eq_true rfl) rfl dX3_begin_13 (fun S2 => ?_)
  refine rr_aload_n dX3_begin_16 rfl 0 rfl ?_
  refine rr_iconst (v := 0) dX3_begin_17 (by decide) ?_
  refine rr_put cl3 k3_21 (Nat.le_of_ble_eq_true rfl) rfl rfl rfl rfl (Nat.le_of_ble_eq_true rfl) dX3_begin_18 (xp21_4 P S2 0) ?_
  refine rr_letS (W := xw P) (fun S3 => ?_)
  refine rr_aload_n dX3_begin_21 rfl 0 rfl ?_
  refine rr_iconst (v := 0) dX3_begin_22 (by decide) ?_
  refine rr_put cl3 k3_25 (Nat.le_of_ble_eq_true rfl) rfl rfl rfl rfl (Nat.le_of_ble_eq_true rfl) dX3_begin_23 (xp21_5 P S3 0) ?_
  refine rr_letS (W := xw P) (fun S4 => ?_)
  refine rr_aload_n dX3_begin_26 rfl 0 rfl ?_
  refine rr_iconst (v := 0) dX3_begin_27 (by decide) ?_
  refine rr_put cl3 k3_28 (Nat.le_of_ble_eq_true rfl) rfl rfl rfl rfl (Nat.le_of_ble_eq_true rfl) dX3_begin_28 (xp21_6 P S4 0) ?_
  refine rr_letS (W := xw P) (fun S5 => ?_)
  refine rr_aload_n dX3_begin_31 rfl 0 rfl ?_
  refine rr_iconst (v := 0) dX3_begin_32 (by decide) ?_
  refine rr_put cl3 k3_34 (Nat.le_of_ble_eq_true rfl) rfl rfl rfl rfl (Nat.le_of_ble_eq_true rfl) dX3_begin_33 (xp21_8 P S5 0) ?_
  refine rr_letS (W := xw P) (fun S6 => ?_)
  refine rr_aload_n dX3_begin_36 rfl 0 rfl ?_
  refine rr_iconst (v := 0) dX3_begin_37 (by decide) ?_
  refine rr_put cl3 k3_37 (Nat.le_of_ble_eq_true rfl) rfl rfl rfl rfl (Nat.le_of_ble_eq_true rfl) dX3_begin_38 (xp21_9 P S6 0) ?_
  refine rr_letS (W := xw P) (fun S7 => ?_)
  refine rr_iconst (v := 0) dX3_begin_41 (by decide) ?_
  refine rr_istore_n (lv' := [(1, .int 0), (0, .ref 21)]) dX3_begin_42 rfl (by decide) rfl ?_
  refine rr_sub [1, 0] rfl ?_
  exact tX3_begin_43 P FU (0, S7)
def fX4_stepAt (P : rr_T) (S : rr_T) (x1 : Int32) : Option (Option Nat) :=
  if x1 < 0 then
  some none
else
  if (S.1 129) ≤ x1 then
    some none
  else
    if inb x1 16 then
      if x1.toNatClampNeg < P.2.2.2 40 then
        some (some (40 + x1.toNatClampNeg))
      else
        some none
    else none
set_option maxRecDepth 20000 in
theorem tX4_stepAt {l : Launch} {G : rr_G} (P : rr_T) (S : rr_T) (x1 : Int32) : TT l G mX4_stepAt 0 0 fxA rvO (fun _ => xw P S) z0 z0 0 0 [.ref 8, .int x1] (xw P S) (fX4_stepAt P S x1) := by
  refine TT.by (by decide) (Nat.le_of_ble_eq_true rfl) (lv := [(0, .ref 8), (1, .int x1)]) rfl ?_
  show RR l G mX4_stepAt 0 0 fxA rvO (fun _ => xw P S) z0 z0 0 0 0 [(0, .ref 8), (1, .int x1)] [] (xw P S) (fX4_stepAt P S x1)
  unfold fX4_stepAt
  refine rr_iload_n dX4_stepAt_0 rfl 1 rfl ?_
  refine rr_if_lt (tgt := 21) dX4_stepAt_1 (by decide) (fun _ => ?_) (fun _ => ?_)
  · refine rr_null dX4_stepAt_21 ?_
    exact rr_aret dX4_stepAt_22 rfl (Or.inl ⟨_, rfl⟩) (Or.inl rfl) rfl rfl rfl rfl
  · refine rr_iload_n dX4_stepAt_4 rfl 1 rfl ?_
    refine rr_aload_n dX4_stepAt_5 rfl 0 rfl ?_
    refine rr_get (v := .int (S.1 129)) cl4 k4_17 (Nat.le_of_ble_eq_true rfl) rfl rfl dX4_stepAt_6 ?_
    refine rr_icmp_ge (tgt := 21) dX4_stepAt_9 (by decide) (fun _ => ?_) (fun _ => ?_)
    · refine rr_null dX4_stepAt_21 ?_
      exact rr_aret dX4_stepAt_22 rfl (Or.inl ⟨_, rfl⟩) (Or.inl rfl) rfl rfl rfl rfl
    · refine rr_aload_n dX4_stepAt_12 rfl 0 rfl ?_
      refine rr_get (v := .ref 9) cl4 k4_11 (Nat.le_of_ble_eq_true rfl) rfl rfl dX4_stepAt_13 ?_
      refine rr_iload_n dX4_stepAt_16 rfl 1 rfl ?_
      refine rr_if (fun za => ?_)
      refine rr_ite (fun ya => ?_) (fun ya => ?_)
      · refine rr_aald (x := (40 + x1.toNatClampNeg)) (Or.inr rfl) rfl (inb_in za) (if_pos ⟨ya, x_lt (inb_in za)⟩) dX4_stepAt_17 ?_
        refine rr_goto (tgt := 22) dX4_stepAt_18 (by decide) ?_
        exact rr_aret dX4_stepAt_22 rfl (Or.inl ⟨_, rfl⟩) (Or.inr ⟨_, rfl⟩) rfl rfl rfl rfl
      · refine rr_aaldN (Or.inr rfl) rfl (inb_in za) (if_neg (fun q => ya q.1)) dX4_stepAt_17 ?_
        refine rr_goto (tgt := 22) dX4_stepAt_18 (by decide) ?_
        exact rr_aret dX4_stepAt_22 rfl (Or.inl ⟨_, rfl⟩) (Or.inl rfl) rfl rfl rfl rfl
def JX3_note_117 (a2 : Int32 × rr_T) : Option rr_T :=
  if inb (a2.2.1 340) 22 then
  rr_l (pA a2.2 24 ((a2.2.1 340)) a2.1) (fun S3 =>
    rr_l (pI S3 340 (((S3.1 340) + 1))) (fun S4 =>
    some S4))
else none
set_option maxRecDepth 20000 in
theorem tX3_note_117 {l : Launch} {G : rr_G} (P : rr_T) (a2 : Int32 × rr_T) : RR l G mX3_note 1 21 fxA rvS (xw P) z0 z0 0 0 117 [(0, .ref 21), (4, .int a2.1)] [] (xw P a2.2) (JX3_note_117 a2) := by
  unfold JX3_note_117
  refine rr_aload_n dX3_note_117 rfl 0 rfl ?_
  refine rr_get (v := .ref 24) cl3 k3_18 (Nat.le_of_ble_eq_true rfl) rfl rfl dX3_note_118 ?_
  refine rr_aload_n dX3_note_121 rfl 0 rfl ?_
  refine rr_get (v := .int (a2.2.1 340)) cl3 k3_21 (Nat.le_of_ble_eq_true rfl) rfl rfl dX3_note_122 ?_
  refine rr_iload dX3_note_125 1 rfl ?_
  refine rr_if (fun z => ?_)
  refine rr_iast (len := 22) rfl (inb_in z) dX3_note_127 (xa24 P a2.2 ((a2.2.1 340)) a2.1) ?_
  refine rr_letS (W := xw P) (fun S3 => ?_)
  refine rr_aload_n dX3_note_128 rfl 0 rfl ?_
  refine rr_dup dX3_note_129 rfl ?_
  refine rr_get (v := .int (S3.1 340)) cl3 k3_21 (Nat.le_of_ble_eq_true rfl) rfl rfl dX3_note_130 ?_
  refine rr_iconst (v := 1) dX3_note_133 (by decide) ?_
  refine rr_iadd dX3_note_134 ?_
  refine rr_put cl3 k3_21 (Nat.le_of_ble_eq_true rfl) rfl rfl rfl rfl (Nat.le_of_ble_eq_true rfl) dX3_note_135 (xp21_4 P S3 (((S3.1 340) + 1))) ?_
  refine rr_letS (W := xw P) (fun S4 => ?_)
  exact rr_vret dX3_note_138 rfl rfl rfl rfl rfl
def JX3_note_85 (x3 : Int32) (S1 : rr_T) (a5 : Int32) : Option rr_T :=
  if inb x3 5 then
  if (S1.2.1 23 x3.toNatClampNeg) = (-1) then
    if inb x3 5 then
      rr_l (pA S1 23 x3 ((S1.1 341))) (fun S6 =>
        rr_l (pI S6 341 (((S6.1 341) + 1))) (fun S7 =>
        JX3_note_117 (a5, S7)))
    else none
  else
    JX3_note_117 (a5, S1)
else none
set_option maxRecDepth 20000 in
theorem tX3_note_85 {l : Launch} {G : rr_G} (x3 : Int32) (S1 : rr_T) (P : rr_T) (a5 : Int32) : RR l G mX3_note 1 21 fxA rvS (xw P) z0 z0 0 0 85 [(0, .ref 21), (3, .int x3)] [.int a5] (xw P S1) (JX3_note_85 x3 S1 a5) := by
  unfold JX3_note_85
  refine rr_istore (lv' := [(4, .int a5), (0, .ref 21), (3, .int x3)]) dX3_note_85 (by decide) rfl ?_
  refine rr_aload_n dX3_note_87 rfl 1 rfl ?_
  refine rr_get (v := .ref 23) cl3 k3_15 (Nat.le_of_ble_eq_true rfl) rfl rfl dX3_note_88 ?_
  refine rr_iload_n dX3_note_91 rfl 2 rfl ?_
  refine rr_if (fun z => ?_)
  refine rr_iald (len := 5) rfl (inb_in z) dX3_note_92 ?_
  refine rr_iconst (v := (-1)) dX3_note_93 (by decide) ?_
  refine rr_icmp_ne (tgt := 117) dX3_note_94 (by decide) (fun _ => ?_) (fun _ => ?_)
  · refine rr_sub [1, 0] rfl ?_
    exact tX3_note_117 P (a5, S1)
  · refine rr_aload_n dX3_note_97 rfl 1 rfl ?_
    refine rr_get (v := .ref 23) cl3 k3_15 (Nat.le_of_ble_eq_true rfl) rfl rfl dX3_note_98 ?_
    refine rr_iload_n dX3_note_101 rfl 2 rfl ?_
    refine rr_aload_n dX3_note_102 rfl 1 rfl ?_
    refine rr_get (v := .int (S1.1 341)) cl3 k3_25 (Nat.le_of_ble_eq_true rfl) rfl rfl dX3_note_103 ?_
    refine rr_if (fun z => ?_)
    refine rr_iast (len := 5) rfl (inb_in z) dX3_note_106 (xa23 P S1 x3 ((S1.1 341))) ?_
    refine rr_letS (W := xw P) (fun S6 => ?_)
    refine rr_aload_n dX3_note_107 rfl 1 rfl ?_
    refine rr_dup dX3_note_108 rfl ?_
    refine rr_get (v := .int (S6.1 341)) cl3 k3_25 (Nat.le_of_ble_eq_true rfl) rfl rfl dX3_note_109 ?_
    refine rr_iconst (v := 1) dX3_note_112 (by decide) ?_
    refine rr_iadd dX3_note_113 ?_
    refine rr_put cl3 k3_25 (Nat.le_of_ble_eq_true rfl) rfl rfl rfl rfl (Nat.le_of_ble_eq_true rfl) dX3_note_114 (xp21_5 P S6 (((S6.1 341) + 1))) ?_
    refine rr_letS (W := xw P) (fun S7 => ?_)
    refine rr_sub [1, 0] rfl ?_
    exact tX3_note_117 P (a5, S7)
def fX3_note (P : rr_T) (S : rr_T) (x1 : Int32) (x2 : Int32) (x3 : Int32) : Option rr_T :=
  if (((S.1 342) >>> (x1 &&& 31)) &&& 1) = 1 then
  some S
else
  if (S.1 340) < 22 then
    rr_l (pI S 342 (((S.1 342) ||| (1 <<< (x1 &&& 31))))) (fun S1 =>
      if x2 = 0 then
      JX3_note_117 (x3, S1)
    else
      if x3 < 0 then
        JX3_note_117 (0, S1)
      else
        if 5 ≤ x3 then
          JX3_note_117 (0, S1)
        else
          if inb x3 5 then
            if (S1.2.1 23 x3.toNatClampNeg) = (-1) then
              (fX2_kindOf P S1 x3).bind (fun r8 =>
                JX3_note_85 x3 S1 ((10 + r8)))
            else
              if inb x3 5 then
                JX3_note_85 x3 S1 ((1 + (S1.2.1 23 x3.toNatClampNeg)))
              else none
          else none)
  else
    some S
set_option maxRecDepth 20000 in
theorem tX3_note {l : Launch} {G : rr_G} (P : rr_T) (S : rr_T) (x1 : Int32) (x2 : Int32) (x3 : Int32) : TT l G mX3_note 1 21 fxA rvS (xw P) z0 z0 0 0 [.ref 21, .int x1, .int x2, .int x3] (xw P S) (fX3_note P S x1 x2 x3) := by
  refine TT.by (by decide) (Nat.le_of_ble_eq_true rfl) (lv := [(0, .ref 21), (1, .int x1), (2, .int x2), (3, .int x3)]) rfl ?_
  show RR l G mX3_note 1 21 fxA rvS (xw P) z0 z0 0 0 0 [(0, .ref 21), (1, .int x1), (2, .int x2), (3, .int x3)] [] (xw P S) (fX3_note P S x1 x2 x3)
  unfold fX3_note
  refine rr_aload_n dX3_note_0 rfl 0 rfl ?_
  refine rr_get (v := .int (S.1 342)) cl3 k3_28 (Nat.le_of_ble_eq_true rfl) rfl rfl dX3_note_1 ?_
  refine rr_iload_n dX3_note_4 rfl 1 rfl ?_
  refine rr_ishr dX3_note_5 ?_
  refine rr_iconst (v := 1) dX3_note_6 (by decide) ?_
  refine rr_iand dX3_note_7 ?_
  refine rr_iconst (v := 1) dX3_note_8 (by decide) ?_
  refine rr_icmp_eq (tgt := 21) dX3_note_9 (by decide) (fun _ => ?_) (fun _ => ?_)
  · exact rr_vret dX3_note_21 rfl rfl rfl rfl rfl
  · refine rr_aload_n dX3_note_12 rfl 0 rfl ?_
    refine rr_get (v := .int (S.1 340)) cl3 k3_21 (Nat.le_of_ble_eq_true rfl) rfl rfl dX3_note_13 ?_
    refine rr_bipush (v := 22) dX3_note_16 (by decide) ?_
    refine rr_icmp_lt (tgt := 22) dX3_note_18 (by decide) (fun _ => ?_) (fun _ => ?_)
    · refine rr_aload_n dX3_note_22 rfl 0 rfl ?_
      refine rr_dup dX3_note_23 rfl ?_
      refine rr_get (v := .int (S.1 342)) cl3 k3_28 (Nat.le_of_ble_eq_true rfl) rfl rfl dX3_note_24 ?_
      refine rr_iconst (v := 1) dX3_note_27 (by decide) ?_
      refine rr_iload_n dX3_note_28 rfl 1 rfl ?_
      refine rr_ishl dX3_note_29 ?_
      refine rr_ior dX3_note_30 ?_
      refine rr_put cl3 k3_28 (Nat.le_of_ble_eq_true rfl) rfl rfl rfl rfl (Nat.le_of_ble_eq_true rfl) dX3_note_31 (xp21_6 P S (((S.1 342) ||| (1 <<< (x1 &&& 31))))) ?_
      refine rr_letS (W := xw P) (fun S1 => ?_)
      refine rr_iload_n dX3_note_34 rfl 3 rfl ?_
      refine rr_istore (lv' := [(4, .int x3), (0, .ref 21), (1, .int x1), (2, .int x2), (3, .int x3)]) dX3_note_35 (by decide) rfl ?_
      refine rr_iload_n dX3_note_37 rfl 3 rfl ?_
      refine rr_if_eq (tgt := 117) dX3_note_38 (by decide) (fun _ => ?_) (fun _ => ?_)
      · refine rr_sub [1, 0] rfl ?_
        exact tX3_note_117 P (x3, S1)
      · refine rr_iconst (v := 0) dX3_note_41 (by decide) ?_
        refine rr_istore (lv' := [(4, .int 0), (0, .ref 21), (1, .int x1), (2, .int x2), (3, .int x3)]) dX3_note_42 (by decide) rfl ?_
        refine rr_iload_n dX3_note_44 rfl 4 rfl ?_
        refine rr_if_lt (tgt := 117) dX3_note_45 (by decide) (fun _ => ?_) (fun _ => ?_)
        · refine rr_sub [1, 0] rfl ?_
          exact tX3_note_117 P (0, S1)
        · refine rr_iload_n dX3_note_48 rfl 4 rfl ?_
          refine rr_iconst (v := 5) dX3_note_49 (by decide) ?_
          refine rr_icmp_ge (tgt := 117) dX3_note_50 (by decide) (fun _ => ?_) (fun _ => ?_)
          · refine rr_sub [1, 0] rfl ?_
            exact tX3_note_117 P (0, S1)
          · refine rr_aload_n dX3_note_53 rfl 1 rfl ?_
            refine rr_get (v := .ref 23) cl3 k3_15 (Nat.le_of_ble_eq_true rfl) rfl rfl dX3_note_54 ?_
            refine rr_iload_n dX3_note_57 rfl 4 rfl ?_
            refine rr_if (fun z => ?_)
            refine rr_iald (len := 5) rfl (inb_in z) dX3_note_58 ?_
            refine rr_iconst (v := (-1)) dX3_note_59 (by decide) ?_
            refine rr_icmp_ne (tgt := 77) dX3_note_60 (by decide) (fun _ => ?_) (fun _ => ?_)
            · refine rr_iconst (v := 1) dX3_note_77 (by decide) ?_
              refine rr_aload_n dX3_note_78 rfl 1 rfl ?_
              refine rr_get (v := .ref 23) cl3 k3_15 (Nat.le_of_ble_eq_true rfl) rfl rfl dX3_note_79 ?_
              refine rr_iload_n dX3_note_82 rfl 4 rfl ?_
              refine rr_if (fun z => ?_)
              refine rr_iald (len := 5) rfl (inb_in z) dX3_note_83 ?_
              refine rr_iadd dX3_note_84 ?_
              refine rr_sub [1, 4] rfl ?_
              exact tX3_note_85 x3 S1 P ((1 + (S1.2.1 23 x3.toNatClampNeg)))
            · refine rr_bipush (v := 10) dX3_note_63 (by decide) ?_
              refine rr_aload_n dX3_note_65 rfl 1 rfl ?_
              refine rr_get (v := .ref 10) cl3 k3_40 (Nat.le_of_ble_eq_true rfl) rfl rfl dX3_note_66 ?_
              refine rr_iload_n dX3_note_69 rfl 4 rfl ?_
              refine rr_vi (As := [.int x3]) (rest := [.int 10]) (tX2_kindOf P S1 x3) v3_95 rfl rfl ⟨Nat.le_of_ble_eq_true rfl, Nat.le_of_ble_eq_true rfl⟩ rfl rfl (Nat.le_of_ble_eq_true rfl) rfl dX3_note_70 (fun r8 => ?_)
              refine rr_iadd dX3_note_73 ?_
              refine rr_goto (tgt := 85) dX3_note_74 (by decide) ?_
              refine rr_sub [1, 4] rfl ?_
              exact tX3_note_85 x3 S1 P ((10 + r8))
    · exact rr_vret dX3_note_21 rfl rfl rfl rfl rfl
def JX3_asked_33 (x1 : Int32) (a2 : rr_T) : Option (Int32 × rr_T) :=
  if inb x1 4 then
  some (((a2.2.1 22 x1.toNatClampNeg), a2))
else none
set_option maxRecDepth 20000 in
theorem tX3_asked_33 {l : Launch} {G : rr_G} (x1 : Int32) (P : rr_T) (a2 : rr_T) : RR l G mX3_asked 2 45 fxA rvIS (fun q => xw P q.2) z0 z0 0 0 33 [(0, .ref 21), (1, .int x1)] [] (xw P a2) (JX3_asked_33 x1 a2) := by
  unfold JX3_asked_33
  refine rr_aload_n dX3_asked_33 rfl 0 rfl ?_
  refine rr_get (v := .ref 22) cl3 k3_9 (Nat.le_of_ble_eq_true rfl) rfl rfl dX3_asked_34 ?_
  refine rr_iload_n dX3_asked_37 rfl 1 rfl ?_
  refine rr_if (fun z => ?_)
  refine rr_iald (len := 4) rfl (inb_in z) dX3_asked_38 ?_
  exact rr_iret dX3_asked_39 rfl rfl rfl rfl rfl
def fX3_asked (P : rr_T) (S : rr_T) (x1 : Int32) : Option (Int32 × rr_T) :=
  (fX10_isVariable x1).bind (fun r1 =>
  if r1 = 0 then
  some (((-1), S))
else
  if (((S.1 343) >>> (x1 &&& 31)) &&& 1) = 1 then
    if inb x1 4 then
      (fX3_note P S x1 1 ((S.2.1 22 x1.toNatClampNeg))).bind (fun S3 =>
        JX3_asked_33 x1 S3)
    else none
  else
    JX3_asked_33 x1 S)
set_option maxRecDepth 20000 in
theorem tX3_asked {l : Launch} {G : rr_G} (P : rr_T) (S : rr_T) (x1 : Int32) : TT l G mX3_asked 2 45 fxA rvIS (fun q => xw P q.2) z0 z0 0 0 [.ref 21, .int x1] (xw P S) (fX3_asked P S x1) := by
  refine TT.by (by decide) (Nat.le_of_ble_eq_true rfl) (lv := [(0, .ref 21), (1, .int x1)]) rfl ?_
  show RR l G mX3_asked 2 45 fxA rvIS (fun q => xw P q.2) z0 z0 0 0 0 [(0, .ref 21), (1, .int x1)] [] (xw P S) (fX3_asked P S x1)
  unfold fX3_asked
  refine rr_iload_n dX3_asked_0 rfl 1 rfl ?_
  refine rr_si (As := [.int x1]) (rest := []) (tX10_isVariable x1 (xw P S)) s3_120 rfl ⟨Nat.le_of_ble_eq_true rfl, Nat.le_of_ble_eq_true rfl⟩ rfl rfl (Nat.le_of_ble_eq_true rfl) rfl dX3_asked_1 (fun r1 => ?_)
  refine rr_if_ne (tgt := 9) dX3_asked_4 (by decide) (fun _ => ?_) (fun _ => ?_)
  · refine rr_aload_n dX3_asked_9 rfl 0 rfl ?_
    refine rr_get (v := .int (S.1 343)) cl3 k3_31 (Nat.le_of_ble_eq_true rfl) rfl rfl dX3_asked_10 ?_
    refine rr_iload_n dX3_asked_13 rfl 1 rfl ?_
    refine rr_ishr dX3_asked_14 ?_
    refine rr_iconst (v := 1) dX3_asked_15 (by decide) ?_
    refine rr_iand dX3_asked_16 ?_
    refine rr_iconst (v := 1) dX3_asked_17 (by decide) ?_
    refine rr_icmp_ne (tgt := 33) dX3_asked_18 (by decide) (fun _ => ?_) (fun _ => ?_)
    · exact tX3_asked_33 x1 P S
    · refine rr_aload_n dX3_asked_21 rfl 0 rfl ?_
      refine rr_iload_n dX3_asked_22 rfl 1 rfl ?_
      refine rr_iconst (v := 1) dX3_asked_23 (by decide) ?_
      refine rr_aload_n dX3_asked_24 rfl 0 rfl ?_
      refine rr_get (v := .ref 22) cl3 k3_9 (Nat.le_of_ble_eq_true rfl) rfl rfl dX3_asked_25 ?_
      refine rr_iload_n dX3_asked_28 rfl 1 rfl ?_
      refine rr_if (fun z => ?_)
      refine rr_iald (len := 4) rfl (inb_in z) dX3_asked_29 ?_
      refine rr_vs (W := xw P) (As := [.int x1, .int 1, .int (S.2.1 22 x1.toNatClampNeg)]) (rest := []) (tX3_note P S x1 1 ((S.2.1 22 x1.toNatClampNeg))) v3_109 rfl rfl ⟨Nat.le_of_ble_eq_true rfl, Nat.le_of_ble_eq_true rfl⟩ (fun _ _ => rfl) rfl rfl (Nat.le_of_ble_eq_true rfl) rfl dX3_asked_30 (fun S3 => ?_)
      exact tX3_asked_33 x1 P S3
  · refine rr_iconst (v := (-1)) dX3_asked_7 (by decide) ?_
    exact rr_iret dX3_asked_8 rfl rfl rfl rfl rfl
