/-! ===== the class's methods: raise, choiceAt_18, countAlike, load, isUnder, fieldTells, bit, hasNoCycle, sharesNothing, inputTells, holdsAt, holdsIn ===== -/
def JX2_raise_32 (P : rr_T) (a2 : Int32 × rr_T) : Option (Int32 × rr_T) :=
  (fX2_take P a2.2 a2.1).bind (fun S3 =>
  some ((1, S3)))
set_option maxRecDepth 20000 in
theorem tX2_raise_32 {l : Launch} {G : rr_G} (P : rr_T) (a2 : Int32 × rr_T) : RR l G mX2_raise 3 67 fxA rvIS (fun q => xw P q.2) z0 z0 0 0 32 [(0, .ref 10), (2, .int a2.1)] [] (xw P a2.2) (JX2_raise_32 P a2) := by
  unfold JX2_raise_32
  refine rr_aload_n dX2_raise_32 rfl 0 rfl ?_
  refine rr_iload_n dX2_raise_33 rfl 1 rfl ?_
  refine rr_vs (W := xw P) (As := [.int a2.1]) (rest := []) (tX2_take P a2.2 a2.1) v2_60 rfl rfl ⟨Nat.le_of_ble_eq_true rfl, Nat.le_of_ble_eq_true rfl⟩ (fun _ _ => rfl) rfl rfl (Nat.le_of_ble_eq_true rfl) rfl dX2_raise_34 (fun S3 => ?_)
  refine rr_iconst (v := 1) dX2_raise_37 (by decide) ?_
  exact rr_zret dX2_raise_38 rfl (by decide) rfl rfl rfl rfl
def LX2_raise_7 (P : rr_T) (rec7 : (Int32 × rr_T) → Option (Int32 × rr_T)) (a4 : Int32 × rr_T) : Option (Int32 × rr_T) :=
  if a4.1 < 0 then
  some ((0, a4.2))
else
  (fX2_backTo P a4.2 a4.1).bind (fun S5 =>
    if inb a4.1 22 then
    (fX2_choiceAbove P S5 ((S5.2.1 13 a4.1.toNatClampNeg))).bind (fun r6 =>
      if r6 = (-1) then
      rec7 ((a4.1 + (-1)), S5)
    else
      JX2_raise_32 P (r6, S5))
  else none)
set_option maxRecDepth 20000 in
theorem tX2_raise_7 {l : Launch} {G : rr_G} (P : rr_T) : ∀ (n : Nat) (a : Int32 × rr_T), RR l G mX2_raise 3 67 fxA rvIS (fun q => xw P q.2) z0 z0 0 0 7 [(0, .ref 10), (1, .int a.1)] [] (xw P a.2) (rr_loop n (LX2_raise_7 P) a) := by
  refine rr_lp (α := Int32 × rr_T) 7 (fun a => [(0, .ref 10), (1, .int a.1)]) (fun a => (xw P a.2)) (fun rec7 hrec7 a4 => ?_)
  show RR l G mX2_raise 3 67 fxA rvIS (fun q => xw P q.2) z0 z0 0 0 7 [(0, .ref 10), (1, .int a4.1)] [] (xw P a4.2) (LX2_raise_7 P rec7 a4)
  unfold LX2_raise_7
  refine rr_iload_n dX2_raise_7 rfl 1 rfl ?_
  refine rr_if_lt (tgt := 45) dX2_raise_8 (by decide) (fun _ => ?_) (fun _ => ?_)
  · refine rr_iconst (v := 0) dX2_raise_45 (by decide) ?_
    exact rr_zret dX2_raise_46 rfl (by decide) rfl rfl rfl rfl
  · refine rr_aload_n dX2_raise_11 rfl 0 rfl ?_
    refine rr_iload_n dX2_raise_12 rfl 1 rfl ?_
    refine rr_vs (W := xw P) (As := [.int a4.1]) (rest := []) (tX2_backTo P a4.2 a4.1) v2_63 rfl rfl ⟨Nat.le_of_ble_eq_true rfl, Nat.le_of_ble_eq_true rfl⟩ (fun _ _ => rfl) rfl rfl (Nat.le_of_ble_eq_true rfl) rfl dX2_raise_13 (fun S5 => ?_)
    refine rr_aload_n dX2_raise_16 rfl 0 rfl ?_
    refine rr_aload_n dX2_raise_17 rfl 0 rfl ?_
    refine rr_get (v := .ref 13) cl2 k2_18 (Nat.le_of_ble_eq_true rfl) rfl rfl dX2_raise_18 ?_
    refine rr_iload_n dX2_raise_21 rfl 1 rfl ?_
    refine rr_if (fun z => ?_)
    refine rr_iald (len := 22) rfl (inb_in z) dX2_raise_22 ?_
    refine rr_vi (As := [.int (S5.2.1 13 a4.1.toNatClampNeg)]) (rest := []) (tX2_choiceAbove P S5 ((S5.2.1 13 a4.1.toNatClampNeg))) v2_66 rfl rfl ⟨Nat.le_of_ble_eq_true rfl, Nat.le_of_ble_eq_true rfl⟩ rfl rfl (Nat.le_of_ble_eq_true rfl) rfl dX2_raise_23 (fun r6 => ?_)
    refine rr_istore_n (lv' := [(2, .int r6), (0, .ref 10), (1, .int a4.1)]) dX2_raise_26 rfl (by decide) rfl ?_
    refine rr_iload_n dX2_raise_27 rfl 0 rfl ?_
    refine rr_iconst (v := (-1)) dX2_raise_28 (by decide) ?_
    refine rr_icmp_eq (tgt := 39) dX2_raise_29 (by decide) (fun _ => ?_) (fun _ => ?_)
    · refine rr_iinc (lv' := [(1, .int (a4.1 + (-1))), (2, .int r6), (0, .ref 10)]) dX2_raise_39 2 rfl (by decide) rfl ?_
      refine rr_goto (tgt := 7) dX2_raise_42 (by decide) ?_
      refine rr_sub [2, 0] rfl ?_
      exact hrec7 ((a4.1 + (-1)), S5)
    · refine rr_sub [1, 0] rfl ?_
      exact tX2_raise_32 P (r6, S5)
def fX2_raise (P : rr_T) (S : rr_T) : Option (Int32 × rr_T) :=
  rr_l (((S.1 167) - 1)) (fun v1 =>
  rr_loop FU (LX2_raise_7 P) (v1, S))
set_option maxRecDepth 20000 in
theorem tX2_raise {l : Launch} {G : rr_G} (P : rr_T) (S : rr_T) : TT l G mX2_raise 3 67 fxA rvIS (fun q => xw P q.2) z0 z0 0 0 [.ref 10] (xw P S) (fX2_raise P S) := by
  refine TT.by (by decide) (Nat.le_of_ble_eq_true rfl) (lv := [(0, .ref 10)]) rfl ?_
  show RR l G mX2_raise 3 67 fxA rvIS (fun q => xw P q.2) z0 z0 0 0 0 [(0, .ref 10)] [] (xw P S) (fX2_raise P S)
  unfold fX2_raise
  refine rr_aload_n dX2_raise_0 rfl 0 rfl ?_
  refine rr_get (v := .int (S.1 167)) cl2 k2_30 (Nat.le_of_ble_eq_true rfl) rfl rfl dX2_raise_1 ?_
  refine rr_iconst (v := 1) dX2_raise_4 (by decide) ?_
  refine rr_isub dX2_raise_5 ?_
  refine rr_letI (fun v1 => ?_)
  refine rr_istore_n (lv' := [(1, .int v1), (0, .ref 10)]) dX2_raise_6 rfl (by decide) rfl ?_
  refine rr_sub [1, 0] rfl ?_
  exact tX2_raise_7 P FU (v1, S)
def fX5_choiceAt_18 (P : rr_T) (S : rr_T) (x1 : Int32) (x2 : Int32) : Option Int32 :=
  if x1 < 0 then
  some 0
else
  if (S.1 289) ≤ x1 then
    some 0
  else
    if x2 < 0 then
      some 0
    else
      if x2 < 22 then
        if inb ((2 * x1) + (x2 / 11)) (S.2.2.2 19) then
          rr_l ((S.2.2.1 19 ((2 * x1) + (x2 / 11)).toNatClampNeg)) (fun v1 =>
            rr_l (((v1 >>> ((4 * (10 - (x2 - x2 / 11 * 11))).toInt64 &&& 63)).toInt32 &&& 15)) (fun v2 =>
            if 6 ≤ v2 then
            some (((v2 - 6) + 10))
          else
            some v2))
        else none
      else
        some 0
set_option maxRecDepth 20000 in
theorem tX5_choiceAt_18 {l : Launch} {G : rr_G} (P : rr_T) (S : rr_T) (x1 : Int32) (x2 : Int32) : TT l G mX5_choiceAt 0 0 fxA rvI (fun _ => xw P S) z0 z0 0 0 [.ref 18, .int x1, .int x2] (xw P S) (fX5_choiceAt_18 P S x1 x2) := by
  refine TT.by (by decide) (Nat.le_of_ble_eq_true rfl) (lv := [(0, .ref 18), (1, .int x1), (2, .int x2)]) rfl ?_
  show RR l G mX5_choiceAt 0 0 fxA rvI (fun _ => xw P S) z0 z0 0 0 0 [(0, .ref 18), (1, .int x1), (2, .int x2)] [] (xw P S) (fX5_choiceAt_18 P S x1 x2)
  unfold fX5_choiceAt_18
  refine rr_iload_n dX5_choiceAt_0 rfl 1 rfl ?_
  refine rr_if_lt (tgt := 22) dX5_choiceAt_1 (by decide) (fun _ => ?_) (fun _ => ?_)
  · refine rr_iconst (v := 0) dX5_choiceAt_22 (by decide) ?_
    exact rr_iret dX5_choiceAt_23 rfl rfl rfl rfl rfl
  · refine rr_iload_n dX5_choiceAt_4 rfl 1 rfl ?_
    refine rr_aload_n dX5_choiceAt_5 rfl 0 rfl ?_
    refine rr_get (v := .int (S.1 289)) cl5 k5_15 (Nat.le_of_ble_eq_true rfl) rfl rfl dX5_choiceAt_6 ?_
    refine rr_icmp_ge (tgt := 22) dX5_choiceAt_9 (by decide) (fun _ => ?_) (fun _ => ?_)
    · refine rr_iconst (v := 0) dX5_choiceAt_22 (by decide) ?_
      exact rr_iret dX5_choiceAt_23 rfl rfl rfl rfl rfl
    · refine rr_iload_n dX5_choiceAt_12 rfl 2 rfl ?_
      refine rr_if_lt (tgt := 22) dX5_choiceAt_13 (by decide) (fun _ => ?_) (fun _ => ?_)
      · refine rr_iconst (v := 0) dX5_choiceAt_22 (by decide) ?_
        exact rr_iret dX5_choiceAt_23 rfl rfl rfl rfl rfl
      · refine rr_iload_n dX5_choiceAt_16 rfl 2 rfl ?_
        refine rr_bipush (v := 22) dX5_choiceAt_17 (by decide) ?_
        refine rr_icmp_lt (tgt := 24) dX5_choiceAt_19 (by decide) (fun _ => ?_) (fun _ => ?_)
        · refine rr_aload_n dX5_choiceAt_24 rfl 0 rfl ?_
          refine rr_get (v := .ref 19) cl5 k5_9 (Nat.le_of_ble_eq_true rfl) rfl rfl dX5_choiceAt_25 ?_
          refine rr_iconst (v := 2) dX5_choiceAt_28 (by decide) ?_
          refine rr_iload_n dX5_choiceAt_29 rfl 1 rfl ?_
          refine rr_imul dX5_choiceAt_30 ?_
          refine rr_iload_n dX5_choiceAt_31 rfl 2 rfl ?_
          refine rr_bipush (v := 11) dX5_choiceAt_32 (by decide) ?_
          refine rr_idiv dX5_choiceAt_34 (by decide) ?_
          refine rr_iadd dX5_choiceAt_35 ?_
          refine rr_if (fun z => ?_)
          refine rr_lald (len := (S.2.2.2 19)) rfl (inb_in z) dX5_choiceAt_36 ?_
          refine rr_letL (fun v1 => ?_)
          refine rr_lstore_n (lv' := [(3, .long v1), (0, .ref 18), (1, .int x1), (2, .int x2)]) dX5_choiceAt_37 rfl (by decide) rfl ?_
          refine rr_lload_n dX5_choiceAt_38 rfl 0 rfl ?_
          refine rr_iconst (v := 4) dX5_choiceAt_39 (by decide) ?_
          refine rr_bipush (v := 10) dX5_choiceAt_40 (by decide) ?_
          refine rr_iload_n dX5_choiceAt_42 rfl 3 rfl ?_
          refine rr_bipush (v := 11) dX5_choiceAt_43 (by decide) ?_
          refine rr_irem dX5_choiceAt_45 (by decide) ?_
          refine rr_isub dX5_choiceAt_46 ?_
          refine rr_imul dX5_choiceAt_47 ?_
          refine rr_lshr dX5_choiceAt_48 ?_
          refine rr_l2i dX5_choiceAt_49 ?_
          refine rr_bipush (v := 15) dX5_choiceAt_50 (by decide) ?_
          refine rr_iand dX5_choiceAt_52 ?_
          refine rr_letI (fun v2 => ?_)
          refine rr_istore (lv' := [(5, .int v2), (3, .long v1), (0, .ref 18), (1, .int x1), (2, .int x2)]) dX5_choiceAt_53 (by decide) rfl ?_
          refine rr_iload dX5_choiceAt_55 0 rfl ?_
          refine rr_bipush (v := 6) dX5_choiceAt_57 (by decide) ?_
          refine rr_icmp_ge (tgt := 67) dX5_choiceAt_59 (by decide) (fun _ => ?_) (fun _ => ?_)
          · refine rr_iload dX5_choiceAt_67 0 rfl ?_
            refine rr_bipush (v := 6) dX5_choiceAt_69 (by decide) ?_
            refine rr_isub dX5_choiceAt_71 ?_
            refine rr_bipush (v := 10) dX5_choiceAt_72 (by decide) ?_
            refine rr_iadd dX5_choiceAt_74 ?_
            exact rr_iret dX5_choiceAt_75 rfl rfl rfl rfl rfl
          · refine rr_iload dX5_choiceAt_62 0 rfl ?_
            refine rr_goto (tgt := 75) dX5_choiceAt_64 (by decide) ?_
            exact rr_iret dX5_choiceAt_75 rfl rfl rfl rfl rfl
        · refine rr_iconst (v := 0) dX5_choiceAt_22 (by decide) ?_
          exact rr_iret dX5_choiceAt_23 rfl rfl rfl rfl rfl
def LX2_countAlike_2 (P : rr_T) (S : rr_T) (x2 : Int32) (rec2 : Int32 → Option Int32) (a1 : Int32) : Option Int32 :=
  if (S.1 167) ≤ a1 then
  some ((S.1 167))
else
  if inb a1 22 then
    (fX5_choiceAt_18 P S x2 a1).bind (fun r2 =>
      if (S.2.1 13 a1.toNatClampNeg) = r2 then
      rec2 ((a1 + 1))
    else
      some a1)
  else none
set_option maxRecDepth 20000 in
theorem tX2_countAlike_2 {l : Launch} {G : rr_G} (P : rr_T) (S : rr_T) (x2 : Int32) : ∀ (n : Nat) (a : Int32), RR l G mX2_countAlike 1 25 fxA rvI (fun _ => xw P S) z0 z0 0 0 2 [(0, .ref 10), (1, .ref 18), (2, .int x2), (3, .int a)] [] (xw P S) (rr_loop n (LX2_countAlike_2 P S x2) a) := by
  refine rr_lp (α := Int32) 2 (fun a => [(0, .ref 10), (1, .ref 18), (2, .int x2), (3, .int a)]) (fun a => (xw P S)) (fun rec2 hrec2 a1 => ?_)
  show RR l G mX2_countAlike 1 25 fxA rvI (fun _ => xw P S) z0 z0 0 0 2 [(0, .ref 10), (1, .ref 18), (2, .int x2), (3, .int a1)] [] (xw P S) (LX2_countAlike_2 P S x2 rec2 a1)
  unfold LX2_countAlike_2
  refine rr_iload_n dX2_countAlike_2 rfl 3 rfl ?_
  refine rr_aload_n dX2_countAlike_3 rfl 0 rfl ?_
  refine rr_get (v := .int (S.1 167)) cl2 k2_30 (Nat.le_of_ble_eq_true rfl) rfl rfl dX2_countAlike_4 ?_
  refine rr_icmp_ge (tgt := 33) dX2_countAlike_7 (by decide) (fun _ => ?_) (fun _ => ?_)
  · refine rr_aload_n dX2_countAlike_33 rfl 0 rfl ?_
    refine rr_get (v := .int (S.1 167)) cl2 k2_30 (Nat.le_of_ble_eq_true rfl) rfl rfl dX2_countAlike_34 ?_
    exact rr_iret dX2_countAlike_37 rfl rfl rfl rfl rfl
  · refine rr_aload_n dX2_countAlike_10 rfl 0 rfl ?_
    refine rr_get (v := .ref 13) cl2 k2_18 (Nat.le_of_ble_eq_true rfl) rfl rfl dX2_countAlike_11 ?_
    refine rr_iload_n dX2_countAlike_14 rfl 3 rfl ?_
    refine rr_if (fun z => ?_)
    refine rr_iald (len := 22) rfl (inb_in z) dX2_countAlike_15 ?_
    refine rr_aload_n dX2_countAlike_16 rfl 1 rfl ?_
    refine rr_iload_n dX2_countAlike_17 rfl 2 rfl ?_
    refine rr_iload_n dX2_countAlike_18 rfl 3 rfl ?_
    refine rr_vi (As := [.int x2, .int a1]) (rest := [.int (S.2.1 13 a1.toNatClampNeg)]) (tX5_choiceAt_18 P S x2 a1) v2_74 rfl rfl ⟨Nat.le_of_ble_eq_true rfl, Nat.le_of_ble_eq_true rfl⟩ rfl rfl (Nat.le_of_ble_eq_true rfl) rfl dX2_countAlike_19 (fun r2 => ?_)
    refine rr_icmp_eq (tgt := 27) dX2_countAlike_22 (by decide) (fun _ => ?_) (fun _ => ?_)
    · refine rr_iinc (lv' := [(3, .int (a1 + 1)), (0, .ref 10), (1, .ref 18), (2, .int x2)]) dX2_countAlike_27 3 rfl (by decide) rfl ?_
      refine rr_goto (tgt := 2) dX2_countAlike_30 (by decide) ?_
      refine rr_sub [1, 2, 3, 0] rfl ?_
      exact hrec2 ((a1 + 1))
    · refine rr_iload_n dX2_countAlike_25 rfl 3 rfl ?_
      exact rr_iret dX2_countAlike_26 rfl rfl rfl rfl rfl
def fX2_countAlike (P : rr_T) (S : rr_T) (x2 : Int32) : Option Int32 :=
  rr_loop FU (LX2_countAlike_2 P S x2) 0
set_option maxRecDepth 20000 in
theorem tX2_countAlike {l : Launch} {G : rr_G} (P : rr_T) (S : rr_T) (x2 : Int32) : TT l G mX2_countAlike 1 25 fxA rvI (fun _ => xw P S) z0 z0 0 0 [.ref 10, .ref 18, .int x2] (xw P S) (fX2_countAlike P S x2) := by
  refine TT.by (by decide) (Nat.le_of_ble_eq_true rfl) (lv := [(0, .ref 10), (1, .ref 18), (2, .int x2)]) rfl ?_
  show RR l G mX2_countAlike 1 25 fxA rvI (fun _ => xw P S) z0 z0 0 0 0 [(0, .ref 10), (1, .ref 18), (2, .int x2)] [] (xw P S) (fX2_countAlike P S x2)
  unfold fX2_countAlike
  refine rr_iconst (v := 0) dX2_countAlike_0 (by decide) ?_
  refine rr_istore_n (lv' := [(3, .int 0), (0, .ref 10), (1, .ref 18), (2, .int x2)]) dX2_countAlike_1 rfl (by decide) rfl ?_
  refine rr_sub [1, 2, 3, 0] rfl ?_
  exact tX2_countAlike_2 P S x2 FU 0
def LX2_load_15 (P : rr_T) (x2 : Int32) (rec15 : (Int32 × rr_T) → Option rr_T) (a3 : Int32 × rr_T) : Option rr_T :=
  if 22 ≤ a3.1 then
  some a3.2
else
  if (a3.2.1 169) = (-1) then
    some a3.2
  else
    (fX5_choiceAt_18 P a3.2 x2 a3.1).bind (fun r4 =>
      (fX2_take P a3.2 r4).bind (fun S5 =>
      rec15 ((a3.1 + 1), S5)))
set_option maxRecDepth 20000 in
theorem tX2_load_15 {l : Launch} {G : rr_G} (P : rr_T) (x2 : Int32) : ∀ (n : Nat) (a : Int32 × rr_T), RR l G mX2_load 3 67 fxA rvS (xw P) z0 z0 0 0 15 [(0, .ref 10), (1, .ref 18), (2, .int x2), (4, .int a.1)] [] (xw P a.2) (rr_loop n (LX2_load_15 P x2) a) := by
  refine rr_lp (α := Int32 × rr_T) 15 (fun a => [(0, .ref 10), (1, .ref 18), (2, .int x2), (4, .int a.1)]) (fun a => (xw P a.2)) (fun rec15 hrec15 a3 => ?_)
  show RR l G mX2_load 3 67 fxA rvS (xw P) z0 z0 0 0 15 [(0, .ref 10), (1, .ref 18), (2, .int x2), (4, .int a3.1)] [] (xw P a3.2) (LX2_load_15 P x2 rec15 a3)
  unfold LX2_load_15
  refine rr_iload dX2_load_15 3 rfl ?_
  refine rr_bipush (v := 22) dX2_load_17 (by decide) ?_
  refine rr_icmp_ge (tgt := 47) dX2_load_19 (by decide) (fun _ => ?_) (fun _ => ?_)
  · exact rr_vret dX2_load_47 rfl rfl rfl rfl rfl
  · refine rr_aload_n dX2_load_22 rfl 0 rfl ?_
    refine rr_get (v := .int (a3.2.1 169)) cl2 k2_37 (Nat.le_of_ble_eq_true rfl) rfl rfl dX2_load_23 ?_
    refine rr_iconst (v := (-1)) dX2_load_26 (by decide) ?_
    refine rr_icmp_eq (tgt := 47) dX2_load_27 (by decide) (fun _ => ?_) (fun _ => ?_)
    · exact rr_vret dX2_load_47 rfl rfl rfl rfl rfl
    · refine rr_aload_n dX2_load_30 rfl 0 rfl ?_
      refine rr_aload_n dX2_load_31 rfl 1 rfl ?_
      refine rr_iload_n dX2_load_32 rfl 2 rfl ?_
      refine rr_iload dX2_load_33 3 rfl ?_
      refine rr_vi (As := [.int x2, .int a3.1]) (rest := [.ref 10]) (tX5_choiceAt_18 P a3.2 x2 a3.1) v2_74 rfl rfl ⟨Nat.le_of_ble_eq_true rfl, Nat.le_of_ble_eq_true rfl⟩ rfl rfl (Nat.le_of_ble_eq_true rfl) rfl dX2_load_35 (fun r4 => ?_)
      refine rr_vs (W := xw P) (As := [.int r4]) (rest := []) (tX2_take P a3.2 r4) v2_60 rfl rfl ⟨Nat.le_of_ble_eq_true rfl, Nat.le_of_ble_eq_true rfl⟩ (fun _ _ => rfl) rfl rfl (Nat.le_of_ble_eq_true rfl) rfl dX2_load_38 (fun S5 => ?_)
      refine rr_iinc (lv' := [(4, .int (a3.1 + 1)), (0, .ref 10), (1, .ref 18), (2, .int x2)]) dX2_load_41 3 rfl (by decide) rfl ?_
      refine rr_goto (tgt := 15) dX2_load_44 (by decide) ?_
      refine rr_sub [1, 2, 3, 0] rfl ?_
      exact hrec15 ((a3.1 + 1), S5)
def fX2_load (P : rr_T) (S : rr_T) (x2 : Int32) : Option rr_T :=
  (fX2_countAlike P S x2).bind (fun r1 =>
  (fX2_backTo P S r1).bind (fun S2 =>
  rr_loop FU (LX2_load_15 P x2) (r1, S2)))
set_option maxRecDepth 20000 in
theorem tX2_load {l : Launch} {G : rr_G} (P : rr_T) (S : rr_T) (x2 : Int32) : TT l G mX2_load 3 67 fxA rvS (xw P) z0 z0 0 0 [.ref 10, .ref 18, .int x2] (xw P S) (fX2_load P S x2) := by
  refine TT.by (by decide) (Nat.le_of_ble_eq_true rfl) (lv := [(0, .ref 10), (1, .ref 18), (2, .int x2)]) rfl ?_
  show RR l G mX2_load 3 67 fxA rvS (xw P) z0 z0 0 0 0 [(0, .ref 10), (1, .ref 18), (2, .int x2)] [] (xw P S) (fX2_load P S x2)
  unfold fX2_load
  refine rr_aload_n dX2_load_0 rfl 0 rfl ?_
  refine rr_aload_n dX2_load_1 rfl 1 rfl ?_
  refine rr_iload_n dX2_load_2 rfl 2 rfl ?_
  refine rr_vi (As := [.ref 18, .int x2]) (rest := []) (tX2_countAlike P S x2) v2_70 rfl rfl ⟨Nat.le_of_ble_eq_true rfl, Nat.le_of_ble_eq_true rfl⟩ rfl rfl (Nat.le_of_ble_eq_true rfl) rfl dX2_load_3 (fun r1 => ?_)
  refine rr_istore_n (lv' := [(3, .int r1), (0, .ref 10), (1, .ref 18), (2, .int x2)]) dX2_load_6 rfl (by decide) rfl ?_
  refine rr_aload_n dX2_load_7 rfl 1 rfl ?_
  refine rr_iload_n dX2_load_8 rfl 0 rfl ?_
  refine rr_vs (W := xw P) (As := [.int r1]) (rest := []) (tX2_backTo P S r1) v2_63 rfl rfl ⟨Nat.le_of_ble_eq_true rfl, Nat.le_of_ble_eq_true rfl⟩ (fun _ _ => rfl) rfl rfl (Nat.le_of_ble_eq_true rfl) rfl dX2_load_9 (fun S2 => ?_)
  refine rr_iload_n dX2_load_12 rfl 0 rfl ?_
  refine rr_istore (lv' := [(4, .int r1), (3, .int r1), (0, .ref 10), (1, .ref 18), (2, .int x2)]) dX2_load_13 (by decide) rfl ?_
  refine rr_sub [2, 3, 4, 0] rfl ?_
  exact tX2_load_15 P x2 FU (r1, S2)
def fX2_isUnder (P : rr_T) (S : rr_T) (x1 : Int32) (x2 : Int32) : Option Int32 :=
  if x1 < 0 then
  some 0
else
  if (S.1 168) ≤ x1 then
    some 0
  else
    if inb x1 5 then
      (fX8_isUnder P S ((S.2.1 11 x1.toNatClampNeg)) x2).bind (fun r1 =>
        if r1 = 0 then
        some 0
      else
        some 1)
    else none
set_option maxRecDepth 20000 in
theorem tX2_isUnder {l : Launch} {G : rr_G} (P : rr_T) (S : rr_T) (x1 : Int32) (x2 : Int32) : TT l G mX2_isUnder 1 22 fxA rvI (fun _ => xw P S) z0 z0 0 0 [.ref 10, .int x1, .int x2] (xw P S) (fX2_isUnder P S x1 x2) := by
  refine TT.by (by decide) (Nat.le_of_ble_eq_true rfl) (lv := [(0, .ref 10), (1, .int x1), (2, .int x2)]) rfl ?_
  show RR l G mX2_isUnder 1 22 fxA rvI (fun _ => xw P S) z0 z0 0 0 0 [(0, .ref 10), (1, .int x1), (2, .int x2)] [] (xw P S) (fX2_isUnder P S x1 x2)
  unfold fX2_isUnder
  refine rr_iload_n dX2_isUnder_0 rfl 1 rfl ?_
  refine rr_if_lt (tgt := 33) dX2_isUnder_1 (by decide) (fun _ => ?_) (fun _ => ?_)
  · refine rr_iconst (v := 0) dX2_isUnder_33 (by decide) ?_
    exact rr_zret dX2_isUnder_34 rfl (by decide) rfl rfl rfl rfl
  · refine rr_iload_n dX2_isUnder_4 rfl 1 rfl ?_
    refine rr_aload_n dX2_isUnder_5 rfl 0 rfl ?_
    refine rr_get (v := .int (S.1 168)) cl2 k2_34 (Nat.le_of_ble_eq_true rfl) rfl rfl dX2_isUnder_6 ?_
    refine rr_icmp_ge (tgt := 33) dX2_isUnder_9 (by decide) (fun _ => ?_) (fun _ => ?_)
    · refine rr_iconst (v := 0) dX2_isUnder_33 (by decide) ?_
      exact rr_zret dX2_isUnder_34 rfl (by decide) rfl rfl rfl rfl
    · refine rr_aload_n dX2_isUnder_12 rfl 0 rfl ?_
      refine rr_get (v := .ref 1) cl2 k2_43 (Nat.le_of_ble_eq_true rfl) rfl rfl dX2_isUnder_13 ?_
      refine rr_aload_n dX2_isUnder_16 rfl 0 rfl ?_
      refine rr_get (v := .ref 11) cl2 k2_9 (Nat.le_of_ble_eq_true rfl) rfl rfl dX2_isUnder_17 ?_
      refine rr_iload_n dX2_isUnder_20 rfl 1 rfl ?_
      refine rr_if (fun z => ?_)
      refine rr_iald (len := 5) rfl (inb_in z) dX2_isUnder_21 ?_
      refine rr_iload_n dX2_isUnder_22 rfl 2 rfl ?_
      refine rr_vi (As := [.int (S.2.1 11 x1.toNatClampNeg), .int x2]) (rest := []) (tX8_isUnder P S ((S.2.1 11 x1.toNatClampNeg)) x2) v2_47 rfl rfl ⟨Nat.le_of_ble_eq_true rfl, Nat.le_of_ble_eq_true rfl⟩ rfl rfl (Nat.le_of_ble_eq_true rfl) rfl dX2_isUnder_23 (fun r1 => ?_)
      refine rr_if_eq (tgt := 33) dX2_isUnder_26 (by decide) (fun _ => ?_) (fun _ => ?_)
      · refine rr_iconst (v := 0) dX2_isUnder_33 (by decide) ?_
        exact rr_zret dX2_isUnder_34 rfl (by decide) rfl rfl rfl rfl
      · refine rr_iconst (v := 1) dX2_isUnder_29 (by decide) ?_
        refine rr_goto (tgt := 34) dX2_isUnder_30 (by decide) ?_
        exact rr_zret dX2_isUnder_34 rfl (by decide) rfl rfl rfl rfl
def fX2_fieldTells (P : rr_T) (S : rr_T) (x1 : Int32) (x2 : Int32) : Option Int32 :=
  if x1 < 0 then
  some (-1)
else
  if (S.1 168) ≤ x1 then
    some (-1)
  else
    if x2 < 0 then
      some (-1)
    else
      if x2 < 4 then
        if inb ((2 + (x1 * 4)) + x2) 22 then
          some ((S.2.1 12 ((2 + (x1 * 4)) + x2).toNatClampNeg))
        else none
      else
        some (-1)
set_option maxRecDepth 20000 in
theorem tX2_fieldTells {l : Launch} {G : rr_G} (P : rr_T) (S : rr_T) (x1 : Int32) (x2 : Int32) : TT l G mX2_fieldTells 0 0 fxA rvI (fun _ => xw P S) z0 z0 0 0 [.ref 10, .int x1, .int x2] (xw P S) (fX2_fieldTells P S x1 x2) := by
  refine TT.by (by decide) (Nat.le_of_ble_eq_true rfl) (lv := [(0, .ref 10), (1, .int x1), (2, .int x2)]) rfl ?_
  show RR l G mX2_fieldTells 0 0 fxA rvI (fun _ => xw P S) z0 z0 0 0 0 [(0, .ref 10), (1, .int x1), (2, .int x2)] [] (xw P S) (fX2_fieldTells P S x1 x2)
  unfold fX2_fieldTells
  refine rr_iload_n dX2_fieldTells_0 rfl 1 rfl ?_
  refine rr_if_lt (tgt := 21) dX2_fieldTells_1 (by decide) (fun _ => ?_) (fun _ => ?_)
  · refine rr_iconst (v := (-1)) dX2_fieldTells_21 (by decide) ?_
    exact rr_iret dX2_fieldTells_22 rfl rfl rfl rfl rfl
  · refine rr_iload_n dX2_fieldTells_4 rfl 1 rfl ?_
    refine rr_aload_n dX2_fieldTells_5 rfl 0 rfl ?_
    refine rr_get (v := .int (S.1 168)) cl2 k2_34 (Nat.le_of_ble_eq_true rfl) rfl rfl dX2_fieldTells_6 ?_
    refine rr_icmp_ge (tgt := 21) dX2_fieldTells_9 (by decide) (fun _ => ?_) (fun _ => ?_)
    · refine rr_iconst (v := (-1)) dX2_fieldTells_21 (by decide) ?_
      exact rr_iret dX2_fieldTells_22 rfl rfl rfl rfl rfl
    · refine rr_iload_n dX2_fieldTells_12 rfl 2 rfl ?_
      refine rr_if_lt (tgt := 21) dX2_fieldTells_13 (by decide) (fun _ => ?_) (fun _ => ?_)
      · refine rr_iconst (v := (-1)) dX2_fieldTells_21 (by decide) ?_
        exact rr_iret dX2_fieldTells_22 rfl rfl rfl rfl rfl
      · refine rr_iload_n dX2_fieldTells_16 rfl 2 rfl ?_
        refine rr_iconst (v := 4) dX2_fieldTells_17 (by decide) ?_
        refine rr_icmp_lt (tgt := 23) dX2_fieldTells_18 (by decide) (fun _ => ?_) (fun _ => ?_)
        · refine rr_aload_n dX2_fieldTells_23 rfl 0 rfl ?_
          refine rr_get (v := .ref 12) cl2 k2_15 (Nat.le_of_ble_eq_true rfl) rfl rfl dX2_fieldTells_24 ?_
          refine rr_iconst (v := 2) dX2_fieldTells_27 (by decide) ?_
          refine rr_iload_n dX2_fieldTells_28 rfl 1 rfl ?_
          refine rr_iconst (v := 4) dX2_fieldTells_29 (by decide) ?_
          refine rr_imul dX2_fieldTells_30 ?_
          refine rr_iadd dX2_fieldTells_31 ?_
          refine rr_iload_n dX2_fieldTells_32 rfl 2 rfl ?_
          refine rr_iadd dX2_fieldTells_33 ?_
          refine rr_if (fun z => ?_)
          refine rr_iald (len := 22) rfl (inb_in z) dX2_fieldTells_34 ?_
          exact rr_iret dX2_fieldTells_35 rfl rfl rfl rfl rfl
        · refine rr_iconst (v := (-1)) dX2_fieldTells_21 (by decide) ?_
          exact rr_iret dX2_fieldTells_22 rfl rfl rfl rfl rfl
def fX6_bit (P : rr_T) (S : rr_T) (x2 : Int32) (x3 : Int32) : Option Int32 :=
  (fX2_fieldTells P S x2 x3).bind (fun r1 =>
  if r1 = (-1) then
  some 0
else
  some ((1 <<< (r1 &&& 31))))
set_option maxRecDepth 20000 in
theorem tX6_bit {l : Launch} {G : rr_G} (P : rr_T) (S : rr_T) (x2 : Int32) (x3 : Int32) : TT l G mX6_bit 1 22 fxA rvI (fun _ => xw P S) z0 z0 0 0 [.ref 10, .int x2, .int x3] (xw P S) (fX6_bit P S x2 x3) := by
  refine TT.by (by decide) (Nat.le_of_ble_eq_true rfl) (lv := [(0, .ref 10), (1, .int x2), (2, .int x3)]) rfl ?_
  show RR l G mX6_bit 1 22 fxA rvI (fun _ => xw P S) z0 z0 0 0 0 [(0, .ref 10), (1, .int x2), (2, .int x3)] [] (xw P S) (fX6_bit P S x2 x3)
  unfold fX6_bit
  refine rr_aload_n dX6_bit_0 rfl 0 rfl ?_
  refine rr_iload_n dX6_bit_1 rfl 1 rfl ?_
  refine rr_iload_n dX6_bit_2 rfl 2 rfl ?_
  refine rr_vi (As := [.int x2, .int x3]) (rest := []) (tX2_fieldTells P S x2 x3) v6_48 rfl rfl ⟨Nat.le_of_ble_eq_true rfl, Nat.le_of_ble_eq_true rfl⟩ rfl rfl (Nat.le_of_ble_eq_true rfl) rfl dX6_bit_3 (fun r1 => ?_)
  refine rr_istore_n (lv' := [(3, .int r1), (0, .ref 10), (1, .int x2), (2, .int x3)]) dX6_bit_6 rfl (by decide) rfl ?_
  refine rr_iload_n dX6_bit_7 rfl 0 rfl ?_
  refine rr_iconst (v := (-1)) dX6_bit_8 (by decide) ?_
  refine rr_icmp_ne (tgt := 16) dX6_bit_9 (by decide) (fun _ => ?_) (fun _ => ?_)
  · refine rr_iconst (v := 1) dX6_bit_16 (by decide) ?_
    refine rr_iload_n dX6_bit_17 rfl 0 rfl ?_
    refine rr_ishl dX6_bit_18 ?_
    exact rr_iret dX6_bit_19 rfl rfl rfl rfl rfl
  · refine rr_iconst (v := 0) dX6_bit_12 (by decide) ?_
    refine rr_goto (tgt := 19) dX6_bit_13 (by decide) ?_
    exact rr_iret dX6_bit_19 rfl rfl rfl rfl rfl
def JX6_hasNoCycle_100 (a2 : Int32) : Option Int32 :=
  if a2 = 0 then
  some 1
else
  some 0
set_option maxRecDepth 20000 in
theorem tX6_hasNoCycle_100 {l : Launch} {G : rr_G} (P : rr_T) (S : rr_T) (r : Nat) (zz : 34 ≤ r ∧ r < 34 + P.2.2.2 34 ∧ r < 40) (a2 : Int32) : RR l G mX6_hasNoCycle 2 45 fxA rvI (fun _ => xw P S) z0 z0 0 0 100 [(2, .int a2)] [] (xw P S) (JX6_hasNoCycle_100 a2) := by
  unfold JX6_hasNoCycle_100
  refine rr_iload_n dX6_hasNoCycle_100 rfl 0 rfl ?_
  refine rr_if_ne (tgt := 108) dX6_hasNoCycle_101 (by decide) (fun _ => ?_) (fun _ => ?_)
  · refine rr_iconst (v := 0) dX6_hasNoCycle_108 (by decide) ?_
    exact rr_zret dX6_hasNoCycle_109 rfl (by decide) rfl rfl rfl rfl
  · refine rr_iconst (v := 1) dX6_hasNoCycle_104 (by decide) ?_
    refine rr_goto (tgt := 109) dX6_hasNoCycle_105 (by decide) ?_
    exact rr_zret dX6_hasNoCycle_109 rfl (by decide) rfl rfl rfl rfl
def JX6_hasNoCycle_70 (rec23 : (Int32 × Int32) → Option Int32) (a4 : Int32 × Int32) (a6 : Int32) : Option Int32 :=
  if (a6 &&& a4.1) = 0 then
  rr_l ((a4.1 &&& ((1 <<< (a4.2 &&& 31)) ^^^ (-1)))) (fun v7 =>
    rec23 (v7, (a4.2 + 1)))
else
  rec23 (a4.1, (a4.2 + 1))
set_option maxRecDepth 20000 in
theorem tX6_hasNoCycle_70 {l : Launch} {G : rr_G} (rec23 : (Int32 × Int32) → Option Int32) (a4 : Int32 × Int32) (P : rr_T) (S : rr_T) (r : Nat) (a3 : Int32 × Int32) (zz : 34 ≤ r ∧ r < 34 + P.2.2.2 34 ∧ r < 40) (hrec23 : ∀ a : Int32 × Int32, RR l G mX6_hasNoCycle 2 45 fxA rvI (fun _ => xw P S) z0 z0 0 0 23 [(0, .ref r), (1, .ref 10), (2, .int a.1), (3, .int a3.2), (4, .int a.2)] [] (xw P S) (rec23 a)) (a6 : Int32) : RR l G mX6_hasNoCycle 2 45 fxA rvI (fun _ => xw P S) z0 z0 0 0 70 [(0, .ref r), (1, .ref 10), (2, .int a4.1), (3, .int a3.2), (4, .int a4.2)] [.int a6] (xw P S) (JX6_hasNoCycle_70 rec23 a4 a6) := by
  unfold JX6_hasNoCycle_70
  refine rr_istore (lv' := [(5, .int a6), (0, .ref r), (1, .ref 10), (2, .int a4.1), (3, .int a3.2), (4, .int a4.2)]) dX6_hasNoCycle_70 (by decide) rfl ?_
  refine rr_iload dX6_hasNoCycle_72 0 rfl ?_
  refine rr_iload_n dX6_hasNoCycle_74 rfl 3 rfl ?_
  refine rr_iand dX6_hasNoCycle_75 ?_
  refine rr_if_ne (tgt := 88) dX6_hasNoCycle_76 (by decide) (fun _ => ?_) (fun _ => ?_)
  · refine rr_iinc (lv' := [(4, .int (a4.2 + 1)), (5, .int a6), (0, .ref r), (1, .ref 10), (2, .int a4.1), (3, .int a3.2)]) dX6_hasNoCycle_88 5 rfl (by decide) rfl ?_
    refine rr_goto (tgt := 23) dX6_hasNoCycle_91 (by decide) ?_
    refine rr_sub [2, 3, 4, 5, 0] rfl ?_
    exact hrec23 (a4.1, (a4.2 + 1))
  · refine rr_iload_n dX6_hasNoCycle_79 rfl 3 rfl ?_
    refine rr_iconst (v := 1) dX6_hasNoCycle_80 (by decide) ?_
    refine rr_iload dX6_hasNoCycle_81 5 rfl ?_
    refine rr_ishl dX6_hasNoCycle_83 ?_
    refine rr_iconst (v := (-1)) dX6_hasNoCycle_84 (by decide) ?_
    refine rr_ixor dX6_hasNoCycle_85 ?_
    refine rr_iand dX6_hasNoCycle_86 ?_
    refine rr_letI (fun v7 => ?_)
    refine rr_istore_n (lv' := [(2, .int v7), (5, .int a6), (0, .ref r), (1, .ref 10), (3, .int a3.2), (4, .int a4.2)]) dX6_hasNoCycle_87 rfl (by decide) rfl ?_
    refine rr_iinc (lv' := [(4, .int (a4.2 + 1)), (2, .int v7), (5, .int a6), (0, .ref r), (1, .ref 10), (3, .int a3.2)]) dX6_hasNoCycle_88 5 rfl (by decide) rfl ?_
    refine rr_goto (tgt := 23) dX6_hasNoCycle_91 (by decide) ?_
    refine rr_sub [3, 4, 1, 5, 0] rfl ?_
    exact hrec23 (v7, (a4.2 + 1))
def LX6_hasNoCycle_23 (P : rr_T) (S : rr_T) (r : Nat) (rec11 : (Int32 × Int32) → Option Int32) (a3 : Int32 × Int32) (rec23 : (Int32 × Int32) → Option Int32) (a4 : Int32 × Int32) : Option Int32 :=
  if (S.1 168) ≤ a4.2 then
  rec11 (a4.1, (a3.2 + 1))
else
  (fX2_isUnder P S a4.2 ((P.1 (16 * r + 1)))).bind (fun r5 =>
    if r5 = 0 then
    JX6_hasNoCycle_70 rec23 a4 0
  else
    (fX6_bit P S a4.2 ((P.1 (16 * r + 2)))).bind (fun r8 =>
      (fX6_bit P S a4.2 ((P.1 (16 * r + 3)))).bind (fun r9 =>
      JX6_hasNoCycle_70 rec23 a4 ((r8 ||| r9)))))
set_option maxRecDepth 20000 in
theorem tX6_hasNoCycle_23 {l : Launch} {G : rr_G} (P : rr_T) (S : rr_T) (r : Nat) (rec11 : (Int32 × Int32) → Option Int32) (a3 : Int32 × Int32) (zz : 34 ≤ r ∧ r < 34 + P.2.2.2 34 ∧ r < 40) (hrec11 : ∀ a : Int32 × Int32, RR l G mX6_hasNoCycle 2 45 fxA rvI (fun _ => xw P S) z0 z0 0 0 11 [(0, .ref r), (1, .ref 10), (2, .int a.1), (3, .int a.2)] [] (xw P S) (rec11 a)) : ∀ (n : Nat) (a : Int32 × Int32), RR l G mX6_hasNoCycle 2 45 fxA rvI (fun _ => xw P S) z0 z0 0 0 23 [(0, .ref r), (1, .ref 10), (2, .int a.1), (3, .int a3.2), (4, .int a.2)] [] (xw P S) (rr_loop n (LX6_hasNoCycle_23 P S r rec11 a3) a) := by
  refine rr_lp (α := Int32 × Int32) 23 (fun a => [(0, .ref r), (1, .ref 10), (2, .int a.1), (3, .int a3.2), (4, .int a.2)]) (fun a => (xw P S)) (fun rec23 hrec23 a4 => ?_)
  show RR l G mX6_hasNoCycle 2 45 fxA rvI (fun _ => xw P S) z0 z0 0 0 23 [(0, .ref r), (1, .ref 10), (2, .int a4.1), (3, .int a3.2), (4, .int a4.2)] [] (xw P S) (LX6_hasNoCycle_23 P S r rec11 a3 rec23 a4)
  unfold LX6_hasNoCycle_23
  refine rr_iload dX6_hasNoCycle_23 4 rfl ?_
  refine rr_aload_n dX6_hasNoCycle_25 rfl 1 rfl ?_
  refine rr_get (v := .int (S.1 168)) cl2 k6_37 (Nat.le_of_ble_eq_true rfl) rfl rfl dX6_hasNoCycle_26 ?_
  refine rr_icmp_ge (tgt := 94) dX6_hasNoCycle_29 (by decide) (fun _ => ?_) (fun _ => ?_)
  · refine rr_iinc (lv' := [(3, .int (a3.2 + 1)), (0, .ref r), (1, .ref 10), (2, .int a4.1), (4, .int a4.2)]) dX6_hasNoCycle_94 3 rfl (by decide) rfl ?_
    refine rr_goto (tgt := 11) dX6_hasNoCycle_97 (by decide) ?_
    refine rr_sub [1, 2, 3, 0] rfl ?_
    exact hrec11 (a4.1, (a3.2 + 1))
  · refine rr_aload_n dX6_hasNoCycle_32 rfl 1 rfl ?_
    refine rr_iload dX6_hasNoCycle_33 4 rfl ?_
    refine rr_aload_n dX6_hasNoCycle_35 rfl 0 rfl ?_
    refine rr_get (v := .int (P.1 (16 * r + 1))) cl6 k6_15 (Nat.le_of_ble_eq_true rfl) (xR_at zz) rfl dX6_hasNoCycle_36 ?_
    refine rr_vi (As := [.int a4.2, .int (P.1 (16 * r + 1))]) (rest := []) (tX2_isUnder P S a4.2 ((P.1 (16 * r + 1)))) v6_40 rfl rfl ⟨Nat.le_of_ble_eq_true rfl, Nat.le_of_ble_eq_true rfl⟩ rfl rfl (Nat.le_of_ble_eq_true rfl) rfl dX6_hasNoCycle_39 (fun r5 => ?_)
    refine rr_if_eq (tgt := 69) dX6_hasNoCycle_42 (by decide) (fun _ => ?_) (fun _ => ?_)
    · refine rr_iconst (v := 0) dX6_hasNoCycle_69 (by decide) ?_
      exact tX6_hasNoCycle_70 rec23 a4 P S r a3 zz hrec23 0
    · refine rr_aload_n dX6_hasNoCycle_45 rfl 1 rfl ?_
      refine rr_iload dX6_hasNoCycle_46 4 rfl ?_
      refine rr_aload_n dX6_hasNoCycle_48 rfl 0 rfl ?_
      refine rr_get (v := .int (P.1 (16 * r + 2))) cl6 k6_18 (Nat.le_of_ble_eq_true rfl) (xR_at zz) rfl dX6_hasNoCycle_49 ?_
      refine rr_si (As := [.ref 10, .int a4.2, .int (P.1 (16 * r + 2))]) (rest := []) (tX6_bit P S a4.2 ((P.1 (16 * r + 2)))) s6_52 rfl ⟨Nat.le_of_ble_eq_true rfl, Nat.le_of_ble_eq_true rfl⟩ rfl rfl (Nat.le_of_ble_eq_true rfl) rfl dX6_hasNoCycle_52 (fun r8 => ?_)
      refine rr_aload_n dX6_hasNoCycle_55 rfl 1 rfl ?_
      refine rr_iload dX6_hasNoCycle_56 4 rfl ?_
      refine rr_aload_n dX6_hasNoCycle_58 rfl 0 rfl ?_
      refine rr_get (v := .int (P.1 (16 * r + 3))) cl6 k6_21 (Nat.le_of_ble_eq_true rfl) (xR_at zz) rfl dX6_hasNoCycle_59 ?_
      refine rr_si (As := [.ref 10, .int a4.2, .int (P.1 (16 * r + 3))]) (rest := [.int r8]) (tX6_bit P S a4.2 ((P.1 (16 * r + 3)))) s6_52 rfl ⟨Nat.le_of_ble_eq_true rfl, Nat.le_of_ble_eq_true rfl⟩ rfl rfl (Nat.le_of_ble_eq_true rfl) rfl dX6_hasNoCycle_62 (fun r9 => ?_)
      refine rr_ior dX6_hasNoCycle_65 ?_
      refine rr_goto (tgt := 70) dX6_hasNoCycle_66 (by decide) ?_
      exact tX6_hasNoCycle_70 rec23 a4 P S r a3 zz hrec23 ((r8 ||| r9))
def LX6_hasNoCycle_11 (P : rr_T) (S : rr_T) (r : Nat) (rec11 : (Int32 × Int32) → Option Int32) (a3 : Int32 × Int32) : Option Int32 :=
  if 5 ≤ a3.2 then
  JX6_hasNoCycle_100 a3.1
else
  if a3.1 = 0 then
    JX6_hasNoCycle_100 a3.1
  else
    rr_loop FU (LX6_hasNoCycle_23 P S r rec11 a3) (a3.1, 0)
set_option maxRecDepth 20000 in
theorem tX6_hasNoCycle_11 {l : Launch} {G : rr_G} (P : rr_T) (S : rr_T) (r : Nat) (zz : 34 ≤ r ∧ r < 34 + P.2.2.2 34 ∧ r < 40) : ∀ (n : Nat) (a : Int32 × Int32), RR l G mX6_hasNoCycle 2 45 fxA rvI (fun _ => xw P S) z0 z0 0 0 11 [(0, .ref r), (1, .ref 10), (2, .int a.1), (3, .int a.2)] [] (xw P S) (rr_loop n (LX6_hasNoCycle_11 P S r) a) := by
  refine rr_lp (α := Int32 × Int32) 11 (fun a => [(0, .ref r), (1, .ref 10), (2, .int a.1), (3, .int a.2)]) (fun a => (xw P S)) (fun rec11 hrec11 a3 => ?_)
  show RR l G mX6_hasNoCycle 2 45 fxA rvI (fun _ => xw P S) z0 z0 0 0 11 [(0, .ref r), (1, .ref 10), (2, .int a3.1), (3, .int a3.2)] [] (xw P S) (LX6_hasNoCycle_11 P S r rec11 a3)
  unfold LX6_hasNoCycle_11
  refine rr_iload_n dX6_hasNoCycle_11 rfl 3 rfl ?_
  refine rr_iconst (v := 5) dX6_hasNoCycle_12 (by decide) ?_
  refine rr_icmp_ge (tgt := 100) dX6_hasNoCycle_13 (by decide) (fun _ => ?_) (fun _ => ?_)
  · refine rr_sub [2] rfl ?_
    exact tX6_hasNoCycle_100 P S r zz a3.1
  · refine rr_iload_n dX6_hasNoCycle_16 rfl 2 rfl ?_
    refine rr_if_eq (tgt := 100) dX6_hasNoCycle_17 (by decide) (fun _ => ?_) (fun _ => ?_)
    · refine rr_sub [2] rfl ?_
      exact tX6_hasNoCycle_100 P S r zz a3.1
    · refine rr_iconst (v := 0) dX6_hasNoCycle_20 (by decide) ?_
      refine rr_istore (lv' := [(4, .int 0), (0, .ref r), (1, .ref 10), (2, .int a3.1), (3, .int a3.2)]) dX6_hasNoCycle_21 (by decide) rfl ?_
      refine rr_sub [1, 2, 3, 4, 0] rfl ?_
      exact tX6_hasNoCycle_23 P S r rec11 a3 zz hrec11 FU (a3.1, 0)
def fX6_hasNoCycle (P : rr_T) (S : rr_T) (r : Nat) : Option Int32 :=
  if 34 ≤ r ∧ r < 34 + P.2.2.2 34 ∧ r < 40 then
  rr_l (((1 <<< ((S.1 168) &&& 31)) - 1)) (fun v1 =>
    rr_loop FU (LX6_hasNoCycle_11 P S r) (v1, 0))
else none
set_option maxRecDepth 20000 in
theorem tX6_hasNoCycle {l : Launch} {G : rr_G} (P : rr_T) (S : rr_T) (r : Nat) : TT l G mX6_hasNoCycle 2 45 fxA rvI (fun _ => xw P S) z0 z0 0 0 [.ref r, .ref 10] (xw P S) (fX6_hasNoCycle P S r) := by
  refine TT.by (by decide) (Nat.le_of_ble_eq_true rfl) (lv := [(0, .ref r), (1, .ref 10)]) rfl ?_
  show RR l G mX6_hasNoCycle 2 45 fxA rvI (fun _ => xw P S) z0 z0 0 0 0 [(0, .ref r), (1, .ref 10)] [] (xw P S) (fX6_hasNoCycle P S r)
  unfold fX6_hasNoCycle
  refine rr_if (fun zz => ?_)
  refine rr_iconst (v := 1) dX6_hasNoCycle_0 (by decide) ?_
  refine rr_aload_n dX6_hasNoCycle_1 rfl 1 rfl ?_
  refine rr_get (v := .int (S.1 168)) cl2 k6_37 (Nat.le_of_ble_eq_true rfl) rfl rfl dX6_hasNoCycle_2 ?_
  refine rr_ishl dX6_hasNoCycle_5 ?_
  refine rr_iconst (v := 1) dX6_hasNoCycle_6 (by decide) ?_
  refine rr_isub dX6_hasNoCycle_7 ?_
  refine rr_letI (fun v1 => ?_)
  refine rr_istore_n (lv' := [(2, .int v1), (0, .ref r), (1, .ref 10)]) dX6_hasNoCycle_8 rfl (by decide) rfl ?_
  refine rr_iconst (v := 0) dX6_hasNoCycle_9 (by decide) ?_
  refine rr_istore_n (lv' := [(3, .int 0), (2, .int v1), (0, .ref r), (1, .ref 10)]) dX6_hasNoCycle_10 rfl (by decide) rfl ?_
  refine rr_sub [2, 3, 1, 0] rfl ?_
  exact tX6_hasNoCycle_11 P S r zz FU (v1, 0)
def LX6_sharesNothing_4 (P : rr_T) (S : rr_T) (r : Nat) (rec4 : (Int32 × Int32) → Option Int32) (a1 : Int32 × Int32) : Option Int32 :=
  if (S.1 168) ≤ a1.2 then
  some 1
else
  (fX2_isUnder P S a1.2 ((P.1 (16 * r + 1)))).bind (fun r2 =>
    if r2 = 0 then
    rec4 (a1.1, (a1.2 + 1))
  else
    (fX6_bit P S a1.2 ((P.1 (16 * r + 2)))).bind (fun r3 =>
      (fX6_bit P S a1.2 ((P.1 (16 * r + 3)))).bind (fun r4 =>
      if (r3 &&& r4) = 0 then
      if ((r3 ||| r4) &&& a1.1) = 0 then
        rr_l ((a1.1 ||| (r3 ||| r4))) (fun v5 =>
          rec4 (v5, (a1.2 + 1)))
      else
        some 0
    else
      some 0)))
set_option maxRecDepth 20000 in
theorem tX6_sharesNothing_4 {l : Launch} {G : rr_G} (P : rr_T) (S : rr_T) (r : Nat) (zz : 34 ≤ r ∧ r < 34 + P.2.2.2 34 ∧ r < 40) : ∀ (n : Nat) (a : Int32 × Int32), RR l G mX6_sharesNothing 2 45 fxA rvI (fun _ => xw P S) z0 z0 0 0 4 [(0, .ref r), (1, .ref 10), (2, .int a.1), (3, .int a.2)] [] (xw P S) (rr_loop n (LX6_sharesNothing_4 P S r) a) := by
  refine rr_lp (α := Int32 × Int32) 4 (fun a => [(0, .ref r), (1, .ref 10), (2, .int a.1), (3, .int a.2)]) (fun a => (xw P S)) (fun rec4 hrec4 a1 => ?_)
  show RR l G mX6_sharesNothing 2 45 fxA rvI (fun _ => xw P S) z0 z0 0 0 4 [(0, .ref r), (1, .ref 10), (2, .int a1.1), (3, .int a1.2)] [] (xw P S) (LX6_sharesNothing_4 P S r rec4 a1)
  unfold LX6_sharesNothing_4
  refine rr_iload_n dX6_sharesNothing_4 rfl 3 rfl ?_
  refine rr_aload_n dX6_sharesNothing_5 rfl 1 rfl ?_
  refine rr_get (v := .int (S.1 168)) cl2 k6_37 (Nat.le_of_ble_eq_true rfl) rfl rfl dX6_sharesNothing_6 ?_
  refine rr_icmp_ge (tgt := 80) dX6_sharesNothing_9 (by decide) (fun _ => ?_) (fun _ => ?_)
  · refine rr_iconst (v := 1) dX6_sharesNothing_80 (by decide) ?_
    exact rr_zret dX6_sharesNothing_81 rfl (by decide) rfl rfl rfl rfl
  · refine rr_aload_n dX6_sharesNothing_12 rfl 1 rfl ?_
    refine rr_iload_n dX6_sharesNothing_13 rfl 3 rfl ?_
    refine rr_aload_n dX6_sharesNothing_14 rfl 0 rfl ?_
    refine rr_get (v := .int (P.1 (16 * r + 1))) cl6 k6_15 (Nat.le_of_ble_eq_true rfl) (xR_at zz) rfl dX6_sharesNothing_15 ?_
    refine rr_vi (As := [.int a1.2, .int (P.1 (16 * r + 1))]) (rest := []) (tX2_isUnder P S a1.2 ((P.1 (16 * r + 1)))) v6_40 rfl rfl ⟨Nat.le_of_ble_eq_true rfl, Nat.le_of_ble_eq_true rfl⟩ rfl rfl (Nat.le_of_ble_eq_true rfl) rfl dX6_sharesNothing_18 (fun r2 => ?_)
    refine rr_if_eq (tgt := 74) dX6_sharesNothing_21 (by decide) (fun _ => ?_) (fun _ => ?_)
    · refine rr_iinc (lv' := [(3, .int (a1.2 + 1)), (0, .ref r), (1, .ref 10), (2, .int a1.1)]) dX6_sharesNothing_74 3 rfl (by decide) rfl ?_
      refine rr_goto (tgt := 4) dX6_sharesNothing_77 (by decide) ?_
      refine rr_sub [1, 2, 3, 0] rfl ?_
      exact hrec4 (a1.1, (a1.2 + 1))
    · refine rr_aload_n dX6_sharesNothing_24 rfl 1 rfl ?_
      refine rr_iload_n dX6_sharesNothing_25 rfl 3 rfl ?_
      refine rr_aload_n dX6_sharesNothing_26 rfl 0 rfl ?_
      refine rr_get (v := .int (P.1 (16 * r + 2))) cl6 k6_18 (Nat.le_of_ble_eq_true rfl) (xR_at zz) rfl dX6_sharesNothing_27 ?_
      refine rr_si (As := [.ref 10, .int a1.2, .int (P.1 (16 * r + 2))]) (rest := []) (tX6_bit P S a1.2 ((P.1 (16 * r + 2)))) s6_52 rfl ⟨Nat.le_of_ble_eq_true rfl, Nat.le_of_ble_eq_true rfl⟩ rfl rfl (Nat.le_of_ble_eq_true rfl) rfl dX6_sharesNothing_30 (fun r3 => ?_)
      refine rr_istore (lv' := [(4, .int r3), (0, .ref r), (1, .ref 10), (2, .int a1.1), (3, .int a1.2)]) dX6_sharesNothing_33 (by decide) rfl ?_
      refine rr_aload_n dX6_sharesNothing_35 rfl 2 rfl ?_
      refine rr_iload_n dX6_sharesNothing_36 rfl 4 rfl ?_
      refine rr_aload_n dX6_sharesNothing_37 rfl 1 rfl ?_
      refine rr_get (v := .int (P.1 (16 * r + 3))) cl6 k6_21 (Nat.le_of_ble_eq_true rfl) (xR_at zz) rfl dX6_sharesNothing_38 ?_
      refine rr_si (As := [.ref 10, .int a1.2, .int (P.1 (16 * r + 3))]) (rest := []) (tX6_bit P S a1.2 ((P.1 (16 * r + 3)))) s6_52 rfl ⟨Nat.le_of_ble_eq_true rfl, Nat.le_of_ble_eq_true rfl⟩ rfl rfl (Nat.le_of_ble_eq_true rfl) rfl dX6_sharesNothing_41 (fun r4 => ?_)
      refine rr_istore (lv' := [(5, .int r4), (4, .int r3), (0, .ref r), (1, .ref 10), (2, .int a1.1), (3, .int a1.2)]) dX6_sharesNothing_44 (by decide) rfl ?_
      refine rr_iload dX6_sharesNothing_46 1 rfl ?_
      refine rr_iload dX6_sharesNothing_48 0 rfl ?_
      refine rr_iand dX6_sharesNothing_50 ?_
      refine rr_if_ne (tgt := 64) dX6_sharesNothing_51 (by decide) (fun _ => ?_) (fun _ => ?_)
      · refine rr_iconst (v := 0) dX6_sharesNothing_64 (by decide) ?_
        exact rr_zret dX6_sharesNothing_65 rfl (by decide) rfl rfl rfl rfl
      · refine rr_iload dX6_sharesNothing_54 1 rfl ?_
        refine rr_iload dX6_sharesNothing_56 0 rfl ?_
        refine rr_ior dX6_sharesNothing_58 ?_
        refine rr_iload_n dX6_sharesNothing_59 rfl 4 rfl ?_
        refine rr_iand dX6_sharesNothing_60 ?_
        refine rr_if_eq (tgt := 66) dX6_sharesNothing_61 (by decide) (fun _ => ?_) (fun _ => ?_)
        · refine rr_iload_n dX6_sharesNothing_66 rfl 4 rfl ?_
          refine rr_iload dX6_sharesNothing_67 1 rfl ?_
          refine rr_iload dX6_sharesNothing_69 0 rfl ?_
          refine rr_ior dX6_sharesNothing_71 ?_
          refine rr_ior dX6_sharesNothing_72 ?_
          refine rr_letI (fun v5 => ?_)
          refine rr_istore_n (lv' := [(2, .int v5), (5, .int r4), (4, .int r3), (0, .ref r), (1, .ref 10), (3, .int a1.2)]) dX6_sharesNothing_73 rfl (by decide) rfl ?_
          refine rr_iinc (lv' := [(3, .int (a1.2 + 1)), (2, .int v5), (5, .int r4), (4, .int r3), (0, .ref r), (1, .ref 10)]) dX6_sharesNothing_74 5 rfl (by decide) rfl ?_
          refine rr_goto (tgt := 4) dX6_sharesNothing_77 (by decide) ?_
          refine rr_sub [4, 5, 1, 0] rfl ?_
          exact hrec4 (v5, (a1.2 + 1))
        · refine rr_iconst (v := 0) dX6_sharesNothing_64 (by decide) ?_
          exact rr_zret dX6_sharesNothing_65 rfl (by decide) rfl rfl rfl rfl
def fX6_sharesNothing (P : rr_T) (S : rr_T) (r : Nat) : Option Int32 :=
  if 34 ≤ r ∧ r < 34 + P.2.2.2 34 ∧ r < 40 then
  rr_loop FU (LX6_sharesNothing_4 P S r) (0, 0)
else none
set_option maxRecDepth 20000 in
theorem tX6_sharesNothing {l : Launch} {G : rr_G} (P : rr_T) (S : rr_T) (r : Nat) : TT l G mX6_sharesNothing 2 45 fxA rvI (fun _ => xw P S) z0 z0 0 0 [.ref r, .ref 10] (xw P S) (fX6_sharesNothing P S r) := by
  refine TT.by (by decide) (Nat.le_of_ble_eq_true rfl) (lv := [(0, .ref r), (1, .ref 10)]) rfl ?_
  show RR l G mX6_sharesNothing 2 45 fxA rvI (fun _ => xw P S) z0 z0 0 0 0 [(0, .ref r), (1, .ref 10)] [] (xw P S) (fX6_sharesNothing P S r)
  unfold fX6_sharesNothing
  refine rr_if (fun zz => ?_)
  refine rr_iconst (v := 0) dX6_sharesNothing_0 (by decide) ?_
  refine rr_istore_n (lv' := [(2, .int 0), (0, .ref r), (1, .ref 10)]) dX6_sharesNothing_1 rfl (by decide) rfl ?_
  refine rr_iconst (v := 0) dX6_sharesNothing_2 (by decide) ?_
  refine rr_istore_n (lv' := [(3, .int 0), (2, .int 0), (0, .ref r), (1, .ref 10)]) dX6_sharesNothing_3 rfl (by decide) rfl ?_
  refine rr_sub [2, 3, 1, 0] rfl ?_
  exact tX6_sharesNothing_4 P S r zz FU (0, 0)
def fX2_inputTells (P : rr_T) (S : rr_T) (x1 : Int32) : Option Int32 :=
  if x1 < 0 then
  some (-1)
else
  if (S.1 21) ≤ x1 then
    some (-1)
  else
    if inb x1 22 then
      some ((S.2.1 12 x1.toNatClampNeg))
    else none
set_option maxRecDepth 20000 in
theorem tX2_inputTells {l : Launch} {G : rr_G} (P : rr_T) (S : rr_T) (x1 : Int32) : TT l G mX2_inputTells 0 0 fxA rvI (fun _ => xw P S) z0 z0 0 0 [.ref 10, .int x1] (xw P S) (fX2_inputTells P S x1) := by
  refine TT.by (by decide) (Nat.le_of_ble_eq_true rfl) (lv := [(0, .ref 10), (1, .int x1)]) rfl ?_
  show RR l G mX2_inputTells 0 0 fxA rvI (fun _ => xw P S) z0 z0 0 0 0 [(0, .ref 10), (1, .int x1)] [] (xw P S) (fX2_inputTells P S x1)
  unfold fX2_inputTells
  refine rr_iload_n dX2_inputTells_0 rfl 1 rfl ?_
  refine rr_if_lt (tgt := 24) dX2_inputTells_1 (by decide) (fun _ => ?_) (fun _ => ?_)
  · refine rr_iconst (v := (-1)) dX2_inputTells_24 (by decide) ?_
    exact rr_iret dX2_inputTells_25 rfl rfl rfl rfl rfl
  · refine rr_iload_n dX2_inputTells_4 rfl 1 rfl ?_
    refine rr_aload_n dX2_inputTells_5 rfl 0 rfl ?_
    refine rr_get (v := .ref 1) cl2 k2_43 (Nat.le_of_ble_eq_true rfl) rfl rfl dX2_inputTells_6 ?_
    refine rr_get (v := .int (S.1 21)) cl8 k2_53 (Nat.le_of_ble_eq_true rfl) rfl rfl dX2_inputTells_9 ?_
    refine rr_icmp_ge (tgt := 24) dX2_inputTells_12 (by decide) (fun _ => ?_) (fun _ => ?_)
    · refine rr_iconst (v := (-1)) dX2_inputTells_24 (by decide) ?_
      exact rr_iret dX2_inputTells_25 rfl rfl rfl rfl rfl
    · refine rr_aload_n dX2_inputTells_15 rfl 0 rfl ?_
      refine rr_get (v := .ref 12) cl2 k2_15 (Nat.le_of_ble_eq_true rfl) rfl rfl dX2_inputTells_16 ?_
      refine rr_iload_n dX2_inputTells_19 rfl 1 rfl ?_
      refine rr_if (fun z => ?_)
      refine rr_iald (len := 22) rfl (inb_in z) dX2_inputTells_20 ?_
      refine rr_goto (tgt := 25) dX2_inputTells_21 (by decide) ?_
      exact rr_iret dX2_inputTells_25 rfl rfl rfl rfl rfl
def JX6_holdsAt_165 (a7 : Int32) (a9 : Int32) : Option Int32 :=
  if a7 = a9 then
  some 1
else
  some 0
set_option maxRecDepth 20000 in
theorem tX6_holdsAt_165 {l : Launch} {G : rr_G} (a7 : Int32) (P : rr_T) (S : rr_T) (r : Nat) (zz : 34 ≤ r ∧ r < 34 + P.2.2.2 34 ∧ r < 40) (a9 : Int32) : RR l G mX6_holdsAt 2 44 fxA rvI (fun _ => xw P S) z0 z0 0 0 165 [] [.int a9, .int a7] (xw P S) (JX6_holdsAt_165 a7 a9) := by
  unfold JX6_holdsAt_165
  refine rr_icmp_ne (tgt := 172) dX6_holdsAt_165 (by decide) (fun _ => ?_) (fun _ => ?_)
  · refine rr_iconst (v := 0) dX6_holdsAt_172 (by decide) ?_
    exact rr_zret dX6_holdsAt_173 rfl (by decide) rfl rfl rfl rfl
  · refine rr_iconst (v := 1) dX6_holdsAt_168 (by decide) ?_
    refine rr_goto (tgt := 173) dX6_holdsAt_169 (by decide) ?_
    exact rr_zret dX6_holdsAt_173 rfl (by decide) rfl rfl rfl rfl
def JX6_holdsAt_148 (P : rr_T) (S : rr_T) (r : Nat) (x2 : Int32) (a7 : Int32) : Option Int32 :=
  (fX2_fieldTells P S x2 ((P.1 (16 * r + 3)))).bind (fun r8 =>
  if r8 = 0 then
  JX6_holdsAt_165 a7 1
else
  JX6_holdsAt_165 a7 0)
set_option maxRecDepth 20000 in
theorem tX6_holdsAt_148 {l : Launch} {G : rr_G} (P : rr_T) (S : rr_T) (r : Nat) (x2 : Int32) (zz : 34 ≤ r ∧ r < 34 + P.2.2.2 34 ∧ r < 40) (a7 : Int32) : RR l G mX6_holdsAt 2 44 fxA rvI (fun _ => xw P S) z0 z0 0 0 148 [(0, .ref r), (1, .ref 10), (2, .int x2)] [.int a7] (xw P S) (JX6_holdsAt_148 P S r x2 a7) := by
  unfold JX6_holdsAt_148
  refine rr_aload_n dX6_holdsAt_148 rfl 1 rfl ?_
  refine rr_iload_n dX6_holdsAt_149 rfl 2 rfl ?_
  refine rr_aload_n dX6_holdsAt_150 rfl 0 rfl ?_
  refine rr_get (v := .int (P.1 (16 * r + 3))) cl6 k6_21 (Nat.le_of_ble_eq_true rfl) (xR_at zz) rfl dX6_holdsAt_151 ?_
  refine rr_vi (As := [.int x2, .int (P.1 (16 * r + 3))]) (rest := [.int a7]) (tX2_fieldTells P S x2 ((P.1 (16 * r + 3)))) v6_48 rfl rfl ⟨Nat.le_of_ble_eq_true rfl, Nat.le_of_ble_eq_true rfl⟩ rfl rfl (Nat.le_of_ble_eq_true rfl) rfl dX6_holdsAt_154 (fun r8 => ?_)
  refine rr_if_ne (tgt := 164) dX6_holdsAt_157 (by decide) (fun _ => ?_) (fun _ => ?_)
  · refine rr_iconst (v := 0) dX6_holdsAt_164 (by decide) ?_
    refine rr_sub [] rfl ?_
    exact tX6_holdsAt_165 a7 P S r zz 0
  · refine rr_iconst (v := 1) dX6_holdsAt_160 (by decide) ?_
    refine rr_goto (tgt := 165) dX6_holdsAt_161 (by decide) ?_
    refine rr_sub [] rfl ?_
    exact tX6_holdsAt_165 a7 P S r zz 1
def fX6_holdsAt (P : rr_T) (S : rr_T) (r : Nat) (x2 : Int32) : Option Int32 :=
  if 34 ≤ r ∧ r < 34 + P.2.2.2 34 ∧ r < 40 then
  (fX2_fieldTells P S x2 ((P.1 (16 * r + 2)))).bind (fun r1 =>
    if (P.1 (16 * r)) = 0 then
    if r1 = (-1) then
      some 0
    else
      some 1
  else
    if (P.1 (16 * r)) = 1 then
      some 1
    else
      if (P.1 (16 * r)) = 2 then
        some 1
      else
        if (P.1 (16 * r)) = 3 then
          if r1 = (-1) then
            some 1
          else
            (fX2_isUnder P S r1 ((P.1 (16 * r + 1)))).bind (fun r2 =>
              if r2 = 0 then
              some 0
            else
              (fX2_fieldTells P S r1 ((P.1 (16 * r + 3)))).bind (fun r3 =>
                if r3 = x2 then
                some 1
              else
                some 0))
        else
          if (P.1 (16 * r)) = 4 then
            (fX2_isUnder P S r1 ((P.1 (16 * r + 1)))).bind (fun r4 =>
              if r4 = 0 then
              some 1
            else
              (fX2_fieldTells P S x2 ((P.1 (16 * r + 3)))).bind (fun r5 =>
                (fX2_fieldTells P S r1 ((P.1 (16 * r + 3)))).bind (fun r6 =>
                if r6 < r5 then
                some 0
              else
                some 1)))
          else
            if (P.1 (16 * r)) = 5 then
              if r1 = (-1) then
                JX6_holdsAt_148 P S r x2 1
              else
                JX6_holdsAt_148 P S r x2 0
            else
              some 1)
else none
set_option maxRecDepth 20000 in
theorem tX6_holdsAt {l : Launch} {G : rr_G} (P : rr_T) (S : rr_T) (r : Nat) (x2 : Int32) : TT l G mX6_holdsAt 2 44 fxA rvI (fun _ => xw P S) z0 z0 0 0 [.ref r, .ref 10, .int x2] (xw P S) (fX6_holdsAt P S r x2) := by
  refine TT.by (by decide) (Nat.le_of_ble_eq_true rfl) (lv := [(0, .ref r), (1, .ref 10), (2, .int x2)]) rfl ?_
  show RR l G mX6_holdsAt 2 44 fxA rvI (fun _ => xw P S) z0 z0 0 0 0 [(0, .ref r), (1, .ref 10), (2, .int x2)] [] (xw P S) (fX6_holdsAt P S r x2)
  unfold fX6_holdsAt
  refine rr_if (fun zz => ?_)
  refine rr_aload_n dX6_holdsAt_0 rfl 1 rfl ?_
  refine rr_iload_n dX6_holdsAt_1 rfl 2 rfl ?_
  refine rr_aload_n dX6_holdsAt_2 rfl 0 rfl ?_
  refine rr_get (v := .int (P.1 (16 * r + 2))) cl6 k6_18 (Nat.le_of_ble_eq_true rfl) (xR_at zz) rfl dX6_holdsAt_3 ?_
  refine rr_vi (As := [.int x2, .int (P.1 (16 * r + 2))]) (rest := []) (tX2_fieldTells P S x2 ((P.1 (16 * r + 2)))) v6_48 rfl rfl ⟨Nat.le_of_ble_eq_true rfl, Nat.le_of_ble_eq_true rfl⟩ rfl rfl (Nat.le_of_ble_eq_true rfl) rfl dX6_holdsAt_6 (fun r1 => ?_)
  refine rr_istore_n (lv' := [(3, .int r1), (0, .ref r), (1, .ref 10), (2, .int x2)]) dX6_holdsAt_9 rfl (by decide) rfl ?_
  refine rr_aload_n dX6_holdsAt_10 rfl 1 rfl ?_
  refine rr_get (v := .int (P.1 (16 * r))) cl6 k6_9 (Nat.le_of_ble_eq_true rfl) (xR_at zz) rfl dX6_holdsAt_11 ?_
  refine rr_ite (fun z => ?_) (fun z0 => ?_)
  · refine rr_tableIn (off := 38) (tgt := 52) dX6_holdsAt_14 (by rw [z]; decide) (by rw [z]; decide) (by rw [z]; decide) (by decide) ?_
    refine rr_iload_n dX6_holdsAt_52 rfl 0 rfl ?_
    refine rr_iconst (v := (-1)) dX6_holdsAt_53 (by decide) ?_
    refine rr_icmp_eq (tgt := 61) dX6_holdsAt_54 (by decide) (fun _ => ?_) (fun _ => ?_)
    · refine rr_iconst (v := 0) dX6_holdsAt_61 (by decide) ?_
      exact rr_zret dX6_holdsAt_62 rfl (by decide) rfl rfl rfl rfl
    · refine rr_iconst (v := 1) dX6_holdsAt_57 (by decide) ?_
      refine rr_goto (tgt := 62) dX6_holdsAt_58 (by decide) ?_
      exact rr_zret dX6_holdsAt_62 rfl (by decide) rfl rfl rfl rfl
  · refine rr_ite (fun z => ?_) (fun z1 => ?_)
    · refine rr_tableIn (off := 160) (tgt := 174) dX6_holdsAt_14 (by rw [z]; decide) (by rw [z]; decide) (by rw [z]; decide) (by decide) ?_
      refine rr_iconst (v := 1) dX6_holdsAt_174 (by decide) ?_
      exact rr_zret dX6_holdsAt_175 rfl (by decide) rfl rfl rfl rfl
    · refine rr_ite (fun z => ?_) (fun z2 => ?_)
      · refine rr_tableIn (off := 160) (tgt := 174) dX6_holdsAt_14 (by rw [z]; decide) (by rw [z]; decide) (by rw [z]; decide) (by decide) ?_
        refine rr_iconst (v := 1) dX6_holdsAt_174 (by decide) ?_
        exact rr_zret dX6_holdsAt_175 rfl (by decide) rfl rfl rfl rfl
      · refine rr_ite (fun z => ?_) (fun z3 => ?_)
        · refine rr_tableIn (off := 49) (tgt := 63) dX6_holdsAt_14 (by rw [z]; decide) (by rw [z]; decide) (by rw [z]; decide) (by decide) ?_
          refine rr_iload_n dX6_holdsAt_63 rfl 0 rfl ?_
          refine rr_iconst (v := (-1)) dX6_holdsAt_64 (by decide) ?_
          refine rr_icmp_eq (tgt := 93) dX6_holdsAt_65 (by decide) (fun _ => ?_) (fun _ => ?_)
          · refine rr_iconst (v := 1) dX6_holdsAt_93 (by decide) ?_
            refine rr_goto (tgt := 98) dX6_holdsAt_94 (by decide) ?_
            exact rr_zret dX6_holdsAt_98 rfl (by decide) rfl rfl rfl rfl
          · refine rr_aload_n dX6_holdsAt_68 rfl 2 rfl ?_
            refine rr_iload_n dX6_holdsAt_69 rfl 0 rfl ?_
            refine rr_aload_n dX6_holdsAt_70 rfl 1 rfl ?_
            refine rr_get (v := .int (P.1 (16 * r + 1))) cl6 k6_15 (Nat.le_of_ble_eq_true rfl) (xR_at zz) rfl dX6_holdsAt_71 ?_
            refine rr_vi (As := [.int r1, .int (P.1 (16 * r + 1))]) (rest := []) (tX2_isUnder P S r1 ((P.1 (16 * r + 1)))) v6_40 rfl rfl ⟨Nat.le_of_ble_eq_true rfl, Nat.le_of_ble_eq_true rfl⟩ rfl rfl (Nat.le_of_ble_eq_true rfl) rfl dX6_holdsAt_74 (fun r2 => ?_)
            refine rr_if_eq (tgt := 97) dX6_holdsAt_77 (by decide) (fun _ => ?_) (fun _ => ?_)
            · refine rr_iconst (v := 0) dX6_holdsAt_97 (by decide) ?_
              exact rr_zret dX6_holdsAt_98 rfl (by decide) rfl rfl rfl rfl
            · refine rr_aload_n dX6_holdsAt_80 rfl 2 rfl ?_
              refine rr_iload_n dX6_holdsAt_81 rfl 0 rfl ?_
              refine rr_aload_n dX6_holdsAt_82 rfl 1 rfl ?_
              refine rr_get (v := .int (P.1 (16 * r + 3))) cl6 k6_21 (Nat.le_of_ble_eq_true rfl) (xR_at zz) rfl dX6_holdsAt_83 ?_
              refine rr_vi (As := [.int r1, .int (P.1 (16 * r + 3))]) (rest := []) (tX2_fieldTells P S r1 ((P.1 (16 * r + 3)))) v6_48 rfl rfl ⟨Nat.le_of_ble_eq_true rfl, Nat.le_of_ble_eq_true rfl⟩ rfl rfl (Nat.le_of_ble_eq_true rfl) rfl dX6_holdsAt_86 (fun r3 => ?_)
              refine rr_iload_n dX6_holdsAt_89 rfl 3 rfl ?_
              refine rr_icmp_ne (tgt := 97) dX6_holdsAt_90 (by decide) (fun _ => ?_) (fun _ => ?_)
              · refine rr_iconst (v := 0) dX6_holdsAt_97 (by decide) ?_
                exact rr_zret dX6_holdsAt_98 rfl (by decide) rfl rfl rfl rfl
              · refine rr_iconst (v := 1) dX6_holdsAt_93 (by decide) ?_
                refine rr_goto (tgt := 98) dX6_holdsAt_94 (by decide) ?_
                exact rr_zret dX6_holdsAt_98 rfl (by decide) rfl rfl rfl rfl
        · refine rr_ite (fun z => ?_) (fun z4 => ?_)
          · refine rr_tableIn (off := 85) (tgt := 99) dX6_holdsAt_14 (by rw [z]; decide) (by rw [z]; decide) (by rw [z]; decide) (by decide) ?_
            refine rr_aload_n dX6_holdsAt_99 rfl 2 rfl ?_
            refine rr_iload_n dX6_holdsAt_100 rfl 0 rfl ?_
            refine rr_aload_n dX6_holdsAt_101 rfl 1 rfl ?_
            refine rr_get (v := .int (P.1 (16 * r + 1))) cl6 k6_15 (Nat.le_of_ble_eq_true rfl) (xR_at zz) rfl dX6_holdsAt_102 ?_
            refine rr_vi (As := [.int r1, .int (P.1 (16 * r + 1))]) (rest := []) (tX2_isUnder P S r1 ((P.1 (16 * r + 1)))) v6_40 rfl rfl ⟨Nat.le_of_ble_eq_true rfl, Nat.le_of_ble_eq_true rfl⟩ rfl rfl (Nat.le_of_ble_eq_true rfl) rfl dX6_holdsAt_105 (fun r4 => ?_)
            refine rr_if_eq (tgt := 132) dX6_holdsAt_108 (by decide) (fun _ => ?_) (fun _ => ?_)
            · refine rr_iconst (v := 1) dX6_holdsAt_132 (by decide) ?_
              refine rr_goto (tgt := 137) dX6_holdsAt_133 (by decide) ?_
              exact rr_zret dX6_holdsAt_137 rfl (by decide) rfl rfl rfl rfl
            · refine rr_aload_n dX6_holdsAt_111 rfl 2 rfl ?_
              refine rr_iload_n dX6_holdsAt_112 rfl 3 rfl ?_
              refine rr_aload_n dX6_holdsAt_113 rfl 1 rfl ?_
              refine rr_get (v := .int (P.1 (16 * r + 3))) cl6 k6_21 (Nat.le_of_ble_eq_true rfl) (xR_at zz) rfl dX6_holdsAt_114 ?_
              refine rr_vi (As := [.int x2, .int (P.1 (16 * r + 3))]) (rest := []) (tX2_fieldTells P S x2 ((P.1 (16 * r + 3)))) v6_48 rfl rfl ⟨Nat.le_of_ble_eq_true rfl, Nat.le_of_ble_eq_true rfl⟩ rfl rfl (Nat.le_of_ble_eq_true rfl) rfl dX6_holdsAt_117 (fun r5 => ?_)
              refine rr_aload_n dX6_holdsAt_120 rfl 2 rfl ?_
              refine rr_iload_n dX6_holdsAt_121 rfl 0 rfl ?_
              refine rr_aload_n dX6_holdsAt_122 rfl 1 rfl ?_
              refine rr_get (v := .int (P.1 (16 * r + 3))) cl6 k6_21 (Nat.le_of_ble_eq_true rfl) (xR_at zz) rfl dX6_holdsAt_123 ?_
              refine rr_vi (As := [.int r1, .int (P.1 (16 * r + 3))]) (rest := [.int r5]) (tX2_fieldTells P S r1 ((P.1 (16 * r + 3)))) v6_48 rfl rfl ⟨Nat.le_of_ble_eq_true rfl, Nat.le_of_ble_eq_true rfl⟩ rfl rfl (Nat.le_of_ble_eq_true rfl) rfl dX6_holdsAt_126 (fun r6 => ?_)
              refine rr_icmp_gt (tgt := 136) dX6_holdsAt_129 (by decide) (fun _ => ?_) (fun _ => ?_)
              · refine rr_iconst (v := 0) dX6_holdsAt_136 (by decide) ?_
                exact rr_zret dX6_holdsAt_137 rfl (by decide) rfl rfl rfl rfl
              · refine rr_iconst (v := 1) dX6_holdsAt_132 (by decide) ?_
                refine rr_goto (tgt := 137) dX6_holdsAt_133 (by decide) ?_
                exact rr_zret dX6_holdsAt_137 rfl (by decide) rfl rfl rfl rfl
          · refine rr_ite (fun z => ?_) (fun z5 => ?_)
            · refine rr_tableIn (off := 124) (tgt := 138) dX6_holdsAt_14 (by rw [z]; decide) (by rw [z]; decide) (by rw [z]; decide) (by decide) ?_
              refine rr_iload_n dX6_holdsAt_138 rfl 0 rfl ?_
              refine rr_iconst (v := (-1)) dX6_holdsAt_139 (by decide) ?_
              refine rr_icmp_ne (tgt := 147) dX6_holdsAt_140 (by decide) (fun _ => ?_) (fun _ => ?_)
              · refine rr_iconst (v := 0) dX6_holdsAt_147 (by decide) ?_
                refine rr_sub [1, 2, 3] rfl ?_
                exact tX6_holdsAt_148 P S r x2 zz 0
              · refine rr_iconst (v := 1) dX6_holdsAt_143 (by decide) ?_
                refine rr_goto (tgt := 148) dX6_holdsAt_144 (by decide) ?_
                refine rr_sub [1, 2, 3] rfl ?_
                exact tX6_holdsAt_148 P S r x2 zz 1
            · refine rr_tableOut (tgt := 174) dX6_holdsAt_14 (by have h0 := lv_neT (a := 0) z0 (by decide); have h1 := lv_neT (a := 1) z1 (by decide); have h2 := lv_neT (a := 2) z2 (by decide); have h3 := lv_neT (a := 3) z3 (by decide); have h4 := lv_neT (a := 4) z4 (by decide); have h5 := lv_neT (a := 5) z5 (by decide); omega) (by decide) ?_
              refine rr_iconst (v := 1) dX6_holdsAt_174 (by decide) ?_
              exact rr_zret dX6_holdsAt_175 rfl (by decide) rfl rfl rfl rfl
def LX6_holdsIn_80 (P : rr_T) (S : rr_T) (r : Nat) (rec80 : Int32 → Option Int32) (a5 : Int32) : Option Int32 :=
  if (S.1 168) ≤ a5 then
  some 1
else
  (fX2_isUnder P S a5 ((P.1 (16 * r + 1)))).bind (fun r6 =>
    if r6 = 0 then
    rec80 ((a5 + 1))
  else
    (fX6_holdsAt P S r a5).bind (fun r7 =>
      if r7 = 0 then
      some 0
    else
      rec80 ((a5 + 1))))
set_option maxRecDepth 20000 in
theorem tX6_holdsIn_80 {l : Launch} {G : rr_G} (P : rr_T) (S : rr_T) (r : Nat) (zz : 34 ≤ r ∧ r < 34 + P.2.2.2 34 ∧ r < 40) : ∀ (n : Nat) (a : Int32), RR l G mX6_holdsIn 3 70 fxA rvI (fun _ => xw P S) z0 z0 0 0 80 [(0, .ref r), (1, .ref 10), (3, .int a)] [] (xw P S) (rr_loop n (LX6_holdsIn_80 P S r) a) := by
  refine rr_lp (α := Int32) 80 (fun a => [(0, .ref r), (1, .ref 10), (3, .int a)]) (fun a => (xw P S)) (fun rec80 hrec80 a5 => ?_)
  show RR l G mX6_holdsIn 3 70 fxA rvI (fun _ => xw P S) z0 z0 0 0 80 [(0, .ref r), (1, .ref 10), (3, .int a5)] [] (xw P S) (LX6_holdsIn_80 P S r rec80 a5)
  unfold LX6_holdsIn_80
  refine rr_iload_n dX6_holdsIn_80 rfl 2 rfl ?_
  refine rr_aload_n dX6_holdsIn_81 rfl 1 rfl ?_
  refine rr_get (v := .int (S.1 168)) cl2 k6_37 (Nat.le_of_ble_eq_true rfl) rfl rfl dX6_holdsIn_82 ?_
  refine rr_icmp_ge (tgt := 117) dX6_holdsIn_85 (by decide) (fun _ => ?_) (fun _ => ?_)
  · refine rr_iconst (v := 1) dX6_holdsIn_117 (by decide) ?_
    exact rr_zret dX6_holdsIn_118 rfl (by decide) rfl rfl rfl rfl
  · refine rr_aload_n dX6_holdsIn_88 rfl 1 rfl ?_
    refine rr_iload_n dX6_holdsIn_89 rfl 2 rfl ?_
    refine rr_aload_n dX6_holdsIn_90 rfl 0 rfl ?_
    refine rr_get (v := .int (P.1 (16 * r + 1))) cl6 k6_15 (Nat.le_of_ble_eq_true rfl) (xR_at zz) rfl dX6_holdsIn_91 ?_
    refine rr_vi (As := [.int a5, .int (P.1 (16 * r + 1))]) (rest := []) (tX2_isUnder P S a5 ((P.1 (16 * r + 1)))) v6_40 rfl rfl ⟨Nat.le_of_ble_eq_true rfl, Nat.le_of_ble_eq_true rfl⟩ rfl rfl (Nat.le_of_ble_eq_true rfl) rfl dX6_holdsIn_94 (fun r6 => ?_)
    refine rr_if_eq (tgt := 111) dX6_holdsIn_97 (by decide) (fun _ => ?_) (fun _ => ?_)
    · refine rr_iinc (lv' := [(3, .int (a5 + 1)), (0, .ref r), (1, .ref 10)]) dX6_holdsIn_111 2 rfl (by decide) rfl ?_
      refine rr_goto (tgt := 80) dX6_holdsIn_114 (by decide) ?_
      refine rr_sub [1, 2, 0] rfl ?_
      exact hrec80 ((a5 + 1))
    · refine rr_aload_n dX6_holdsIn_100 rfl 0 rfl ?_
      refine rr_aload_n dX6_holdsIn_101 rfl 1 rfl ?_
      refine rr_iload_n dX6_holdsIn_102 rfl 2 rfl ?_
      refine rr_vi (As := [.ref 10, .int a5]) (rest := []) (tX6_holdsAt P S r a5) v6_44 (xR_at zz) rfl ⟨Nat.le_of_ble_eq_true rfl, Nat.le_of_ble_eq_true rfl⟩ rfl rfl (Nat.le_of_ble_eq_true rfl) rfl dX6_holdsIn_103 (fun r7 => ?_)
      refine rr_if_ne (tgt := 111) dX6_holdsIn_106 (by decide) (fun _ => ?_) (fun _ => ?_)
      · refine rr_iinc (lv' := [(3, .int (a5 + 1)), (0, .ref r), (1, .ref 10)]) dX6_holdsIn_111 2 rfl (by decide) rfl ?_
        refine rr_goto (tgt := 80) dX6_holdsIn_114 (by decide) ?_
        refine rr_sub [1, 2, 0] rfl ?_
        exact hrec80 ((a5 + 1))
      · refine rr_iconst (v := 0) dX6_holdsIn_109 (by decide) ?_
        exact rr_zret dX6_holdsIn_110 rfl (by decide) rfl rfl rfl rfl
def fX6_holdsIn (P : rr_T) (S : rr_T) (r : Nat) : Option Int32 :=
  if 34 ≤ r ∧ r < 34 + P.2.2.2 34 ∧ r < 40 then
  if (P.1 (16 * r)) = 1 then
    (fX6_hasNoCycle P S r).bind (fun r1 =>
      if r1 &&& 1 = r1 then
      some r1
    else none)
  else
    if (P.1 (16 * r)) = 2 then
      (fX6_sharesNothing P S r).bind (fun r2 =>
        if r2 &&& 1 = r2 then
        some r2
      else none)
    else
      if (P.1 (16 * r)) = 6 then
        (fX2_inputTells P S 0).bind (fun r3 =>
          if r3 = (-1) then
          some 1
        else
          (fX2_inputTells P S 1).bind (fun r4 =>
            if r3 = r4 then
            some 0
          else
            some 1))
      else
        rr_loop FU (LX6_holdsIn_80 P S r) 0
else none
set_option maxRecDepth 20000 in
theorem tX6_holdsIn {l : Launch} {G : rr_G} (P : rr_T) (S : rr_T) (r : Nat) : TT l G mX6_holdsIn 3 70 fxA rvI (fun _ => xw P S) z0 z0 0 0 [.ref r, .ref 10] (xw P S) (fX6_holdsIn P S r) := by
  refine TT.by (by decide) (Nat.le_of_ble_eq_true rfl) (lv := [(0, .ref r), (1, .ref 10)]) rfl ?_
  show RR l G mX6_holdsIn 3 70 fxA rvI (fun _ => xw P S) z0 z0 0 0 0 [(0, .ref r), (1, .ref 10)] [] (xw P S) (fX6_holdsIn P S r)
  unfold fX6_holdsIn
  refine rr_if (fun zz => ?_)
  refine rr_aload_n dX6_holdsIn_0 rfl 0 rfl ?_
  refine rr_get (v := .int (P.1 (16 * r))) cl6 k6_9 (Nat.le_of_ble_eq_true rfl) (xR_at zz) rfl dX6_holdsIn_1 ?_
  refine rr_ite (fun z => ?_) (fun z0 => ?_)
  · refine rr_lookup (off := 36) (tgt := 40) dX6_holdsIn_4 (by decide) (by rw [z]; decide) (by decide) ?_
    refine rr_aload_n dX6_holdsIn_40 rfl 0 rfl ?_
    refine rr_aload_n dX6_holdsIn_41 rfl 1 rfl ?_
    refine rr_vi (As := [.ref 10]) (rest := []) (tX6_hasNoCycle P S r) v6_24 (xR_at zz) rfl ⟨Nat.le_of_ble_eq_true rfl, Nat.le_of_ble_eq_true rfl⟩ rfl rfl (Nat.le_of_ble_eq_true rfl) rfl dX6_holdsIn_42 (fun r1 => ?_)
    refine rr_if (fun z => ?_)
    exact rr_zret dX6_holdsIn_45 rfl z rfl rfl rfl rfl
  · refine rr_ite (fun z => ?_) (fun z1 => ?_)
    · refine rr_lookup (off := 42) (tgt := 46) dX6_holdsIn_4 (by decide) (by rw [z]; decide) (by decide) ?_
      refine rr_aload_n dX6_holdsIn_46 rfl 0 rfl ?_
      refine rr_aload_n dX6_holdsIn_47 rfl 1 rfl ?_
      refine rr_vi (As := [.ref 10]) (rest := []) (tX6_sharesNothing P S r) v6_28 (xR_at zz) rfl ⟨Nat.le_of_ble_eq_true rfl, Nat.le_of_ble_eq_true rfl⟩ rfl rfl (Nat.le_of_ble_eq_true rfl) rfl dX6_holdsIn_48 (fun r2 => ?_)
      refine rr_if (fun z => ?_)
      exact rr_zret dX6_holdsIn_51 rfl z rfl rfl rfl rfl
    · refine rr_ite (fun z => ?_) (fun z2 => ?_)
      · refine rr_lookup (off := 48) (tgt := 52) dX6_holdsIn_4 (by decide) (by rw [z]; decide) (by decide) ?_
        refine rr_aload_n dX6_holdsIn_52 rfl 1 rfl ?_
        refine rr_iconst (v := 0) dX6_holdsIn_53 (by decide) ?_
        refine rr_vi (As := [.int 0]) (rest := []) (tX2_inputTells P S 0) v6_31 rfl rfl ⟨Nat.le_of_ble_eq_true rfl, Nat.le_of_ble_eq_true rfl⟩ rfl rfl (Nat.le_of_ble_eq_true rfl) rfl dX6_holdsIn_54 (fun r3 => ?_)
        refine rr_istore_n (lv' := [(2, .int r3), (0, .ref r), (1, .ref 10)]) dX6_holdsIn_57 rfl (by decide) rfl ?_
        refine rr_iload_n dX6_holdsIn_58 rfl 0 rfl ?_
        refine rr_iconst (v := (-1)) dX6_holdsIn_59 (by decide) ?_
        refine rr_icmp_eq (tgt := 72) dX6_holdsIn_60 (by decide) (fun _ => ?_) (fun _ => ?_)
        · refine rr_iconst (v := 1) dX6_holdsIn_72 (by decide) ?_
          refine rr_goto (tgt := 77) dX6_holdsIn_73 (by decide) ?_
          exact rr_zret dX6_holdsIn_77 rfl (by decide) rfl rfl rfl rfl
        · refine rr_iload_n dX6_holdsIn_63 rfl 0 rfl ?_
          refine rr_aload_n dX6_holdsIn_64 rfl 2 rfl ?_
          refine rr_iconst (v := 1) dX6_holdsIn_65 (by decide) ?_
          refine rr_vi (As := [.int 1]) (rest := [.int r3]) (tX2_inputTells P S 1) v6_31 rfl rfl ⟨Nat.le_of_ble_eq_true rfl, Nat.le_of_ble_eq_true rfl⟩ rfl rfl (Nat.le_of_ble_eq_true rfl) rfl dX6_holdsIn_66 (fun r4 => ?_)
          refine rr_icmp_eq (tgt := 76) dX6_holdsIn_69 (by decide) (fun _ => ?_) (fun _ => ?_)
          · refine rr_iconst (v := 0) dX6_holdsIn_76 (by decide) ?_
            exact rr_zret dX6_holdsIn_77 rfl (by decide) rfl rfl rfl rfl
          · refine rr_iconst (v := 1) dX6_holdsIn_72 (by decide) ?_
            refine rr_goto (tgt := 77) dX6_holdsIn_73 (by decide) ?_
            exact rr_zret dX6_holdsIn_77 rfl (by decide) rfl rfl rfl rfl
      · refine rr_lookup (off := 74) (tgt := 78) dX6_holdsIn_4 (by decide) (by show Op.lookupswitch.offset [(1, _), (2, _), (6, _)] _ _ = _; rw [lv_osw (k := 1) z0 (by decide), lv_osw (k := 2) z1 (by decide), lv_osw (k := 6) z2 (by decide)]; rfl) (by decide) ?_
        refine rr_iconst (v := 0) dX6_holdsIn_78 (by decide) ?_
        refine rr_istore_n (lv' := [(3, .int 0), (0, .ref r), (1, .ref 10)]) dX6_holdsIn_79 rfl (by decide) rfl ?_
        refine rr_sub [1, 2, 0] rfl ?_
        exact tX6_holdsIn_80 P S r zz FU 0
