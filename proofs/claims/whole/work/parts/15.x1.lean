/-! ===== the class's methods: drop_18, drop_26, typeOfInput, kindOf, waitFrom, begin, objectOf, take, fill, pack_13, pack_24, pack_33, backTo, allows, choiceAbove ===== -/
def fX5_drop_18 (P : rr_T) (S : rr_T) : Option rr_T :=
  rr_l (pI S 289 0) (fun S1 =>
  some S1)
set_option maxRecDepth 20000 in
theorem tX5_drop_18 {l : Launch} {G : rr_G} (P : rr_T) (S : rr_T) : TT l G mX5_drop 0 0 fxA rvS (xw P) z0 z0 0 0 [.ref 18] (xw P S) (fX5_drop_18 P S) := by
  refine TT.by (by decide) (Nat.le_of_ble_eq_true rfl) (lv := [(0, .ref 18)]) rfl ?_
  show RR l G mX5_drop 0 0 fxA rvS (xw P) z0 z0 0 0 0 [(0, .ref 18)] [] (xw P S) (fX5_drop_18 P S)
  unfold fX5_drop_18
  refine rr_aload_n dX5_drop_0 rfl 0 rfl ?_
  refine rr_iconst (v := 0) dX5_drop_1 (by decide) ?_
  refine rr_put cl5 k5_15 (Nat.le_of_ble_eq_true rfl) rfl rfl rfl rfl (Nat.le_of_ble_eq_true rfl) dX5_drop_2 (xp18_1 P S 0) ?_
  refine rr_letS (W := xw P) (fun S1 => ?_)
  exact rr_vret dX5_drop_5 rfl rfl rfl rfl rfl
def fX5_drop_26 (P : rr_T) (S : rr_T) : Option rr_T :=
  rr_l (pI S 417 0) (fun S1 =>
  some S1)
set_option maxRecDepth 20000 in
theorem tX5_drop_26 {l : Launch} {G : rr_G} (P : rr_T) (S : rr_T) : TT l G mX5_drop 0 0 fxA rvS (xw P) z0 z0 0 0 [.ref 26] (xw P S) (fX5_drop_26 P S) := by
  refine TT.by (by decide) (Nat.le_of_ble_eq_true rfl) (lv := [(0, .ref 26)]) rfl ?_
  show RR l G mX5_drop 0 0 fxA rvS (xw P) z0 z0 0 0 0 [(0, .ref 26)] [] (xw P S) (fX5_drop_26 P S)
  unfold fX5_drop_26
  refine rr_aload_n dX5_drop_0 rfl 0 rfl ?_
  refine rr_iconst (v := 0) dX5_drop_1 (by decide) ?_
  refine rr_put cl5 k5_15 (Nat.le_of_ble_eq_true rfl) rfl rfl rfl rfl (Nat.le_of_ble_eq_true rfl) dX5_drop_2 (xp26_1 P S 0) ?_
  refine rr_letS (W := xw P) (fun S1 => ?_)
  exact rr_vret dX5_drop_5 rfl rfl rfl rfl rfl
def fX8_typeOfInput (P : rr_T) (S : rr_T) (x1 : Int32) : Option Int32 :=
  if x1 < 0 then
  some (-1)
else
  if (S.1 21) ≤ x1 then
    some (-1)
  else
    if inb x1 2 then
      some ((S.2.1 5 x1.toNatClampNeg))
    else none
set_option maxRecDepth 20000 in
theorem tX8_typeOfInput {l : Launch} {G : rr_G} (P : rr_T) (S : rr_T) (x1 : Int32) : TT l G mX8_typeOfInput 0 0 fxA rvI (fun _ => xw P S) z0 z0 0 0 [.ref 1, .int x1] (xw P S) (fX8_typeOfInput P S x1) := by
  refine TT.by (by decide) (Nat.le_of_ble_eq_true rfl) (lv := [(0, .ref 1), (1, .int x1)]) rfl ?_
  show RR l G mX8_typeOfInput 0 0 fxA rvI (fun _ => xw P S) z0 z0 0 0 0 [(0, .ref 1), (1, .int x1)] [] (xw P S) (fX8_typeOfInput P S x1)
  unfold fX8_typeOfInput
  refine rr_iload_n dX8_typeOfInput_0 rfl 1 rfl ?_
  refine rr_if_lt (tgt := 21) dX8_typeOfInput_1 (by decide) (fun _ => ?_) (fun _ => ?_)
  · refine rr_iconst (v := (-1)) dX8_typeOfInput_21 (by decide) ?_
    exact rr_iret dX8_typeOfInput_22 rfl rfl rfl rfl rfl
  · refine rr_iload_n dX8_typeOfInput_4 rfl 1 rfl ?_
    refine rr_aload_n dX8_typeOfInput_5 rfl 0 rfl ?_
    refine rr_get (v := .int (S.1 21)) cl8 k8_28 (Nat.le_of_ble_eq_true rfl) rfl rfl dX8_typeOfInput_6 ?_
    refine rr_icmp_ge (tgt := 21) dX8_typeOfInput_9 (by decide) (fun _ => ?_) (fun _ => ?_)
    · refine rr_iconst (v := (-1)) dX8_typeOfInput_21 (by decide) ?_
      exact rr_iret dX8_typeOfInput_22 rfl rfl rfl rfl rfl
    · refine rr_aload_n dX8_typeOfInput_12 rfl 0 rfl ?_
      refine rr_get (v := .ref 5) cl8 k8_21 (Nat.le_of_ble_eq_true rfl) rfl rfl dX8_typeOfInput_13 ?_
      refine rr_iload_n dX8_typeOfInput_16 rfl 1 rfl ?_
      refine rr_if (fun z => ?_)
      refine rr_iald (len := 2) rfl (inb_in z) dX8_typeOfInput_17 ?_
      refine rr_goto (tgt := 22) dX8_typeOfInput_18 (by decide) ?_
      exact rr_iret dX8_typeOfInput_22 rfl rfl rfl rfl rfl
def fX2_kindOf (P : rr_T) (S : rr_T) (x1 : Int32) : Option Int32 :=
  if x1 < 0 then
  some (-1)
else
  if (S.1 168) ≤ x1 then
    some (-1)
  else
    if inb x1 5 then
      some ((S.2.1 11 x1.toNatClampNeg))
    else none
set_option maxRecDepth 20000 in
theorem tX2_kindOf {l : Launch} {G : rr_G} (P : rr_T) (S : rr_T) (x1 : Int32) : TT l G mX2_kindOf 0 0 fxA rvI (fun _ => xw P S) z0 z0 0 0 [.ref 10, .int x1] (xw P S) (fX2_kindOf P S x1) := by
  refine TT.by (by decide) (Nat.le_of_ble_eq_true rfl) (lv := [(0, .ref 10), (1, .int x1)]) rfl ?_
  show RR l G mX2_kindOf 0 0 fxA rvI (fun _ => xw P S) z0 z0 0 0 0 [(0, .ref 10), (1, .int x1)] [] (xw P S) (fX2_kindOf P S x1)
  unfold fX2_kindOf
  refine rr_iload_n dX2_kindOf_0 rfl 1 rfl ?_
  refine rr_if_lt (tgt := 21) dX2_kindOf_1 (by decide) (fun _ => ?_) (fun _ => ?_)
  · refine rr_iconst (v := (-1)) dX2_kindOf_21 (by decide) ?_
    exact rr_iret dX2_kindOf_22 rfl rfl rfl rfl rfl
  · refine rr_iload_n dX2_kindOf_4 rfl 1 rfl ?_
    refine rr_aload_n dX2_kindOf_5 rfl 0 rfl ?_
    refine rr_get (v := .int (S.1 168)) cl2 k2_34 (Nat.le_of_ble_eq_true rfl) rfl rfl dX2_kindOf_6 ?_
    refine rr_icmp_ge (tgt := 21) dX2_kindOf_9 (by decide) (fun _ => ?_) (fun _ => ?_)
    · refine rr_iconst (v := (-1)) dX2_kindOf_21 (by decide) ?_
      exact rr_iret dX2_kindOf_22 rfl rfl rfl rfl rfl
    · refine rr_aload_n dX2_kindOf_12 rfl 0 rfl ?_
      refine rr_get (v := .ref 11) cl2 k2_9 (Nat.le_of_ble_eq_true rfl) rfl rfl dX2_kindOf_13 ?_
      refine rr_iload_n dX2_kindOf_16 rfl 1 rfl ?_
      refine rr_if (fun z => ?_)
      refine rr_iald (len := 5) rfl (inb_in z) dX2_kindOf_17 ?_
      refine rr_goto (tgt := 22) dX2_kindOf_18 (by decide) ?_
      exact rr_iret dX2_kindOf_22 rfl rfl rfl rfl rfl
def JX2_waitFrom_80 (a2 : rr_T) : Option rr_T :=
  rr_l (pI a2 169 (-1)) (fun S3 =>
  rr_l (pI S3 170 (-1)) (fun S4 =>
  some S4))
set_option maxRecDepth 20000 in
theorem tX2_waitFrom_80 {l : Launch} {G : rr_G} (P : rr_T) (a2 : rr_T) : RR l G mX2_waitFrom 1 22 fxA rvS (xw P) z0 z0 0 0 80 [(0, .ref 10)] [] (xw P a2) (JX2_waitFrom_80 a2) := by
  unfold JX2_waitFrom_80
  refine rr_aload_n dX2_waitFrom_80 rfl 0 rfl ?_
  refine rr_iconst (v := (-1)) dX2_waitFrom_81 (by decide) ?_
  refine rr_put cl2 k2_37 (Nat.le_of_ble_eq_true rfl) rfl rfl rfl rfl (Nat.le_of_ble_eq_true rfl) dX2_waitFrom_82 (xp10_9 P a2 (-1)) ?_
  refine rr_letS (W := xw P) (fun S3 => ?_)
  refine rr_aload_n dX2_waitFrom_85 rfl 0 rfl ?_
  refine rr_iconst (v := (-1)) dX2_waitFrom_86 (by decide) ?_
  refine rr_put cl2 k2_40 (Nat.le_of_ble_eq_true rfl) rfl rfl rfl rfl (Nat.le_of_ble_eq_true rfl) dX2_waitFrom_87 (xp10_10 P S3 (-1)) ?_
  refine rr_letS (W := xw P) (fun S4 => ?_)
  exact rr_vret dX2_waitFrom_90 rfl rfl rfl rfl rfl
def JX2_waitFrom_68 (a5 : Int32 × rr_T) : Option rr_T :=
  rr_l (pI a5.2 169 a5.1) (fun S6 =>
  some S6)
set_option maxRecDepth 20000 in
theorem tX2_waitFrom_68 {l : Launch} {G : rr_G} (P : rr_T) (a5 : Int32 × rr_T) : RR l G mX2_waitFrom 1 22 fxA rvS (xw P) z0 z0 0 0 68 [(0, .ref 10), (3, .int a5.1)] [] (xw P a5.2) (JX2_waitFrom_68 a5) := by
  unfold JX2_waitFrom_68
  refine rr_aload_n dX2_waitFrom_68 rfl 0 rfl ?_
  refine rr_iload_n dX2_waitFrom_69 rfl 1 rfl ?_
  refine rr_put cl2 k2_37 (Nat.le_of_ble_eq_true rfl) rfl rfl rfl rfl (Nat.le_of_ble_eq_true rfl) dX2_waitFrom_70 (xp10_9 P a5.2 a5.1) ?_
  refine rr_letS (W := xw P) (fun S6 => ?_)
  exact rr_vret dX2_waitFrom_73 rfl rfl rfl rfl rfl
def JX2_waitFrom_57 (rec11 : (Int32 × rr_T) → Option rr_T) (a7 : Int32 × rr_T) (a9 : Int32) : Option rr_T :=
  rr_l (pI a7.2 170 a9) (fun S10 =>
  if (S10.1 170) = (-1) then
  rec11 ((a7.1 + 1), S10)
else
  JX2_waitFrom_68 (a7.1, S10))
set_option maxRecDepth 20000 in
theorem tX2_waitFrom_57 {l : Launch} {G : rr_G} (rec11 : (Int32 × rr_T) → Option rr_T) (a7 : Int32 × rr_T) (P : rr_T) (v1 : Int32) (hrec11 : ∀ a : Int32 × rr_T, RR l G mX2_waitFrom 1 22 fxA rvS (xw P) z0 z0 0 0 11 [(0, .ref 10), (2, .int v1), (3, .int a.1)] [] (xw P a.2) (rec11 a)) (a9 : Int32) : RR l G mX2_waitFrom 1 22 fxA rvS (xw P) z0 z0 0 0 57 [(0, .ref 10), (2, .int v1), (3, .int a7.1)] [.int a9, .ref 10] (xw P a7.2) (JX2_waitFrom_57 rec11 a7 a9) := by
  unfold JX2_waitFrom_57
  refine rr_put cl2 k2_40 (Nat.le_of_ble_eq_true rfl) rfl rfl rfl rfl (Nat.le_of_ble_eq_true rfl) dX2_waitFrom_57 (xp10_10 P a7.2 a9) ?_
  refine rr_letS (W := xw P) (fun S10 => ?_)
  refine rr_aload_n dX2_waitFrom_60 rfl 0 rfl ?_
  refine rr_get (v := .int (S10.1 170)) cl2 k2_40 (Nat.le_of_ble_eq_true rfl) rfl rfl dX2_waitFrom_61 ?_
  refine rr_iconst (v := (-1)) dX2_waitFrom_64 (by decide) ?_
  refine rr_icmp_eq (tgt := 74) dX2_waitFrom_65 (by decide) (fun _ => ?_) (fun _ => ?_)
  · refine rr_iinc (lv' := [(3, .int (a7.1 + 1)), (0, .ref 10), (2, .int v1)]) dX2_waitFrom_74 2 rfl (by decide) rfl ?_
    refine rr_goto (tgt := 11) dX2_waitFrom_77 (by decide) ?_
    refine rr_sub [1, 2, 0] rfl ?_
    exact hrec11 ((a7.1 + 1), S10)
  · refine rr_sub [0, 2] rfl ?_
    exact tX2_waitFrom_68 P (a7.1, S10)
def LX2_waitFrom_11 (P : rr_T) (v1 : Int32) (rec11 : (Int32 × rr_T) → Option rr_T) (a7 : Int32 × rr_T) : Option rr_T :=
  if v1 ≤ a7.1 then
  JX2_waitFrom_80 a7.2
else
  rr_l ((a7.1 - 2)) (fun v8 =>
    if 0 ≤ v8 then
    (fX2_kindOf P a7.2 ((v8 / 4))).bind (fun r11 =>
      (fX8_typeOf P a7.2 r11 ((v8 - v8 / 4 * 4))).bind (fun r12 =>
      JX2_waitFrom_57 rec11 a7 r12))
  else
    (fX8_typeOfInput P a7.2 a7.1).bind (fun r13 =>
      JX2_waitFrom_57 rec11 a7 r13))
set_option maxRecDepth 20000 in
theorem tX2_waitFrom_11 {l : Launch} {G : rr_G} (P : rr_T) (v1 : Int32) : ∀ (n : Nat) (a : Int32 × rr_T), RR l G mX2_waitFrom 1 22 fxA rvS (xw P) z0 z0 0 0 11 [(0, .ref 10), (2, .int v1), (3, .int a.1)] [] (xw P a.2) (rr_loop n (LX2_waitFrom_11 P v1) a) := by
  refine rr_lp (α := Int32 × rr_T) 11 (fun a => [(0, .ref 10), (2, .int v1), (3, .int a.1)]) (fun a => (xw P a.2)) (fun rec11 hrec11 a7 => ?_)
  show RR l G mX2_waitFrom 1 22 fxA rvS (xw P) z0 z0 0 0 11 [(0, .ref 10), (2, .int v1), (3, .int a7.1)] [] (xw P a7.2) (LX2_waitFrom_11 P v1 rec11 a7)
  unfold LX2_waitFrom_11
  refine rr_iload_n dX2_waitFrom_11 rfl 2 rfl ?_
  refine rr_iload_n dX2_waitFrom_12 rfl 1 rfl ?_
  refine rr_icmp_ge (tgt := 80) dX2_waitFrom_13 (by decide) (fun _ => ?_) (fun _ => ?_)
  · refine rr_sub [0] rfl ?_
    exact tX2_waitFrom_80 P a7.2
  · refine rr_iload_n dX2_waitFrom_16 rfl 2 rfl ?_
    refine rr_iconst (v := 2) dX2_waitFrom_17 (by decide) ?_
    refine rr_isub dX2_waitFrom_18 ?_
    refine rr_letI (fun v8 => ?_)
    refine rr_istore (lv' := [(4, .int v8), (0, .ref 10), (2, .int v1), (3, .int a7.1)]) dX2_waitFrom_19 (by decide) rfl ?_
    refine rr_aload_n dX2_waitFrom_21 rfl 1 rfl ?_
    refine rr_iload dX2_waitFrom_22 0 rfl ?_
    refine rr_if_ge (tgt := 38) dX2_waitFrom_24 (by decide) (fun _ => ?_) (fun _ => ?_)
    · refine rr_aload_n dX2_waitFrom_38 rfl 1 rfl ?_
      refine rr_get (v := .ref 1) cl2 k2_43 (Nat.le_of_ble_eq_true rfl) rfl rfl dX2_waitFrom_39 ?_
      refine rr_aload_n dX2_waitFrom_42 rfl 1 rfl ?_
      refine rr_iload dX2_waitFrom_43 0 rfl ?_
      refine rr_iconst (v := 4) dX2_waitFrom_45 (by decide) ?_
      refine rr_idiv dX2_waitFrom_46 (by decide) ?_
      refine rr_vi (As := [.int (v8 / 4)]) (rest := [.ref 1, .ref 10]) (tX2_kindOf P a7.2 ((v8 / 4))) v2_98 rfl rfl ⟨Nat.le_of_ble_eq_true rfl, Nat.le_of_ble_eq_true rfl⟩ rfl rfl (Nat.le_of_ble_eq_true rfl) rfl dX2_waitFrom_47 (fun r11 => ?_)
      refine rr_iload dX2_waitFrom_50 0 rfl ?_
      refine rr_iconst (v := 4) dX2_waitFrom_52 (by decide) ?_
      refine rr_irem dX2_waitFrom_53 (by decide) ?_
      refine rr_vi (As := [.int r11, .int (v8 - v8 / 4 * 4)]) (rest := [.ref 10]) (tX8_typeOf P a7.2 r11 ((v8 - v8 / 4 * 4))) v2_110 rfl rfl ⟨Nat.le_of_ble_eq_true rfl, Nat.le_of_ble_eq_true rfl⟩ rfl rfl (Nat.le_of_ble_eq_true rfl) rfl dX2_waitFrom_54 (fun r12 => ?_)
      refine rr_sub [1, 2, 3] rfl ?_
      exact tX2_waitFrom_57 rec11 a7 P v1 hrec11 r12
    · refine rr_aload_n dX2_waitFrom_27 rfl 1 rfl ?_
      refine rr_get (v := .ref 1) cl2 k2_43 (Nat.le_of_ble_eq_true rfl) rfl rfl dX2_waitFrom_28 ?_
      refine rr_iload_n dX2_waitFrom_31 rfl 3 rfl ?_
      refine rr_vi (As := [.int a7.1]) (rest := [.ref 10]) (tX8_typeOfInput P a7.2 a7.1) v2_107 rfl rfl ⟨Nat.le_of_ble_eq_true rfl, Nat.le_of_ble_eq_true rfl⟩ rfl rfl (Nat.le_of_ble_eq_true rfl) rfl dX2_waitFrom_32 (fun r13 => ?_)
      refine rr_goto (tgt := 57) dX2_waitFrom_35 (by decide) ?_
      refine rr_sub [1, 2, 3] rfl ?_
      exact tX2_waitFrom_57 rec11 a7 P v1 hrec11 r13
def fX2_waitFrom (P : rr_T) (S : rr_T) (x1 : Int32) : Option rr_T :=
  rr_l ((2 + ((S.1 168) * 4))) (fun v1 =>
  rr_loop FU (LX2_waitFrom_11 P v1) (x1, S))
set_option maxRecDepth 20000 in
theorem tX2_waitFrom {l : Launch} {G : rr_G} (P : rr_T) (S : rr_T) (x1 : Int32) : TT l G mX2_waitFrom 1 22 fxA rvS (xw P) z0 z0 0 0 [.ref 10, .int x1] (xw P S) (fX2_waitFrom P S x1) := by
  refine TT.by (by decide) (Nat.le_of_ble_eq_true rfl) (lv := [(0, .ref 10), (1, .int x1)]) rfl ?_
  show RR l G mX2_waitFrom 1 22 fxA rvS (xw P) z0 z0 0 0 0 [(0, .ref 10), (1, .int x1)] [] (xw P S) (fX2_waitFrom P S x1)
  unfold fX2_waitFrom
  refine rr_iconst (v := 2) dX2_waitFrom_0 (by decide) ?_
  refine rr_aload_n dX2_waitFrom_1 rfl 0 rfl ?_
  refine rr_get (v := .int (S.1 168)) cl2 k2_34 (Nat.le_of_ble_eq_true rfl) rfl rfl dX2_waitFrom_2 ?_
  refine rr_iconst (v := 4) dX2_waitFrom_5 (by decide) ?_
  refine rr_imul dX2_waitFrom_6 ?_
  refine rr_iadd dX2_waitFrom_7 ?_
  refine rr_letI (fun v1 => ?_)
  refine rr_istore_n (lv' := [(2, .int v1), (0, .ref 10), (1, .int x1)]) dX2_waitFrom_8 rfl (by decide) rfl ?_
  refine rr_iload_n dX2_waitFrom_9 rfl 2 rfl ?_
  refine rr_istore_n (lv' := [(3, .int x1), (2, .int v1), (0, .ref 10), (1, .int x1)]) dX2_waitFrom_10 rfl (by decide) rfl ?_
  refine rr_sub [2, 1, 0] rfl ?_
  exact tX2_waitFrom_11 P v1 FU (x1, S)
def fX2_begin (P : rr_T) (S : rr_T) : Option rr_T :=
  rr_l (pI S 167 0) (fun S1 =>
  rr_l (pI S1 168 0) (fun S2 =>
  (fX2_waitFrom P S2 0).bind (fun S3 =>
  some S3)))
set_option maxRecDepth 20000 in
theorem tX2_begin {l : Launch} {G : rr_G} (P : rr_T) (S : rr_T) : TT l G mX2_begin 2 46 fxA rvS (xw P) z0 z0 0 0 [.ref 10] (xw P S) (fX2_begin P S) := by
  refine TT.by (by decide) (Nat.le_of_ble_eq_true rfl) (lv := [(0, .ref 10)]) rfl ?_
  show RR l G mX2_begin 2 46 fxA rvS (xw P) z0 z0 0 0 0 [(0, .ref 10)] [] (xw P S) (fX2_begin P S)
  unfold fX2_begin
  refine rr_aload_n dX2_begin_0 rfl 0 rfl ?_
  refine rr_iconst (v := 0) dX2_begin_1 (by decide) ?_
  refine rr_put cl2 k2_30 (Nat.le_of_ble_eq_true rfl) rfl rfl rfl rfl (Nat.le_of_ble_eq_true rfl) dX2_begin_2 (xp10_7 P S 0) ?_
  refine rr_letS (W := xw P) (fun S1 => ?_)
  refine rr_aload_n dX2_begin_5 rfl 0 rfl ?_
  refine rr_iconst (v := 0) dX2_begin_6 (by decide) ?_
  refine rr_put cl2 k2_34 (Nat.le_of_ble_eq_true rfl) rfl rfl rfl rfl (Nat.le_of_ble_eq_true rfl) dX2_begin_7 (xp10_8 P S1 0) ?_
  refine rr_letS (W := xw P) (fun S2 => ?_)
  refine rr_aload_n dX2_begin_10 rfl 0 rfl ?_
  refine rr_iconst (v := 0) dX2_begin_11 (by decide) ?_
  refine rr_vs (W := xw P) (As := [.int 0]) (rest := []) (tX2_waitFrom P S2 0) v2_56 rfl rfl ⟨Nat.le_of_ble_eq_true rfl, Nat.le_of_ble_eq_true rfl⟩ (fun _ _ => rfl) rfl rfl (Nat.le_of_ble_eq_true rfl) rfl dX2_begin_12 (fun S3 => ?_)
  exact rr_vret dX2_begin_15 rfl rfl rfl rfl rfl
def fX2_objectOf (P : rr_T) (S : rr_T) (x1 : Int32) : Option (Int32 × rr_T) :=
  if 10 ≤ x1 then
  if (S.1 168) < 5 then
    if inb (S.1 168) 5 then
      rr_l (pA S 11 ((S.1 168)) ((x1 - 10))) (fun S1 =>
        rr_l (pI S1 168 (((S1.1 168) + 1))) (fun S2 =>
        some ((((S2.1 168) - 1), S2))))
    else none
  else
    some (((-1), S))
else
  some (((x1 - 1), S))
set_option maxRecDepth 20000 in
theorem tX2_objectOf {l : Launch} {G : rr_G} (P : rr_T) (S : rr_T) (x1 : Int32) : TT l G mX2_objectOf 0 0 fxA rvIS (fun q => xw P q.2) z0 z0 0 0 [.ref 10, .int x1] (xw P S) (fX2_objectOf P S x1) := by
  refine TT.by (by decide) (Nat.le_of_ble_eq_true rfl) (lv := [(0, .ref 10), (1, .int x1)]) rfl ?_
  show RR l G mX2_objectOf 0 0 fxA rvIS (fun q => xw P q.2) z0 z0 0 0 0 [(0, .ref 10), (1, .int x1)] [] (xw P S) (fX2_objectOf P S x1)
  unfold fX2_objectOf
  refine rr_iload_n dX2_objectOf_0 rfl 1 rfl ?_
  refine rr_bipush (v := 10) dX2_objectOf_1 (by decide) ?_
  refine rr_icmp_ge (tgt := 10) dX2_objectOf_3 (by decide) (fun _ => ?_) (fun _ => ?_)
  · refine rr_aload_n dX2_objectOf_10 rfl 0 rfl ?_
    refine rr_get (v := .int (S.1 168)) cl2 k2_34 (Nat.le_of_ble_eq_true rfl) rfl rfl dX2_objectOf_11 ?_
    refine rr_iconst (v := 5) dX2_objectOf_14 (by decide) ?_
    refine rr_icmp_lt (tgt := 20) dX2_objectOf_15 (by decide) (fun _ => ?_) (fun _ => ?_)
    · refine rr_aload_n dX2_objectOf_20 rfl 0 rfl ?_
      refine rr_get (v := .ref 11) cl2 k2_9 (Nat.le_of_ble_eq_true rfl) rfl rfl dX2_objectOf_21 ?_
      refine rr_aload_n dX2_objectOf_24 rfl 0 rfl ?_
      refine rr_get (v := .int (S.1 168)) cl2 k2_34 (Nat.le_of_ble_eq_true rfl) rfl rfl dX2_objectOf_25 ?_
      refine rr_iload_n dX2_objectOf_28 rfl 1 rfl ?_
      refine rr_bipush (v := 10) dX2_objectOf_29 (by decide) ?_
      refine rr_isub dX2_objectOf_31 ?_
      refine rr_if (fun z => ?_)
      refine rr_iast (len := 5) rfl (inb_in z) dX2_objectOf_32 (xa11 P S ((S.1 168)) ((x1 - 10))) ?_
      refine rr_letS (W := xw P) (fun S1 => ?_)
      refine rr_aload_n dX2_objectOf_33 rfl 0 rfl ?_
      refine rr_dup dX2_objectOf_34 rfl ?_
      refine rr_get (v := .int (S1.1 168)) cl2 k2_34 (Nat.le_of_ble_eq_true rfl) rfl rfl dX2_objectOf_35 ?_
      refine rr_iconst (v := 1) dX2_objectOf_38 (by decide) ?_
      refine rr_iadd dX2_objectOf_39 ?_
      refine rr_put cl2 k2_34 (Nat.le_of_ble_eq_true rfl) rfl rfl rfl rfl (Nat.le_of_ble_eq_true rfl) dX2_objectOf_40 (xp10_8 P S1 (((S1.1 168) + 1))) ?_
      refine rr_letS (W := xw P) (fun S2 => ?_)
      refine rr_aload_n dX2_objectOf_43 rfl 0 rfl ?_
      refine rr_get (v := .int (S2.1 168)) cl2 k2_34 (Nat.le_of_ble_eq_true rfl) rfl rfl dX2_objectOf_44 ?_
      refine rr_iconst (v := 1) dX2_objectOf_47 (by decide) ?_
      refine rr_isub dX2_objectOf_48 ?_
      exact rr_iret dX2_objectOf_49 rfl rfl rfl rfl rfl
    · refine rr_iconst (v := (-1)) dX2_objectOf_18 (by decide) ?_
      exact rr_iret dX2_objectOf_19 rfl rfl rfl rfl rfl
  · refine rr_iload_n dX2_objectOf_6 rfl 1 rfl ?_
    refine rr_iconst (v := 1) dX2_objectOf_7 (by decide) ?_
    refine rr_isub dX2_objectOf_8 ?_
    exact rr_iret dX2_objectOf_9 rfl rfl rfl rfl rfl
def JX2_take_112 (P : rr_T) (S5 : rr_T) (a7 : Int32 × rr_T) : Option rr_T :=
  if inb (S5.1 169) 22 then
  rr_l (pA a7.2 12 ((S5.1 169)) a7.1) (fun S8 =>
    (fX2_waitFrom P S8 (((S8.1 169) + 1))).bind (fun S9 =>
    some S9))
else none
set_option maxRecDepth 20000 in
theorem tX2_take_112 {l : Launch} {G : rr_G} (P : rr_T) (S5 : rr_T) (a7 : Int32 × rr_T) : RR l G mX2_take 2 46 fxA rvS (xw P) z0 z0 0 0 112 [(0, .ref 10)] [.int a7.1, .int (S5.1 169), .ref 12] (xw P a7.2) (JX2_take_112 P S5 a7) := by
  unfold JX2_take_112
  refine rr_if (fun z => ?_)
  refine rr_iast (len := 22) rfl (inb_in z) dX2_take_112 (xa12 P a7.2 ((S5.1 169)) a7.1) ?_
  refine rr_letS (W := xw P) (fun S8 => ?_)
  refine rr_aload_n dX2_take_113 rfl 0 rfl ?_
  refine rr_aload_n dX2_take_114 rfl 0 rfl ?_
  refine rr_get (v := .int (S8.1 169)) cl2 k2_37 (Nat.le_of_ble_eq_true rfl) rfl rfl dX2_take_115 ?_
  refine rr_iconst (v := 1) dX2_take_118 (by decide) ?_
  refine rr_iadd dX2_take_119 ?_
  refine rr_vs (W := xw P) (As := [.int ((S8.1 169) + 1)]) (rest := []) (tX2_waitFrom P S8 (((S8.1 169) + 1))) v2_56 rfl rfl ⟨Nat.le_of_ble_eq_true rfl, Nat.le_of_ble_eq_true rfl⟩ (fun _ _ => rfl) rfl rfl (Nat.le_of_ble_eq_true rfl) rfl dX2_take_120 (fun S9 => ?_)
  exact rr_vret dX2_take_123 rfl rfl rfl rfl rfl
def fX2_take (P : rr_T) (S : rr_T) (x1 : Int32) : Option rr_T :=
  if (S.1 169) < 0 then
  some S
else
  if 22 ≤ (S.1 169) then
    some S
  else
    if (S.1 167) < 22 then
      if inb (S.1 167) 22 then
        rr_l (pA S 14 ((S.1 167)) ((S.1 169))) (fun S1 =>
          if inb (S1.1 167) 22 then
          rr_l (pA S1 15 ((S1.1 167)) ((S1.1 170))) (fun S2 =>
            if inb (S2.1 167) 22 then
            rr_l (pA S2 13 ((S2.1 167)) x1) (fun S3 =>
              if inb (S3.1 167) 22 then
              rr_l (pA S3 16 ((S3.1 167)) ((S3.1 168))) (fun S4 =>
                rr_l (pI S4 167 (((S4.1 167) + 1))) (fun S5 =>
                (fX8_isRefType ((S5.1 170))).bind (fun r6 =>
                if r6 = 0 then
                JX2_take_112 P S5 (x1, S5)
              else
                (fX2_objectOf P S5 x1).bind (fun q10 =>
                  JX2_take_112 P S5 (q10.1, q10.2)))))
            else none)
          else none)
        else none)
      else none
    else
      some S
set_option maxRecDepth 20000 in
theorem tX2_take {l : Launch} {G : rr_G} (P : rr_T) (S : rr_T) (x1 : Int32) : TT l G mX2_take 2 46 fxA rvS (xw P) z0 z0 0 0 [.ref 10, .int x1] (xw P S) (fX2_take P S x1) := by
  refine TT.by (by decide) (Nat.le_of_ble_eq_true rfl) (lv := [(0, .ref 10), (1, .int x1)]) rfl ?_
  show RR l G mX2_take 2 46 fxA rvS (xw P) z0 z0 0 0 0 [(0, .ref 10), (1, .int x1)] [] (xw P S) (fX2_take P S x1)
  unfold fX2_take
  refine rr_aload_n dX2_take_0 rfl 0 rfl ?_
  refine rr_get (v := .int (S.1 169)) cl2 k2_37 (Nat.le_of_ble_eq_true rfl) rfl rfl dX2_take_1 ?_
  refine rr_if_lt (tgt := 25) dX2_take_4 (by decide) (fun _ => ?_) (fun _ => ?_)
  · exact rr_vret dX2_take_25 rfl rfl rfl rfl rfl
  · refine rr_aload_n dX2_take_7 rfl 0 rfl ?_
    refine rr_get (v := .int (S.1 169)) cl2 k2_37 (Nat.le_of_ble_eq_true rfl) rfl rfl dX2_take_8 ?_
    refine rr_bipush (v := 22) dX2_take_11 (by decide) ?_
    refine rr_icmp_ge (tgt := 25) dX2_take_13 (by decide) (fun _ => ?_) (fun _ => ?_)
    · exact rr_vret dX2_take_25 rfl rfl rfl rfl rfl
    · refine rr_aload_n dX2_take_16 rfl 0 rfl ?_
      refine rr_get (v := .int (S.1 167)) cl2 k2_30 (Nat.le_of_ble_eq_true rfl) rfl rfl dX2_take_17 ?_
      refine rr_bipush (v := 22) dX2_take_20 (by decide) ?_
      refine rr_icmp_lt (tgt := 26) dX2_take_22 (by decide) (fun _ => ?_) (fun _ => ?_)
      · refine rr_aload_n dX2_take_26 rfl 0 rfl ?_
        refine rr_get (v := .ref 14) cl2 k2_21 (Nat.le_of_ble_eq_true rfl) rfl rfl dX2_take_27 ?_
        refine rr_aload_n dX2_take_30 rfl 0 rfl ?_
        refine rr_get (v := .int (S.1 167)) cl2 k2_30 (Nat.le_of_ble_eq_true rfl) rfl rfl dX2_take_31 ?_
        refine rr_aload_n dX2_take_34 rfl 0 rfl ?_
        refine rr_get (v := .int (S.1 169)) cl2 k2_37 (Nat.le_of_ble_eq_true rfl) rfl rfl dX2_take_35 ?_
        refine rr_if (fun z => ?_)
        refine rr_iast (len := 22) rfl (inb_in z) dX2_take_38 (xa14 P S ((S.1 167)) ((S.1 169))) ?_
        refine rr_letS (W := xw P) (fun S1 => ?_)
        refine rr_aload_n dX2_take_39 rfl 0 rfl ?_
        refine rr_get (v := .ref 15) cl2 k2_24 (Nat.le_of_ble_eq_true rfl) rfl rfl dX2_take_40 ?_
        refine rr_aload_n dX2_take_43 rfl 0 rfl ?_
        refine rr_get (v := .int (S1.1 167)) cl2 k2_30 (Nat.le_of_ble_eq_true rfl) rfl rfl dX2_take_44 ?_
        refine rr_aload_n dX2_take_47 rfl 0 rfl ?_
        refine rr_get (v := .int (S1.1 170)) cl2 k2_40 (Nat.le_of_ble_eq_true rfl) rfl rfl dX2_take_48 ?_
        refine rr_if (fun z => ?_)
        refine rr_iast (len := 22) rfl (inb_in z) dX2_take_51 (xa15 P S1 ((S1.1 167)) ((S1.1 170))) ?_
        refine rr_letS (W := xw P) (fun S2 => ?_)
        refine rr_aload_n dX2_take_52 rfl 0 rfl ?_
        refine rr_get (v := .ref 13) cl2 k2_18 (Nat.le_of_ble_eq_true rfl) rfl rfl dX2_take_53 ?_
        refine rr_aload_n dX2_take_56 rfl 0 rfl ?_
        refine rr_get (v := .int (S2.1 167)) cl2 k2_30 (Nat.le_of_ble_eq_true rfl) rfl rfl dX2_take_57 ?_
        refine rr_iload_n dX2_take_60 rfl 1 rfl ?_
        refine rr_if (fun z => ?_)
        refine rr_iast (len := 22) rfl (inb_in z) dX2_take_61 (xa13 P S2 ((S2.1 167)) x1) ?_
        refine rr_letS (W := xw P) (fun S3 => ?_)
        refine rr_aload_n dX2_take_62 rfl 0 rfl ?_
        refine rr_get (v := .ref 16) cl2 k2_27 (Nat.le_of_ble_eq_true rfl) rfl rfl dX2_take_63 ?_
        refine rr_aload_n dX2_take_66 rfl 0 rfl ?_
        refine rr_get (v := .int (S3.1 167)) cl2 k2_30 (Nat.le_of_ble_eq_true rfl) rfl rfl dX2_take_67 ?_
        refine rr_aload_n dX2_take_70 rfl 0 rfl ?_
        refine rr_get (v := .int (S3.1 168)) cl2 k2_34 (Nat.le_of_ble_eq_true rfl) rfl rfl dX2_take_71 ?_
        refine rr_if (fun z => ?_)
        refine rr_iast (len := 22) rfl (inb_in z) dX2_take_74 (xa16 P S3 ((S3.1 167)) ((S3.1 168))) ?_
        refine rr_letS (W := xw P) (fun S4 => ?_)
        refine rr_aload_n dX2_take_75 rfl 0 rfl ?_
        refine rr_dup dX2_take_76 rfl ?_
        refine rr_get (v := .int (S4.1 167)) cl2 k2_30 (Nat.le_of_ble_eq_true rfl) rfl rfl dX2_take_77 ?_
        refine rr_iconst (v := 1) dX2_take_80 (by decide) ?_
        refine rr_iadd dX2_take_81 ?_
        refine rr_put cl2 k2_30 (Nat.le_of_ble_eq_true rfl) rfl rfl rfl rfl (Nat.le_of_ble_eq_true rfl) dX2_take_82 (xp10_7 P S4 (((S4.1 167) + 1))) ?_
        refine rr_letS (W := xw P) (fun S5 => ?_)
        refine rr_aload_n dX2_take_85 rfl 0 rfl ?_
        refine rr_get (v := .ref 12) cl2 k2_15 (Nat.le_of_ble_eq_true rfl) rfl rfl dX2_take_86 ?_
        refine rr_aload_n dX2_take_89 rfl 0 rfl ?_
        refine rr_get (v := .int (S5.1 169)) cl2 k2_37 (Nat.le_of_ble_eq_true rfl) rfl rfl dX2_take_90 ?_
        refine rr_aload_n dX2_take_93 rfl 0 rfl ?_
        refine rr_get (v := .int (S5.1 170)) cl2 k2_40 (Nat.le_of_ble_eq_true rfl) rfl rfl dX2_take_94 ?_
        refine rr_si (As := [.int (S5.1 170)]) (rest := [.int (S5.1 169), .ref 12]) (tX8_isRefType ((S5.1 170)) (xw P S5)) s2_87 rfl ⟨Nat.le_of_ble_eq_true rfl, Nat.le_of_ble_eq_true rfl⟩ rfl rfl (Nat.le_of_ble_eq_true rfl) rfl dX2_take_97 (fun r6 => ?_)
        refine rr_if_eq (tgt := 111) dX2_take_100 (by decide) (fun _ => ?_) (fun _ => ?_)
        · refine rr_iload_n dX2_take_111 rfl 1 rfl ?_
          refine rr_sub [0] rfl ?_
          exact tX2_take_112 P S5 (x1, S5)
        · refine rr_aload_n dX2_take_103 rfl 0 rfl ?_
          refine rr_iload_n dX2_take_104 rfl 1 rfl ?_
          refine rr_vis (W := xw P) (As := [.int x1]) (rest := [.int (S5.1 169), .ref 12]) (tX2_objectOf P S5 x1) v2_104 rfl rfl ⟨Nat.le_of_ble_eq_true rfl, Nat.le_of_ble_eq_true rfl⟩ (fun _ _ => rfl) rfl rfl (Nat.le_of_ble_eq_true rfl) rfl dX2_take_105 (fun q10 => ?_)
          refine rr_goto (tgt := 112) dX2_take_108 (by decide) ?_
          refine rr_sub [0] rfl ?_
          exact tX2_take_112 P S5 (q10.1, q10.2)
      · exact rr_vret dX2_take_25 rfl rfl rfl rfl rfl
def LX2_fill_2 (P : rr_T) (rec2 : (Int32 × rr_T) → Option rr_T) (a1 : Int32 × rr_T) : Option rr_T :=
  if 22 ≤ a1.1 then
  some a1.2
else
  if (a1.2.1 169) = (-1) then
    some a1.2
  else
    (fX2_take P a1.2 0).bind (fun S2 =>
      rec2 ((a1.1 + 1), S2))
set_option maxRecDepth 20000 in
theorem tX2_fill_2 {l : Launch} {G : rr_G} (P : rr_T) : ∀ (n : Nat) (a : Int32 × rr_T), RR l G mX2_fill 3 67 fxA rvS (xw P) z0 z0 0 0 2 [(0, .ref 10), (1, .int a.1)] [] (xw P a.2) (rr_loop n (LX2_fill_2 P) a) := by
  refine rr_lp (α := Int32 × rr_T) 2 (fun a => [(0, .ref 10), (1, .int a.1)]) (fun a => (xw P a.2)) (fun rec2 hrec2 a1 => ?_)
  show RR l G mX2_fill 3 67 fxA rvS (xw P) z0 z0 0 0 2 [(0, .ref 10), (1, .int a1.1)] [] (xw P a1.2) (LX2_fill_2 P rec2 a1)
  unfold LX2_fill_2
  refine rr_iload_n dX2_fill_2 rfl 1 rfl ?_
  refine rr_bipush (v := 22) dX2_fill_3 (by decide) ?_
  refine rr_icmp_ge (tgt := 27) dX2_fill_5 (by decide) (fun _ => ?_) (fun _ => ?_)
  · exact rr_vret dX2_fill_27 rfl rfl rfl rfl rfl
  · refine rr_aload_n dX2_fill_8 rfl 0 rfl ?_
    refine rr_get (v := .int (a1.2.1 169)) cl2 k2_37 (Nat.le_of_ble_eq_true rfl) rfl rfl dX2_fill_9 ?_
    refine rr_iconst (v := (-1)) dX2_fill_12 (by decide) ?_
    refine rr_icmp_eq (tgt := 27) dX2_fill_13 (by decide) (fun _ => ?_) (fun _ => ?_)
    · exact rr_vret dX2_fill_27 rfl rfl rfl rfl rfl
    · refine rr_aload_n dX2_fill_16 rfl 0 rfl ?_
      refine rr_iconst (v := 0) dX2_fill_17 (by decide) ?_
      refine rr_vs (W := xw P) (As := [.int 0]) (rest := []) (tX2_take P a1.2 0) v2_60 rfl rfl ⟨Nat.le_of_ble_eq_true rfl, Nat.le_of_ble_eq_true rfl⟩ (fun _ _ => rfl) rfl rfl (Nat.le_of_ble_eq_true rfl) rfl dX2_fill_18 (fun S2 => ?_)
      refine rr_iinc (lv' := [(1, .int (a1.1 + 1)), (0, .ref 10)]) dX2_fill_21 1 rfl (by decide) rfl ?_
      refine rr_goto (tgt := 2) dX2_fill_24 (by decide) ?_
      refine rr_sub [1, 0] rfl ?_
      exact hrec2 ((a1.1 + 1), S2)
def fX2_fill (P : rr_T) (S : rr_T) : Option rr_T :=
  rr_loop FU (LX2_fill_2 P) (0, S)
set_option maxRecDepth 20000 in
theorem tX2_fill {l : Launch} {G : rr_G} (P : rr_T) (S : rr_T) : TT l G mX2_fill 3 67 fxA rvS (xw P) z0 z0 0 0 [.ref 10] (xw P S) (fX2_fill P S) := by
  refine TT.by (by decide) (Nat.le_of_ble_eq_true rfl) (lv := [(0, .ref 10)]) rfl ?_
  show RR l G mX2_fill 3 67 fxA rvS (xw P) z0 z0 0 0 0 [(0, .ref 10)] [] (xw P S) (fX2_fill P S)
  unfold fX2_fill
  refine rr_iconst (v := 0) dX2_fill_0 (by decide) ?_
  refine rr_istore_n (lv' := [(1, .int 0), (0, .ref 10)]) dX2_fill_1 rfl (by decide) rfl ?_
  refine rr_sub [1, 0] rfl ?_
  exact tX2_fill_2 P FU (0, S)
def JX5_pack_13_58 (rec13 : (Int64 × Int32) → Option Int64) (a2 : Int64 × Int32) (a4 : Int32) : Option Int64 :=
  rr_l (((a2.1 <<< ((4 : Int32).toInt64 &&& 63)) ||| (a4 &&& 15).toInt64)) (fun v5 =>
  rec13 (v5, (a2.2 + 1)))
set_option maxRecDepth 20000 in
theorem tX5_pack_13_58 {l : Launch} {G : rr_G} (rec13 : (Int64 × Int32) → Option Int64) (a2 : Int64 × Int32) (P : rr_T) (S : rr_T) (x2 : Int32) (v1 : Int32) (hrec13 : ∀ a : Int64 × Int32, RR l G mX5_pack 1 21 fxA rvL (fun _ => xw P S) z0 z0 0 0 13 [(0, .ref 13), (1, .int x2), (3, .int v1), (4, .long a.1), (6, .int a.2)] [] (xw P S) (rec13 a)) (a4 : Int32) : RR l G mX5_pack 1 21 fxA rvL (fun _ => xw P S) z0 z0 0 0 58 [(0, .ref 13), (1, .int x2), (3, .int v1), (4, .long a2.1), (6, .int a2.2)] [.int a4] (xw P S) (JX5_pack_13_58 rec13 a2 a4) := by
  unfold JX5_pack_13_58
  refine rr_istore (lv' := [(8, .int a4), (0, .ref 13), (1, .int x2), (3, .int v1), (4, .long a2.1), (6, .int a2.2)]) dX5_pack_58 (by decide) rfl ?_
  refine rr_lload dX5_pack_60 4 rfl ?_
  refine rr_iconst (v := 4) dX5_pack_62 (by decide) ?_
  refine rr_lshl dX5_pack_63 ?_
  refine rr_iload dX5_pack_64 0 rfl ?_
  refine rr_bipush (v := 15) dX5_pack_66 (by decide) ?_
  refine rr_iand dX5_pack_68 ?_
  refine rr_i2l dX5_pack_69 ?_
  refine rr_lor dX5_pack_70 ?_
  refine rr_letL (fun v5 => ?_)
  refine rr_lstore (lv' := [(4, .long v5), (8, .int a4), (0, .ref 13), (1, .int x2), (3, .int v1), (6, .int a2.2)]) dX5_pack_71 (by decide) rfl ?_
  refine rr_iinc (lv' := [(6, .int (a2.2 + 1)), (4, .long v5), (8, .int a4), (0, .ref 13), (1, .int x2), (3, .int v1)]) dX5_pack_73 5 rfl (by decide) rfl ?_
  refine rr_goto (tgt := 13) dX5_pack_76 (by decide) ?_
  refine rr_sub [3, 4, 5, 1, 0] rfl ?_
  exact hrec13 (v5, (a2.2 + 1))
def JX5_pack_13_36 (rec13 : (Int64 × Int32) → Option Int64) (a2 : Int64 × Int32) (a3 : Int32) : Option Int64 :=
  if 10 ≤ a3 then
  JX5_pack_13_58 rec13 a2 (((a3 - 10) + 6))
else
  JX5_pack_13_58 rec13 a2 a3
set_option maxRecDepth 20000 in
theorem tX5_pack_13_36 {l : Launch} {G : rr_G} (rec13 : (Int64 × Int32) → Option Int64) (a2 : Int64 × Int32) (P : rr_T) (S : rr_T) (x2 : Int32) (v1 : Int32) (hrec13 : ∀ a : Int64 × Int32, RR l G mX5_pack 1 21 fxA rvL (fun _ => xw P S) z0 z0 0 0 13 [(0, .ref 13), (1, .int x2), (3, .int v1), (4, .long a.1), (6, .int a.2)] [] (xw P S) (rec13 a)) (a3 : Int32) : RR l G mX5_pack 1 21 fxA rvL (fun _ => xw P S) z0 z0 0 0 36 [(0, .ref 13), (1, .int x2), (3, .int v1), (4, .long a2.1), (6, .int a2.2)] [.int a3] (xw P S) (JX5_pack_13_36 rec13 a2 a3) := by
  unfold JX5_pack_13_36
  refine rr_istore (lv' := [(7, .int a3), (0, .ref 13), (1, .int x2), (3, .int v1), (4, .long a2.1), (6, .int a2.2)]) dX5_pack_36 (by decide) rfl ?_
  refine rr_iload dX5_pack_38 0 rfl ?_
  refine rr_bipush (v := 10) dX5_pack_40 (by decide) ?_
  refine rr_icmp_ge (tgt := 50) dX5_pack_42 (by decide) (fun _ => ?_) (fun _ => ?_)
  · refine rr_iload dX5_pack_50 0 rfl ?_
    refine rr_bipush (v := 10) dX5_pack_52 (by decide) ?_
    refine rr_isub dX5_pack_54 ?_
    refine rr_bipush (v := 6) dX5_pack_55 (by decide) ?_
    refine rr_iadd dX5_pack_57 ?_
    refine rr_sub [1, 2, 3, 4, 5] rfl ?_
    exact tX5_pack_13_58 rec13 a2 P S x2 v1 hrec13 (((a3 - 10) + 6))
  · refine rr_iload dX5_pack_45 0 rfl ?_
    refine rr_goto (tgt := 58) dX5_pack_47 (by decide) ?_
    refine rr_sub [1, 2, 3, 4, 5] rfl ?_
    exact tX5_pack_13_58 rec13 a2 P S x2 v1 hrec13 a3
def LX5_pack_13_13 (S : rr_T) (x2 : Int32) (v1 : Int32) (rec13 : (Int64 × Int32) → Option Int64) (a2 : Int64 × Int32) : Option Int64 :=
  if (x2 + 11) ≤ a2.2 then
  some a2.1
else
  if v1 ≤ a2.2 then
    JX5_pack_13_36 rec13 a2 0
  else
    if inb a2.2 22 then
      JX5_pack_13_36 rec13 a2 ((S.2.1 13 a2.2.toNatClampNeg))
    else none
set_option maxRecDepth 20000 in
theorem tX5_pack_13_13 {l : Launch} {G : rr_G} (S : rr_T) (x2 : Int32) (v1 : Int32) (P : rr_T) : ∀ (n : Nat) (a : Int64 × Int32), RR l G mX5_pack 1 21 fxA rvL (fun _ => xw P S) z0 z0 0 0 13 [(0, .ref 13), (1, .int x2), (3, .int v1), (4, .long a.1), (6, .int a.2)] [] (xw P S) (rr_loop n (LX5_pack_13_13 S x2 v1) a) := by
  refine rr_lp (α := Int64 × Int32) 13 (fun a => [(0, .ref 13), (1, .int x2), (3, .int v1), (4, .long a.1), (6, .int a.2)]) (fun a => (xw P S)) (fun rec13 hrec13 a2 => ?_)
  show RR l G mX5_pack 1 21 fxA rvL (fun _ => xw P S) z0 z0 0 0 13 [(0, .ref 13), (1, .int x2), (3, .int v1), (4, .long a2.1), (6, .int a2.2)] [] (xw P S) (LX5_pack_13_13 S x2 v1 rec13 a2)
  unfold LX5_pack_13_13
  refine rr_iload dX5_pack_13 4 rfl ?_
  refine rr_iload_n dX5_pack_15 rfl 1 rfl ?_
  refine rr_bipush (v := 11) dX5_pack_16 (by decide) ?_
  refine rr_iadd dX5_pack_18 ?_
  refine rr_icmp_ge (tgt := 79) dX5_pack_19 (by decide) (fun _ => ?_) (fun _ => ?_)
  · refine rr_lload dX5_pack_79 3 rfl ?_
    exact rr_lret dX5_pack_81 rfl rfl rfl rfl rfl
  · refine rr_iload dX5_pack_22 4 rfl ?_
    refine rr_iload_n dX5_pack_24 rfl 2 rfl ?_
    refine rr_icmp_ge (tgt := 35) dX5_pack_25 (by decide) (fun _ => ?_) (fun _ => ?_)
    · refine rr_iconst (v := 0) dX5_pack_35 (by decide) ?_
      exact tX5_pack_13_36 rec13 a2 P S x2 v1 hrec13 0
    · refine rr_aload_n dX5_pack_28 rfl 0 rfl ?_
      refine rr_iload dX5_pack_29 4 rfl ?_
      refine rr_if (fun z => ?_)
      refine rr_iald (len := 22) rfl (inb_in z) dX5_pack_31 ?_
      refine rr_goto (tgt := 36) dX5_pack_32 (by decide) ?_
      exact tX5_pack_13_36 rec13 a2 P S x2 v1 hrec13 ((S.2.1 13 a2.2.toNatClampNeg))
def fX5_pack_13 (P : rr_T) (S : rr_T) (x2 : Int32) (x3 : Int32) : Option Int64 :=
  rr_l ((jMin x3 ((nI 22)))) (fun v1 =>
  rr_loop FU (LX5_pack_13_13 S x2 v1) (0, x2))
set_option maxRecDepth 20000 in
theorem tX5_pack_13 {l : Launch} {G : rr_G} (P : rr_T) (S : rr_T) (x2 : Int32) (x3 : Int32) : TT l G mX5_pack 1 21 fxA rvL (fun _ => xw P S) z0 z0 0 0 [.ref 13, .int x2, .int x3] (xw P S) (fX5_pack_13 P S x2 x3) := by
  refine TT.by (by decide) (Nat.le_of_ble_eq_true rfl) (lv := [(0, .ref 13), (1, .int x2), (2, .int x3)]) rfl ?_
  show RR l G mX5_pack 1 21 fxA rvL (fun _ => xw P S) z0 z0 0 0 0 [(0, .ref 13), (1, .int x2), (2, .int x3)] [] (xw P S) (fX5_pack_13 P S x2 x3)
  unfold fX5_pack_13
  refine rr_iload_n dX5_pack_0 rfl 2 rfl ?_
  refine rr_aload_n dX5_pack_1 rfl 0 rfl ?_
  refine rr_alen (by decide) rfl dX5_pack_2 ?_
  refine rr_mmin mk5_35 (Nat.le_of_ble_eq_true rfl) (Nat.le_of_ble_eq_true rfl) dX5_pack_3 ?_
  refine rr_letI (fun v1 => ?_)
  refine rr_istore_n (lv' := [(3, .int v1), (0, .ref 13), (1, .int x2), (2, .int x3)]) dX5_pack_6 rfl (by decide) rfl ?_
  refine rr_lconst (v := 0) dX5_pack_7 (by decide) ?_
  refine rr_lstore (lv' := [(4, .long 0), (3, .int v1), (0, .ref 13), (1, .int x2), (2, .int x3)]) dX5_pack_8 (by decide) rfl ?_
  refine rr_iload_n dX5_pack_10 rfl 3 rfl ?_
  refine rr_istore (lv' := [(6, .int x2), (4, .long 0), (3, .int v1), (0, .ref 13), (1, .int x2), (2, .int x3)]) dX5_pack_11 (by decide) rfl ?_
  refine rr_sub [3, 4, 2, 1, 0] rfl ?_
  exact tX5_pack_13_13 S x2 v1 P FU (0, x2)
def JX5_pack_24_58 (rec13 : (Int64 × Int32) → Option Int64) (a2 : Int64 × Int32) (a4 : Int32) : Option Int64 :=
  rr_l (((a2.1 <<< ((4 : Int32).toInt64 &&& 63)) ||| (a4 &&& 15).toInt64)) (fun v5 =>
  rec13 (v5, (a2.2 + 1)))
set_option maxRecDepth 20000 in
theorem tX5_pack_24_58 {l : Launch} {G : rr_G} (rec13 : (Int64 × Int32) → Option Int64) (a2 : Int64 × Int32) (P : rr_T) (S : rr_T) (x2 : Int32) (v1 : Int32) (hrec13 : ∀ a : Int64 × Int32, RR l G mX5_pack 1 21 fxA rvL (fun _ => xw P S) z0 z0 0 0 13 [(0, .ref 24), (1, .int x2), (3, .int v1), (4, .long a.1), (6, .int a.2)] [] (xw P S) (rec13 a)) (a4 : Int32) : RR l G mX5_pack 1 21 fxA rvL (fun _ => xw P S) z0 z0 0 0 58 [(0, .ref 24), (1, .int x2), (3, .int v1), (4, .long a2.1), (6, .int a2.2)] [.int a4] (xw P S) (JX5_pack_24_58 rec13 a2 a4) := by
  unfold JX5_pack_24_58
  refine rr_istore (lv' := [(8, .int a4), (0, .ref 24), (1, .int x2), (3, .int v1), (4, .long a2.1), (6, .int a2.2)]) dX5_pack_58 (by decide) rfl ?_
  refine rr_lload dX5_pack_60 4 rfl ?_
  refine rr_iconst (v := 4) dX5_pack_62 (by decide) ?_
  refine rr_lshl dX5_pack_63 ?_
  refine rr_iload dX5_pack_64 0 rfl ?_
  refine rr_bipush (v := 15) dX5_pack_66 (by decide) ?_
  refine rr_iand dX5_pack_68 ?_
  refine rr_i2l dX5_pack_69 ?_
  refine rr_lor dX5_pack_70 ?_
  refine rr_letL (fun v5 => ?_)
  refine rr_lstore (lv' := [(4, .long v5), (8, .int a4), (0, .ref 24), (1, .int x2), (3, .int v1), (6, .int a2.2)]) dX5_pack_71 (by decide) rfl ?_
  refine rr_iinc (lv' := [(6, .int (a2.2 + 1)), (4, .long v5), (8, .int a4), (0, .ref 24), (1, .int x2), (3, .int v1)]) dX5_pack_73 5 rfl (by decide) rfl ?_
  refine rr_goto (tgt := 13) dX5_pack_76 (by decide) ?_
  refine rr_sub [3, 4, 5, 1, 0] rfl ?_
  exact hrec13 (v5, (a2.2 + 1))
def JX5_pack_24_36 (rec13 : (Int64 × Int32) → Option Int64) (a2 : Int64 × Int32) (a3 : Int32) : Option Int64 :=
  if 10 ≤ a3 then
  JX5_pack_24_58 rec13 a2 (((a3 - 10) + 6))
else
  JX5_pack_24_58 rec13 a2 a3
set_option maxRecDepth 20000 in
theorem tX5_pack_24_36 {l : Launch} {G : rr_G} (rec13 : (Int64 × Int32) → Option Int64) (a2 : Int64 × Int32) (P : rr_T) (S : rr_T) (x2 : Int32) (v1 : Int32) (hrec13 : ∀ a : Int64 × Int32, RR l G mX5_pack 1 21 fxA rvL (fun _ => xw P S) z0 z0 0 0 13 [(0, .ref 24), (1, .int x2), (3, .int v1), (4, .long a.1), (6, .int a.2)] [] (xw P S) (rec13 a)) (a3 : Int32) : RR l G mX5_pack 1 21 fxA rvL (fun _ => xw P S) z0 z0 0 0 36 [(0, .ref 24), (1, .int x2), (3, .int v1), (4, .long a2.1), (6, .int a2.2)] [.int a3] (xw P S) (JX5_pack_24_36 rec13 a2 a3) := by
  unfold JX5_pack_24_36
  refine rr_istore (lv' := [(7, .int a3), (0, .ref 24), (1, .int x2), (3, .int v1), (4, .long a2.1), (6, .int a2.2)]) dX5_pack_36 (by decide) rfl ?_
  refine rr_iload dX5_pack_38 0 rfl ?_
  refine rr_bipush (v := 10) dX5_pack_40 (by decide) ?_
  refine rr_icmp_ge (tgt := 50) dX5_pack_42 (by decide) (fun _ => ?_) (fun _ => ?_)
  · refine rr_iload dX5_pack_50 0 rfl ?_
    refine rr_bipush (v := 10) dX5_pack_52 (by decide) ?_
    refine rr_isub dX5_pack_54 ?_
    refine rr_bipush (v := 6) dX5_pack_55 (by decide) ?_
    refine rr_iadd dX5_pack_57 ?_
    refine rr_sub [1, 2, 3, 4, 5] rfl ?_
    exact tX5_pack_24_58 rec13 a2 P S x2 v1 hrec13 (((a3 - 10) + 6))
  · refine rr_iload dX5_pack_45 0 rfl ?_
    refine rr_goto (tgt := 58) dX5_pack_47 (by decide) ?_
    refine rr_sub [1, 2, 3, 4, 5] rfl ?_
    exact tX5_pack_24_58 rec13 a2 P S x2 v1 hrec13 a3
def LX5_pack_24_13 (S : rr_T) (x2 : Int32) (v1 : Int32) (rec13 : (Int64 × Int32) → Option Int64) (a2 : Int64 × Int32) : Option Int64 :=
  if (x2 + 11) ≤ a2.2 then
  some a2.1
else
  if v1 ≤ a2.2 then
    JX5_pack_24_36 rec13 a2 0
  else
    if inb a2.2 22 then
      JX5_pack_24_36 rec13 a2 ((S.2.1 24 a2.2.toNatClampNeg))
    else none
set_option maxRecDepth 20000 in
theorem tX5_pack_24_13 {l : Launch} {G : rr_G} (S : rr_T) (x2 : Int32) (v1 : Int32) (P : rr_T) : ∀ (n : Nat) (a : Int64 × Int32), RR l G mX5_pack 1 21 fxA rvL (fun _ => xw P S) z0 z0 0 0 13 [(0, .ref 24), (1, .int x2), (3, .int v1), (4, .long a.1), (6, .int a.2)] [] (xw P S) (rr_loop n (LX5_pack_24_13 S x2 v1) a) := by
  refine rr_lp (α := Int64 × Int32) 13 (fun a => [(0, .ref 24), (1, .int x2), (3, .int v1), (4, .long a.1), (6, .int a.2)]) (fun a => (xw P S)) (fun rec13 hrec13 a2 => ?_)
  show RR l G mX5_pack 1 21 fxA rvL (fun _ => xw P S) z0 z0 0 0 13 [(0, .ref 24), (1, .int x2), (3, .int v1), (4, .long a2.1), (6, .int a2.2)] [] (xw P S) (LX5_pack_24_13 S x2 v1 rec13 a2)
  unfold LX5_pack_24_13
  refine rr_iload dX5_pack_13 4 rfl ?_
  refine rr_iload_n dX5_pack_15 rfl 1 rfl ?_
  refine rr_bipush (v := 11) dX5_pack_16 (by decide) ?_
  refine rr_iadd dX5_pack_18 ?_
  refine rr_icmp_ge (tgt := 79) dX5_pack_19 (by decide) (fun _ => ?_) (fun _ => ?_)
  · refine rr_lload dX5_pack_79 3 rfl ?_
    exact rr_lret dX5_pack_81 rfl rfl rfl rfl rfl
  · refine rr_iload dX5_pack_22 4 rfl ?_
    refine rr_iload_n dX5_pack_24 rfl 2 rfl ?_
    refine rr_icmp_ge (tgt := 35) dX5_pack_25 (by decide) (fun _ => ?_) (fun _ => ?_)
    · refine rr_iconst (v := 0) dX5_pack_35 (by decide) ?_
      exact tX5_pack_24_36 rec13 a2 P S x2 v1 hrec13 0
    · refine rr_aload_n dX5_pack_28 rfl 0 rfl ?_
      refine rr_iload dX5_pack_29 4 rfl ?_
      refine rr_if (fun z => ?_)
      refine rr_iald (len := 22) rfl (inb_in z) dX5_pack_31 ?_
      refine rr_goto (tgt := 36) dX5_pack_32 (by decide) ?_
      exact tX5_pack_24_36 rec13 a2 P S x2 v1 hrec13 ((S.2.1 24 a2.2.toNatClampNeg))
def fX5_pack_24 (P : rr_T) (S : rr_T) (x2 : Int32) (x3 : Int32) : Option Int64 :=
  rr_l ((jMin x3 ((nI 22)))) (fun v1 =>
  rr_loop FU (LX5_pack_24_13 S x2 v1) (0, x2))
set_option maxRecDepth 20000 in
theorem tX5_pack_24 {l : Launch} {G : rr_G} (P : rr_T) (S : rr_T) (x2 : Int32) (x3 : Int32) : TT l G mX5_pack 1 21 fxA rvL (fun _ => xw P S) z0 z0 0 0 [.ref 24, .int x2, .int x3] (xw P S) (fX5_pack_24 P S x2 x3) := by
  refine TT.by (by decide) (Nat.le_of_ble_eq_true rfl) (lv := [(0, .ref 24), (1, .int x2), (2, .int x3)]) rfl ?_
  show RR l G mX5_pack 1 21 fxA rvL (fun _ => xw P S) z0 z0 0 0 0 [(0, .ref 24), (1, .int x2), (2, .int x3)] [] (xw P S) (fX5_pack_24 P S x2 x3)
  unfold fX5_pack_24
  refine rr_iload_n dX5_pack_0 rfl 2 rfl ?_
  refine rr_aload_n dX5_pack_1 rfl 0 rfl ?_
  refine rr_alen (by decide) rfl dX5_pack_2 ?_
  refine rr_mmin mk5_35 (Nat.le_of_ble_eq_true rfl) (Nat.le_of_ble_eq_true rfl) dX5_pack_3 ?_
  refine rr_letI (fun v1 => ?_)
  refine rr_istore_n (lv' := [(3, .int v1), (0, .ref 24), (1, .int x2), (2, .int x3)]) dX5_pack_6 rfl (by decide) rfl ?_
  refine rr_lconst (v := 0) dX5_pack_7 (by decide) ?_
  refine rr_lstore (lv' := [(4, .long 0), (3, .int v1), (0, .ref 24), (1, .int x2), (2, .int x3)]) dX5_pack_8 (by decide) rfl ?_
  refine rr_iload_n dX5_pack_10 rfl 3 rfl ?_
  refine rr_istore (lv' := [(6, .int x2), (4, .long 0), (3, .int v1), (0, .ref 24), (1, .int x2), (2, .int x3)]) dX5_pack_11 (by decide) rfl ?_
  refine rr_sub [3, 4, 2, 1, 0] rfl ?_
  exact tX5_pack_24_13 S x2 v1 P FU (0, x2)
def JX5_pack_33_58 (rec13 : (Int64 × Int32) → Option Int64) (a2 : Int64 × Int32) (a4 : Int32) : Option Int64 :=
  rr_l (((a2.1 <<< ((4 : Int32).toInt64 &&& 63)) ||| (a4 &&& 15).toInt64)) (fun v5 =>
  rec13 (v5, (a2.2 + 1)))
set_option maxRecDepth 20000 in
theorem tX5_pack_33_58 {l : Launch} {G : rr_G} (rec13 : (Int64 × Int32) → Option Int64) (a2 : Int64 × Int32) (P : rr_T) (S : rr_T) (x2 : Int32) (v1 : Int32) (hrec13 : ∀ a : Int64 × Int32, RR l G mX5_pack 1 21 fxA rvL (fun _ => xw P S) z0 z0 0 0 13 [(0, .ref 33), (1, .int x2), (3, .int v1), (4, .long a.1), (6, .int a.2)] [] (xw P S) (rec13 a)) (a4 : Int32) : RR l G mX5_pack 1 21 fxA rvL (fun _ => xw P S) z0 z0 0 0 58 [(0, .ref 33), (1, .int x2), (3, .int v1), (4, .long a2.1), (6, .int a2.2)] [.int a4] (xw P S) (JX5_pack_33_58 rec13 a2 a4) := by
  unfold JX5_pack_33_58
  refine rr_istore (lv' := [(8, .int a4), (0, .ref 33), (1, .int x2), (3, .int v1), (4, .long a2.1), (6, .int a2.2)]) dX5_pack_58 (by decide) rfl ?_
  refine rr_lload dX5_pack_60 4 rfl ?_
  refine rr_iconst (v := 4) dX5_pack_62 (by decide) ?_
  refine rr_lshl dX5_pack_63 ?_
  refine rr_iload dX5_pack_64 0 rfl ?_
  refine rr_bipush (v := 15) dX5_pack_66 (by decide) ?_
  refine rr_iand dX5_pack_68 ?_
  refine rr_i2l dX5_pack_69 ?_
  refine rr_lor dX5_pack_70 ?_
  refine rr_letL (fun v5 => ?_)
  refine rr_lstore (lv' := [(4, .long v5), (8, .int a4), (0, .ref 33), (1, .int x2), (3, .int v1), (6, .int a2.2)]) dX5_pack_71 (by decide) rfl ?_
  refine rr_iinc (lv' := [(6, .int (a2.2 + 1)), (4, .long v5), (8, .int a4), (0, .ref 33), (1, .int x2), (3, .int v1)]) dX5_pack_73 5 rfl (by decide) rfl ?_
  refine rr_goto (tgt := 13) dX5_pack_76 (by decide) ?_
  refine rr_sub [3, 4, 5, 1, 0] rfl ?_
  exact hrec13 (v5, (a2.2 + 1))
def JX5_pack_33_36 (rec13 : (Int64 × Int32) → Option Int64) (a2 : Int64 × Int32) (a3 : Int32) : Option Int64 :=
  if 10 ≤ a3 then
  JX5_pack_33_58 rec13 a2 (((a3 - 10) + 6))
else
  JX5_pack_33_58 rec13 a2 a3
set_option maxRecDepth 20000 in
theorem tX5_pack_33_36 {l : Launch} {G : rr_G} (rec13 : (Int64 × Int32) → Option Int64) (a2 : Int64 × Int32) (P : rr_T) (S : rr_T) (x2 : Int32) (v1 : Int32) (hrec13 : ∀ a : Int64 × Int32, RR l G mX5_pack 1 21 fxA rvL (fun _ => xw P S) z0 z0 0 0 13 [(0, .ref 33), (1, .int x2), (3, .int v1), (4, .long a.1), (6, .int a.2)] [] (xw P S) (rec13 a)) (a3 : Int32) : RR l G mX5_pack 1 21 fxA rvL (fun _ => xw P S) z0 z0 0 0 36 [(0, .ref 33), (1, .int x2), (3, .int v1), (4, .long a2.1), (6, .int a2.2)] [.int a3] (xw P S) (JX5_pack_33_36 rec13 a2 a3) := by
  unfold JX5_pack_33_36
  refine rr_istore (lv' := [(7, .int a3), (0, .ref 33), (1, .int x2), (3, .int v1), (4, .long a2.1), (6, .int a2.2)]) dX5_pack_36 (by decide) rfl ?_
  refine rr_iload dX5_pack_38 0 rfl ?_
  refine rr_bipush (v := 10) dX5_pack_40 (by decide) ?_
  refine rr_icmp_ge (tgt := 50) dX5_pack_42 (by decide) (fun _ => ?_) (fun _ => ?_)
  · refine rr_iload dX5_pack_50 0 rfl ?_
    refine rr_bipush (v := 10) dX5_pack_52 (by decide) ?_
    refine rr_isub dX5_pack_54 ?_
    refine rr_bipush (v := 6) dX5_pack_55 (by decide) ?_
    refine rr_iadd dX5_pack_57 ?_
    refine rr_sub [1, 2, 3, 4, 5] rfl ?_
    exact tX5_pack_33_58 rec13 a2 P S x2 v1 hrec13 (((a3 - 10) + 6))
  · refine rr_iload dX5_pack_45 0 rfl ?_
    refine rr_goto (tgt := 58) dX5_pack_47 (by decide) ?_
    refine rr_sub [1, 2, 3, 4, 5] rfl ?_
    exact tX5_pack_33_58 rec13 a2 P S x2 v1 hrec13 a3
def LX5_pack_33_13 (S : rr_T) (x2 : Int32) (v1 : Int32) (rec13 : (Int64 × Int32) → Option Int64) (a2 : Int64 × Int32) : Option Int64 :=
  if (x2 + 11) ≤ a2.2 then
  some a2.1
else
  if v1 ≤ a2.2 then
    JX5_pack_33_36 rec13 a2 0
  else
    if inb a2.2 40 then
      JX5_pack_33_36 rec13 a2 ((S.2.1 33 a2.2.toNatClampNeg))
    else none
set_option maxRecDepth 20000 in
theorem tX5_pack_33_13 {l : Launch} {G : rr_G} (S : rr_T) (x2 : Int32) (v1 : Int32) (P : rr_T) : ∀ (n : Nat) (a : Int64 × Int32), RR l G mX5_pack 1 21 fxA rvL (fun _ => xw P S) z0 z0 0 0 13 [(0, .ref 33), (1, .int x2), (3, .int v1), (4, .long a.1), (6, .int a.2)] [] (xw P S) (rr_loop n (LX5_pack_33_13 S x2 v1) a) := by
  refine rr_lp (α := Int64 × Int32) 13 (fun a => [(0, .ref 33), (1, .int x2), (3, .int v1), (4, .long a.1), (6, .int a.2)]) (fun a => (xw P S)) (fun rec13 hrec13 a2 => ?_)
  show RR l G mX5_pack 1 21 fxA rvL (fun _ => xw P S) z0 z0 0 0 13 [(0, .ref 33), (1, .int x2), (3, .int v1), (4, .long a2.1), (6, .int a2.2)] [] (xw P S) (LX5_pack_33_13 S x2 v1 rec13 a2)
  unfold LX5_pack_33_13
  refine rr_iload dX5_pack_13 4 rfl ?_
  refine rr_iload_n dX5_pack_15 rfl 1 rfl ?_
  refine rr_bipush (v := 11) dX5_pack_16 (by decide) ?_
  refine rr_iadd dX5_pack_18 ?_
  refine rr_icmp_ge (tgt := 79) dX5_pack_19 (by decide) (fun _ => ?_) (fun _ => ?_)
  · refine rr_lload dX5_pack_79 3 rfl ?_
    exact rr_lret dX5_pack_81 rfl rfl rfl rfl rfl
  · refine rr_iload dX5_pack_22 4 rfl ?_
    refine rr_iload_n dX5_pack_24 rfl 2 rfl ?_
    refine rr_icmp_ge (tgt := 35) dX5_pack_25 (by decide) (fun _ => ?_) (fun _ => ?_)
    · refine rr_iconst (v := 0) dX5_pack_35 (by decide) ?_
      exact tX5_pack_33_36 rec13 a2 P S x2 v1 hrec13 0
    · refine rr_aload_n dX5_pack_28 rfl 0 rfl ?_
      refine rr_iload dX5_pack_29 4 rfl ?_
      refine rr_if (fun z => ?_)
      refine rr_iald (len := 40) rfl (inb_in z) dX5_pack_31 ?_
      refine rr_goto (tgt := 36) dX5_pack_32 (by decide) ?_
      exact tX5_pack_33_36 rec13 a2 P S x2 v1 hrec13 ((S.2.1 33 a2.2.toNatClampNeg))
def fX5_pack_33 (P : rr_T) (S : rr_T) (x2 : Int32) (x3 : Int32) : Option Int64 :=
  rr_l ((jMin x3 ((nI 40)))) (fun v1 =>
  rr_loop FU (LX5_pack_33_13 S x2 v1) (0, x2))
set_option maxRecDepth 20000 in
theorem tX5_pack_33 {l : Launch} {G : rr_G} (P : rr_T) (S : rr_T) (x2 : Int32) (x3 : Int32) : TT l G mX5_pack 1 21 fxA rvL (fun _ => xw P S) z0 z0 0 0 [.ref 33, .int x2, .int x3] (xw P S) (fX5_pack_33 P S x2 x3) := by
  refine TT.by (by decide) (Nat.le_of_ble_eq_true rfl) (lv := [(0, .ref 33), (1, .int x2), (2, .int x3)]) rfl ?_
  show RR l G mX5_pack 1 21 fxA rvL (fun _ => xw P S) z0 z0 0 0 0 [(0, .ref 33), (1, .int x2), (2, .int x3)] [] (xw P S) (fX5_pack_33 P S x2 x3)
  unfold fX5_pack_33
  refine rr_iload_n dX5_pack_0 rfl 2 rfl ?_
  refine rr_aload_n dX5_pack_1 rfl 0 rfl ?_
  refine rr_alen (by decide) rfl dX5_pack_2 ?_
  refine rr_mmin mk5_35 (Nat.le_of_ble_eq_true rfl) (Nat.le_of_ble_eq_true rfl) dX5_pack_3 ?_
  refine rr_letI (fun v1 => ?_)
  refine rr_istore_n (lv' := [(3, .int v1), (0, .ref 33), (1, .int x2), (2, .int x3)]) dX5_pack_6 rfl (by decide) rfl ?_
  refine rr_lconst (v := 0) dX5_pack_7 (by decide) ?_
  refine rr_lstore (lv' := [(4, .long 0), (3, .int v1), (0, .ref 33), (1, .int x2), (2, .int x3)]) dX5_pack_8 (by decide) rfl ?_
  refine rr_iload_n dX5_pack_10 rfl 3 rfl ?_
  refine rr_istore (lv' := [(6, .int x2), (4, .long 0), (3, .int v1), (0, .ref 33), (1, .int x2), (2, .int x3)]) dX5_pack_11 (by decide) rfl ?_
  refine rr_sub [3, 4, 2, 1, 0] rfl ?_
  exact tX5_pack_33_13 S x2 v1 P FU (0, x2)
def fX2_backTo (P : rr_T) (S : rr_T) (x1 : Int32) : Option rr_T :=
  if x1 < 0 then
  some S
else
  if (S.1 167) ≤ x1 then
    some S
  else
    if inb x1 22 then
      rr_l (pI S 169 ((S.2.1 14 x1.toNatClampNeg))) (fun S1 =>
        if inb x1 22 then
        rr_l (pI S1 170 ((S1.2.1 15 x1.toNatClampNeg))) (fun S2 =>
          if inb x1 22 then
          rr_l (pI S2 168 ((S2.2.1 16 x1.toNatClampNeg))) (fun S3 =>
            rr_l (pI S3 167 x1) (fun S4 =>
            some S4))
        else none)
      else none)
    else none
set_option maxRecDepth 20000 in
theorem tX2_backTo {l : Launch} {G : rr_G} (P : rr_T) (S : rr_T) (x1 : Int32) : TT l G mX2_backTo 0 0 fxA rvS (xw P) z0 z0 0 0 [.ref 10, .int x1] (xw P S) (fX2_backTo P S x1) := by
  refine TT.by (by decide) (Nat.le_of_ble_eq_true rfl) (lv := [(0, .ref 10), (1, .int x1)]) rfl ?_
  show RR l G mX2_backTo 0 0 fxA rvS (xw P) z0 z0 0 0 0 [(0, .ref 10), (1, .int x1)] [] (xw P S) (fX2_backTo P S x1)
  unfold fX2_backTo
  refine rr_iload_n dX2_backTo_0 rfl 1 rfl ?_
  refine rr_if_lt (tgt := 47) dX2_backTo_1 (by decide) (fun _ => ?_) (fun _ => ?_)
  · exact rr_vret dX2_backTo_47 rfl rfl rfl rfl rfl
  · refine rr_iload_n dX2_backTo_4 rfl 1 rfl ?_
    refine rr_aload_n dX2_backTo_5 rfl 0 rfl ?_
    refine rr_get (v := .int (S.1 167)) cl2 k2_30 (Nat.le_of_ble_eq_true rfl) rfl rfl dX2_backTo_6 ?_
    refine rr_icmp_ge (tgt := 47) dX2_backTo_9 (by decide) (fun _ => ?_) (fun _ => ?_)
    · exact rr_vret dX2_backTo_47 rfl rfl rfl rfl rfl
    · refine rr_aload_n dX2_backTo_12 rfl 0 rfl ?_
      refine rr_aload_n dX2_backTo_13 rfl 0 rfl ?_
      refine rr_get (v := .ref 14) cl2 k2_21 (Nat.le_of_ble_eq_true rfl) rfl rfl dX2_backTo_14 ?_
      refine rr_iload_n dX2_backTo_17 rfl 1 rfl ?_
      refine rr_if (fun z => ?_)
      refine rr_iald (len := 22) rfl (inb_in z) dX2_backTo_18 ?_
      refine rr_put cl2 k2_37 (Nat.le_of_ble_eq_true rfl) rfl rfl rfl rfl (Nat.le_of_ble_eq_true rfl) dX2_backTo_19 (xp10_9 P S ((S.2.1 14 x1.toNatClampNeg))) ?_
      refine rr_letS (W := xw P) (fun S1 => ?_)
      refine rr_aload_n dX2_backTo_22 rfl 0 rfl ?_
      refine rr_aload_n dX2_backTo_23 rfl 0 rfl ?_
      refine rr_get (v := .ref 15) cl2 k2_24 (Nat.le_of_ble_eq_true rfl) rfl rfl dX2_backTo_24 ?_
      refine rr_iload_n dX2_backTo_27 rfl 1 rfl ?_
      refine rr_if (fun z => ?_)
      refine rr_iald (len := 22) rfl (inb_in z) dX2_backTo_28 ?_
      refine rr_put cl2 k2_40 (Nat.le_of_ble_eq_true rfl) rfl rfl rfl rfl (Nat.le_of_ble_eq_true rfl) dX2_backTo_29 (xp10_10 P S1 ((S1.2.1 15 x1.toNatClampNeg))) ?_
      refine rr_letS (W := xw P) (fun S2 => ?_)
      refine rr_aload_n dX2_backTo_32 rfl 0 rfl ?_
      refine rr_aload_n dX2_backTo_33 rfl 0 rfl ?_
      refine rr_get (v := .ref 16) cl2 k2_27 (Nat.le_of_ble_eq_true rfl) rfl rfl dX2_backTo_34 ?_
      refine rr_iload_n dX2_backTo_37 rfl 1 rfl ?_
      refine rr_if (fun z => ?_)
      refine rr_iald (len := 22) rfl (inb_in z) dX2_backTo_38 ?_
      refine rr_put cl2 k2_34 (Nat.le_of_ble_eq_true rfl) rfl rfl rfl rfl (Nat.le_of_ble_eq_true rfl) dX2_backTo_39 (xp10_8 P S2 ((S2.2.1 16 x1.toNatClampNeg))) ?_
      refine rr_letS (W := xw P) (fun S3 => ?_)
      refine rr_aload_n dX2_backTo_42 rfl 0 rfl ?_
      refine rr_iload_n dX2_backTo_43 rfl 1 rfl ?_
      refine rr_put cl2 k2_30 (Nat.le_of_ble_eq_true rfl) rfl rfl rfl rfl (Nat.le_of_ble_eq_true rfl) dX2_backTo_44 (xp10_7 P S3 x1) ?_
      refine rr_letS (W := xw P) (fun S4 => ?_)
      exact rr_vret dX2_backTo_47 rfl rfl rfl rfl rfl
def fX2_allows (P : rr_T) (S : rr_T) (x1 : Int32) : Option Int32 :=
  if (S.1 169) = (-1) then
  some 0
else
  if 0 ≤ x1 then
    (fX8_isRefType ((S.1 170))).bind (fun r1 =>
      if r1 = 0 then
      if ((S.1 170) - 4) < x1 then
        some 0
      else
        some 1
    else
      if (S.1 168) < x1 then
        if x1 < 10 then
          some 0
        else
          if (S.1 22) ≤ (S.1 168) then
            some 0
          else
            (fX8_isUnder P S ((x1 - 10)) ((S.1 170))).bind (fun r2 =>
              if r2 = 0 then
              some 0
            else
              some 1)
      else
        if x1 = 0 then
          some 1
        else
          (fX2_kindOf P S ((x1 - 1))).bind (fun r3 =>
            (fX8_isUnder P S r3 ((S.1 170))).bind (fun r4 =>
            if r4 = 0 then
            some 0
          else
            some 1)))
  else
    some 0
set_option maxRecDepth 20000 in
theorem tX2_allows {l : Launch} {G : rr_G} (P : rr_T) (S : rr_T) (x1 : Int32) : TT l G mX2_allows 1 22 fxA rvI (fun _ => xw P S) z0 z0 0 0 [.ref 10, .int x1] (xw P S) (fX2_allows P S x1) := by
  refine TT.by (by decide) (Nat.le_of_ble_eq_true rfl) (lv := [(0, .ref 10), (1, .int x1)]) rfl ?_
  show RR l G mX2_allows 1 22 fxA rvI (fun _ => xw P S) z0 z0 0 0 0 [(0, .ref 10), (1, .int x1)] [] (xw P S) (fX2_allows P S x1)
  unfold fX2_allows
  refine rr_aload_n dX2_allows_0 rfl 0 rfl ?_
  refine rr_get (v := .int (S.1 169)) cl2 k2_37 (Nat.le_of_ble_eq_true rfl) rfl rfl dX2_allows_1 ?_
  refine rr_iconst (v := (-1)) dX2_allows_4 (by decide) ?_
  refine rr_icmp_eq (tgt := 12) dX2_allows_5 (by decide) (fun _ => ?_) (fun _ => ?_)
  · refine rr_iconst (v := 0) dX2_allows_12 (by decide) ?_
    exact rr_zret dX2_allows_13 rfl (by decide) rfl rfl rfl rfl
  · refine rr_iload_n dX2_allows_8 rfl 1 rfl ?_
    refine rr_if_ge (tgt := 14) dX2_allows_9 (by decide) (fun _ => ?_) (fun _ => ?_)
    · refine rr_aload_n dX2_allows_14 rfl 0 rfl ?_
      refine rr_get (v := .int (S.1 170)) cl2 k2_40 (Nat.le_of_ble_eq_true rfl) rfl rfl dX2_allows_15 ?_
      refine rr_si (As := [.int (S.1 170)]) (rest := []) (tX8_isRefType ((S.1 170)) (xw P S)) s2_87 rfl ⟨Nat.le_of_ble_eq_true rfl, Nat.le_of_ble_eq_true rfl⟩ rfl rfl (Nat.le_of_ble_eq_true rfl) rfl dX2_allows_18 (fun r1 => ?_)
      refine rr_if_ne (tgt := 40) dX2_allows_21 (by decide) (fun _ => ?_) (fun _ => ?_)
      · refine rr_iload_n dX2_allows_40 rfl 1 rfl ?_
        refine rr_aload_n dX2_allows_41 rfl 0 rfl ?_
        refine rr_get (v := .int (S.1 168)) cl2 k2_34 (Nat.le_of_ble_eq_true rfl) rfl rfl dX2_allows_42 ?_
        refine rr_icmp_gt (tgt := 79) dX2_allows_45 (by decide) (fun _ => ?_) (fun _ => ?_)
        · refine rr_iload_n dX2_allows_79 rfl 1 rfl ?_
          refine rr_bipush (v := 10) dX2_allows_80 (by decide) ?_
          refine rr_icmp_lt (tgt := 121) dX2_allows_82 (by decide) (fun _ => ?_) (fun _ => ?_)
          · refine rr_iconst (v := 0) dX2_allows_121 (by decide) ?_
            exact rr_zret dX2_allows_122 rfl (by decide) rfl rfl rfl rfl
          · refine rr_aload_n dX2_allows_85 rfl 0 rfl ?_
            refine rr_get (v := .int (S.1 168)) cl2 k2_34 (Nat.le_of_ble_eq_true rfl) rfl rfl dX2_allows_86 ?_
            refine rr_aload_n dX2_allows_89 rfl 0 rfl ?_
            refine rr_get (v := .ref 1) cl2 k2_43 (Nat.le_of_ble_eq_true rfl) rfl rfl dX2_allows_90 ?_
            refine rr_get (v := .int (S.1 22)) cl8 k2_101 (Nat.le_of_ble_eq_true rfl) rfl rfl dX2_allows_93 ?_
            refine rr_icmp_ge (tgt := 121) dX2_allows_96 (by decide) (fun _ => ?_) (fun _ => ?_)
            · refine rr_iconst (v := 0) dX2_allows_121 (by decide) ?_
              exact rr_zret dX2_allows_122 rfl (by decide) rfl rfl rfl rfl
            · refine rr_aload_n dX2_allows_99 rfl 0 rfl ?_
              refine rr_get (v := .ref 1) cl2 k2_43 (Nat.le_of_ble_eq_true rfl) rfl rfl dX2_allows_100 ?_
              refine rr_iload_n dX2_allows_103 rfl 1 rfl ?_
              refine rr_bipush (v := 10) dX2_allows_104 (by decide) ?_
              refine rr_isub dX2_allows_106 ?_
              refine rr_aload_n dX2_allows_107 rfl 0 rfl ?_
              refine rr_get (v := .int (S.1 170)) cl2 k2_40 (Nat.le_of_ble_eq_true rfl) rfl rfl dX2_allows_108 ?_
              refine rr_vi (As := [.int (x1 - 10), .int (S.1 170)]) (rest := []) (tX8_isUnder P S ((x1 - 10)) ((S.1 170))) v2_47 rfl rfl ⟨Nat.le_of_ble_eq_true rfl, Nat.le_of_ble_eq_true rfl⟩ rfl rfl (Nat.le_of_ble_eq_true rfl) rfl dX2_allows_111 (fun r2 => ?_)
              refine rr_if_eq (tgt := 121) dX2_allows_114 (by decide) (fun _ => ?_) (fun _ => ?_)
              · refine rr_iconst (v := 0) dX2_allows_121 (by decide) ?_
                exact rr_zret dX2_allows_122 rfl (by decide) rfl rfl rfl rfl
              · refine rr_iconst (v := 1) dX2_allows_117 (by decide) ?_
                refine rr_goto (tgt := 122) dX2_allows_118 (by decide) ?_
                exact rr_zret dX2_allows_122 rfl (by decide) rfl rfl rfl rfl
        · refine rr_iload_n dX2_allows_48 rfl 1 rfl ?_
          refine rr_if_eq (tgt := 73) dX2_allows_49 (by decide) (fun _ => ?_) (fun _ => ?_)
          · refine rr_iconst (v := 1) dX2_allows_73 (by decide) ?_
            refine rr_goto (tgt := 78) dX2_allows_74 (by decide) ?_
            exact rr_zret dX2_allows_78 rfl (by decide) rfl rfl rfl rfl
          · refine rr_aload_n dX2_allows_52 rfl 0 rfl ?_
            refine rr_get (v := .ref 1) cl2 k2_43 (Nat.le_of_ble_eq_true rfl) rfl rfl dX2_allows_53 ?_
            refine rr_aload_n dX2_allows_56 rfl 0 rfl ?_
            refine rr_iload_n dX2_allows_57 rfl 1 rfl ?_
            refine rr_iconst (v := 1) dX2_allows_58 (by decide) ?_
            refine rr_isub dX2_allows_59 ?_
            refine rr_vi (As := [.int (x1 - 1)]) (rest := [.ref 1]) (tX2_kindOf P S ((x1 - 1))) v2_98 rfl rfl ⟨Nat.le_of_ble_eq_true rfl, Nat.le_of_ble_eq_true rfl⟩ rfl rfl (Nat.le_of_ble_eq_true rfl) rfl dX2_allows_60 (fun r3 => ?_)
            refine rr_aload_n dX2_allows_63 rfl 0 rfl ?_
            refine rr_get (v := .int (S.1 170)) cl2 k2_40 (Nat.le_of_ble_eq_true rfl) rfl rfl dX2_allows_64 ?_
            refine rr_vi (As := [.int r3, .int (S.1 170)]) (rest := []) (tX8_isUnder P S r3 ((S.1 170))) v2_47 rfl rfl ⟨Nat.le_of_ble_eq_true rfl, Nat.le_of_ble_eq_true rfl⟩ rfl rfl (Nat.le_of_ble_eq_true rfl) rfl dX2_allows_67 (fun r4 => ?_)
            refine rr_if_eq (tgt := 77) dX2_allows_70 (by decide) (fun _ => ?_) (fun _ => ?_)
            · refine rr_iconst (v := 0) dX2_allows_77 (by decide) ?_
              exact rr_zret dX2_allows_78 rfl (by decide) rfl rfl rfl rfl
            · refine rr_iconst (v := 1) dX2_allows_73 (by decide) ?_
              refine rr_goto (tgt := 78) dX2_allows_74 (by decide) ?_
              exact rr_zret dX2_allows_78 rfl (by decide) rfl rfl rfl rfl
      · refine rr_iload_n dX2_allows_24 rfl 1 rfl ?_
        refine rr_aload_n dX2_allows_25 rfl 0 rfl ?_
        refine rr_get (v := .int (S.1 170)) cl2 k2_40 (Nat.le_of_ble_eq_true rfl) rfl rfl dX2_allows_26 ?_
        refine rr_iconst (v := 4) dX2_allows_29 (by decide) ?_
        refine rr_isub dX2_allows_30 ?_
        refine rr_icmp_gt (tgt := 38) dX2_allows_31 (by decide) (fun _ => ?_) (fun _ => ?_)
        · refine rr_iconst (v := 0) dX2_allows_38 (by decide) ?_
          exact rr_zret dX2_allows_39 rfl (by decide) rfl rfl rfl rfl
        · refine rr_iconst (v := 1) dX2_allows_34 (by decide) ?_
          refine rr_goto (tgt := 39) dX2_allows_35 (by decide) ?_
          exact rr_zret dX2_allows_39 rfl (by decide) rfl rfl rfl rfl
    · refine rr_iconst (v := 0) dX2_allows_12 (by decide) ?_
      exact rr_zret dX2_allows_13 rfl (by decide) rfl rfl rfl rfl
def LX2_choiceAbove_65 (P : rr_T) (S : rr_T) (rec65 : Int32 → Option Int32) (a5 : Int32) : Option Int32 :=
  if (10 + (S.1 20)) ≤ a5 then
  some (-1)
else
  (fX2_allows P S a5).bind (fun r6 =>
    if r6 = 0 then
    rec65 ((a5 + 1))
  else
    some a5)
set_option maxRecDepth 20000 in
theorem tX2_choiceAbove_65 {l : Launch} {G : rr_G} (P : rr_T) (S : rr_T) : ∀ (n : Nat) (a : Int32), RR l G mX2_choiceAbove 2 43 fxA rvI (fun _ => xw P S) z0 z0 0 0 65 [(0, .ref 10), (2, .int a)] [] (xw P S) (rr_loop n (LX2_choiceAbove_65 P S) a) := by
  refine rr_lp (α := Int32) 65 (fun a => [(0, .ref 10), (2, .int a)]) (fun a => (xw P S)) (fun rec65 hrec65 a5 => ?_)
  show RR l G mX2_choiceAbove 2 43 fxA rvI (fun _ => xw P S) z0 z0 0 0 65 [(0, .ref 10), (2, .int a5)] [] (xw P S) (LX2_choiceAbove_65 P S rec65 a5)
  unfold LX2_choiceAbove_65
  refine rr_iload_n dX2_choiceAbove_65 rfl 1 rfl ?_
  refine rr_bipush (v := 10) dX2_choiceAbove_66 (by decide) ?_
  refine rr_aload_n dX2_choiceAbove_68 rfl 0 rfl ?_
  refine rr_get (v := .ref 1) cl2 k2_43 (Nat.le_of_ble_eq_true rfl) rfl rfl dX2_choiceAbove_69 ?_
  refine rr_get (v := .int (S.1 20)) cl8 k2_95 (Nat.le_of_ble_eq_true rfl) rfl rfl dX2_choiceAbove_72 ?_
  refine rr_iadd dX2_choiceAbove_75 ?_
  refine rr_icmp_ge (tgt := 95) dX2_choiceAbove_76 (by decide) (fun _ => ?_) (fun _ => ?_)
  · refine rr_iconst (v := (-1)) dX2_choiceAbove_95 (by decide) ?_
    exact rr_iret dX2_choiceAbove_96 rfl rfl rfl rfl rfl
  · refine rr_aload_n dX2_choiceAbove_79 rfl 0 rfl ?_
    refine rr_iload_n dX2_choiceAbove_80 rfl 1 rfl ?_
    refine rr_vi (As := [.int a5]) (rest := []) (tX2_allows P S a5) v2_83 rfl rfl ⟨Nat.le_of_ble_eq_true rfl, Nat.le_of_ble_eq_true rfl⟩ rfl rfl (Nat.le_of_ble_eq_true rfl) rfl dX2_choiceAbove_81 (fun r6 => ?_)
    refine rr_if_eq (tgt := 89) dX2_choiceAbove_84 (by decide) (fun _ => ?_) (fun _ => ?_)
    · refine rr_iinc (lv' := [(2, .int (a5 + 1)), (0, .ref 10)]) dX2_choiceAbove_89 1 rfl (by decide) rfl ?_
      refine rr_goto (tgt := 65) dX2_choiceAbove_92 (by decide) ?_
      refine rr_sub [1, 0] rfl ?_
      exact hrec65 ((a5 + 1))
    · refine rr_iload_n dX2_choiceAbove_87 rfl 1 rfl ?_
      exact rr_iret dX2_choiceAbove_88 rfl rfl rfl rfl rfl
def JX2_choiceAbove_56 (P : rr_T) (S : rr_T) (x1 : Int32) (a3 : Unit) : Option Int32 :=
  rr_l ((jMax ((x1 + 1)) 10)) (fun v4 =>
  rr_loop FU (LX2_choiceAbove_65 P S) v4)
set_option maxRecDepth 20000 in
theorem tX2_choiceAbove_56 {l : Launch} {G : rr_G} (P : rr_T) (S : rr_T) (x1 : Int32) (a3 : Unit) : RR l G mX2_choiceAbove 2 43 fxA rvI (fun _ => xw P S) z0 z0 0 0 56 [(0, .ref 10), (1, .int x1)] [] (xw P S) (JX2_choiceAbove_56 P S x1 a3) := by
  unfold JX2_choiceAbove_56
  refine rr_iload_n dX2_choiceAbove_56 rfl 1 rfl ?_
  refine rr_iconst (v := 1) dX2_choiceAbove_57 (by decide) ?_
  refine rr_iadd dX2_choiceAbove_58 ?_
  refine rr_bipush (v := 10) dX2_choiceAbove_59 (by decide) ?_
  refine rr_mmax mk2_90 (Nat.le_of_ble_eq_true rfl) (Nat.le_of_ble_eq_true rfl) dX2_choiceAbove_61 ?_
  refine rr_letI (fun v4 => ?_)
  refine rr_istore_n (lv' := [(2, .int v4), (0, .ref 10), (1, .int x1)]) dX2_choiceAbove_64 rfl (by decide) rfl ?_
  refine rr_sub [1, 0] rfl ?_
  exact tX2_choiceAbove_65 P S FU v4
def LX2_choiceAbove_32 (P : rr_T) (S : rr_T) (x1 : Int32) (rec32 : Int32 → Option Int32) (a7 : Int32) : Option Int32 :=
  if (S.1 168) < a7 then
  JX2_choiceAbove_56 P S x1 ()
else
  (fX2_allows P S a7).bind (fun r8 =>
    if r8 = 0 then
    rec32 ((a7 + 1))
  else
    some a7)
set_option maxRecDepth 20000 in
theorem tX2_choiceAbove_32 {l : Launch} {G : rr_G} (P : rr_T) (S : rr_T) (x1 : Int32) : ∀ (n : Nat) (a : Int32), RR l G mX2_choiceAbove 2 43 fxA rvI (fun _ => xw P S) z0 z0 0 0 32 [(0, .ref 10), (1, .int x1), (2, .int a)] [] (xw P S) (rr_loop n (LX2_choiceAbove_32 P S x1) a) := by
  refine rr_lp (α := Int32) 32 (fun a => [(0, .ref 10), (1, .int x1), (2, .int a)]) (fun a => (xw P S)) (fun rec32 hrec32 a7 => ?_)
  show RR l G mX2_choiceAbove 2 43 fxA rvI (fun _ => xw P S) z0 z0 0 0 32 [(0, .ref 10), (1, .int x1), (2, .int a7)] [] (xw P S) (LX2_choiceAbove_32 P S x1 rec32 a7)
  unfold LX2_choiceAbove_32
  refine rr_iload_n dX2_choiceAbove_32 rfl 2 rfl ?_
  refine rr_aload_n dX2_choiceAbove_33 rfl 0 rfl ?_
  refine rr_get (v := .int (S.1 168)) cl2 k2_34 (Nat.le_of_ble_eq_true rfl) rfl rfl dX2_choiceAbove_34 ?_
  refine rr_icmp_gt (tgt := 56) dX2_choiceAbove_37 (by decide) (fun _ => ?_) (fun _ => ?_)
  · refine rr_sub [0, 1] rfl ?_
    exact tX2_choiceAbove_56 P S x1 ()
  · refine rr_aload_n dX2_choiceAbove_40 rfl 0 rfl ?_
    refine rr_iload_n dX2_choiceAbove_41 rfl 2 rfl ?_
    refine rr_vi (As := [.int a7]) (rest := []) (tX2_allows P S a7) v2_83 rfl rfl ⟨Nat.le_of_ble_eq_true rfl, Nat.le_of_ble_eq_true rfl⟩ rfl rfl (Nat.le_of_ble_eq_true rfl) rfl dX2_choiceAbove_42 (fun r8 => ?_)
    refine rr_if_eq (tgt := 50) dX2_choiceAbove_45 (by decide) (fun _ => ?_) (fun _ => ?_)
    · refine rr_iinc (lv' := [(2, .int (a7 + 1)), (0, .ref 10), (1, .int x1)]) dX2_choiceAbove_50 2 rfl (by decide) rfl ?_
      refine rr_goto (tgt := 32) dX2_choiceAbove_53 (by decide) ?_
      refine rr_sub [1, 2, 0] rfl ?_
      exact hrec32 ((a7 + 1))
    · refine rr_iload_n dX2_choiceAbove_48 rfl 2 rfl ?_
      exact rr_iret dX2_choiceAbove_49 rfl rfl rfl rfl rfl
def fX2_choiceAbove (P : rr_T) (S : rr_T) (x1 : Int32) : Option Int32 :=
  (fX8_isRefType ((S.1 170))).bind (fun r1 =>
  if r1 = 0 then
  (fX2_allows P S ((x1 + 1))).bind (fun r9 =>
    if r9 = 0 then
    some (-1)
  else
    some ((x1 + 1)))
else
  rr_l ((x1 + 1)) (fun v2 =>
    rr_loop FU (LX2_choiceAbove_32 P S x1) v2))
set_option maxRecDepth 20000 in
theorem tX2_choiceAbove {l : Launch} {G : rr_G} (P : rr_T) (S : rr_T) (x1 : Int32) : TT l G mX2_choiceAbove 2 43 fxA rvI (fun _ => xw P S) z0 z0 0 0 [.ref 10, .int x1] (xw P S) (fX2_choiceAbove P S x1) := by
  refine TT.by (by decide) (Nat.le_of_ble_eq_true rfl) (lv := [(0, .ref 10), (1, .int x1)]) rfl ?_
  show RR l G mX2_choiceAbove 2 43 fxA rvI (fun _ => xw P S) z0 z0 0 0 0 [(0, .ref 10), (1, .int x1)] [] (xw P S) (fX2_choiceAbove P S x1)
  unfold fX2_choiceAbove
  refine rr_aload_n dX2_choiceAbove_0 rfl 0 rfl ?_
  refine rr_get (v := .int (S.1 170)) cl2 k2_40 (Nat.le_of_ble_eq_true rfl) rfl rfl dX2_choiceAbove_1 ?_
  refine rr_si (As := [.int (S.1 170)]) (rest := []) (tX8_isRefType ((S.1 170)) (xw P S)) s2_87 rfl ⟨Nat.le_of_ble_eq_true rfl, Nat.le_of_ble_eq_true rfl⟩ rfl rfl (Nat.le_of_ble_eq_true rfl) rfl dX2_choiceAbove_4 (fun r1 => ?_)
  refine rr_if_ne (tgt := 28) dX2_choiceAbove_7 (by decide) (fun _ => ?_) (fun _ => ?_)
  · refine rr_iload_n dX2_choiceAbove_28 rfl 1 rfl ?_
    refine rr_iconst (v := 1) dX2_choiceAbove_29 (by decide) ?_
    refine rr_iadd dX2_choiceAbove_30 ?_
    refine rr_letI (fun v2 => ?_)
    refine rr_istore_n (lv' := [(2, .int v2), (0, .ref 10), (1, .int x1)]) dX2_choiceAbove_31 rfl (by decide) rfl ?_
    refine rr_sub [1, 2, 0] rfl ?_
    exact tX2_choiceAbove_32 P S x1 FU v2
  · refine rr_aload_n dX2_choiceAbove_10 rfl 0 rfl ?_
    refine rr_iload_n dX2_choiceAbove_11 rfl 1 rfl ?_
    refine rr_iconst (v := 1) dX2_choiceAbove_12 (by decide) ?_
    refine rr_iadd dX2_choiceAbove_13 ?_
    refine rr_vi (As := [.int (x1 + 1)]) (rest := []) (tX2_allows P S ((x1 + 1))) v2_83 rfl rfl ⟨Nat.le_of_ble_eq_true rfl, Nat.le_of_ble_eq_true rfl⟩ rfl rfl (Nat.le_of_ble_eq_true rfl) rfl dX2_choiceAbove_14 (fun r9 => ?_)
    refine rr_if_eq (tgt := 26) dX2_choiceAbove_17 (by decide) (fun _ => ?_) (fun _ => ?_)
    · refine rr_iconst (v := (-1)) dX2_choiceAbove_26 (by decide) ?_
      exact rr_iret dX2_choiceAbove_27 rfl rfl rfl rfl rfl
    · refine rr_iload_n dX2_choiceAbove_20 rfl 1 rfl ?_
      refine rr_iconst (v := 1) dX2_choiceAbove_21 (by decide) ?_
      refine rr_iadd dX2_choiceAbove_22 ?_
      refine rr_goto (tgt := 27) dX2_choiceAbove_23 (by decide) ?_
      exact rr_iret dX2_choiceAbove_27 rfl rfl rfl rfl rfl
