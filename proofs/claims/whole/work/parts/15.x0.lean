/-! ===== the class's methods: isKind, addKind, forget, forget, forgetRows, afterShape, kind, isUnder, isSuper, fieldsOf, addField, field, addInput, input, bound, typeOf, hasField, namesKnown, isRefType, isRef, isNumber, sortsFit, sizeFor, drop, about ===== -/
def fX8_isKind (P : rr_T) (S : rr_T) (x1 : Int32) : Option Int32 :=
  if x1 < 0 then
  some 0
else
  if (S.1 20) ≤ x1 then
    some 0
  else
    some 1
set_option maxRecDepth 20000 in
theorem tX8_isKind {l : Launch} {G : rr_G} (P : rr_T) (S : rr_T) (x1 : Int32) : TT l G mX8_isKind 0 0 fxA rvI (fun _ => xw P S) z0 z0 0 0 [.ref 1, .int x1] (xw P S) (fX8_isKind P S x1) := by
  refine TT.by (by decide) (Nat.le_of_ble_eq_true rfl) (lv := [(0, .ref 1), (1, .int x1)]) rfl ?_
  show RR l G mX8_isKind 0 0 fxA rvI (fun _ => xw P S) z0 z0 0 0 0 [(0, .ref 1), (1, .int x1)] [] (xw P S) (fX8_isKind P S x1)
  unfold fX8_isKind
  refine rr_iload_n dX8_isKind_0 rfl 1 rfl ?_
  refine rr_if_lt (tgt := 16) dX8_isKind_1 (by decide) (fun _ => ?_) (fun _ => ?_)
  · refine rr_iconst (v := 0) dX8_isKind_16 (by decide) ?_
    exact rr_zret dX8_isKind_17 rfl (by decide) rfl rfl rfl rfl
  · refine rr_iload_n dX8_isKind_4 rfl 1 rfl ?_
    refine rr_aload_n dX8_isKind_5 rfl 0 rfl ?_
    refine rr_get (v := .int (S.1 20)) cl8 k8_24 (Nat.le_of_ble_eq_true rfl) rfl rfl dX8_isKind_6 ?_
    refine rr_icmp_ge (tgt := 16) dX8_isKind_9 (by decide) (fun _ => ?_) (fun _ => ?_)
    · refine rr_iconst (v := 0) dX8_isKind_16 (by decide) ?_
      exact rr_zret dX8_isKind_17 rfl (by decide) rfl rfl rfl rfl
    · refine rr_iconst (v := 1) dX8_isKind_12 (by decide) ?_
      refine rr_goto (tgt := 17) dX8_isKind_13 (by decide) ?_
      exact rr_zret dX8_isKind_17 rfl (by decide) rfl rfl rfl rfl
def JX8_addKind_85 (v1 : Int32) (a5 : rr_T) : Option (Int32 × rr_T) :=
  rr_l (pI a5 20 (((a5.1 20) + 1))) (fun S6 =>
  some ((v1, S6)))
set_option maxRecDepth 20000 in
theorem tX8_addKind_85 {l : Launch} {G : rr_G} (v1 : Int32) (P : rr_T) (a5 : rr_T) : RR l G mX8_addKind 1 40 fxA rvIS (fun q => xw P q.2) z0 z0 0 0 85 [(0, .ref 1), (2, .int v1)] [] (xw P a5) (JX8_addKind_85 v1 a5) := by
  unfold JX8_addKind_85
  refine rr_aload_n dX8_addKind_85 rfl 0 rfl ?_
  refine rr_dup dX8_addKind_86 rfl ?_
  refine rr_get (v := .int (a5.1 20)) cl8 k8_24 (Nat.le_of_ble_eq_true rfl) rfl rfl dX8_addKind_87 ?_
  refine rr_iconst (v := 1) dX8_addKind_90 (by decide) ?_
  refine rr_iadd dX8_addKind_91 ?_
  refine rr_put cl8 k8_24 (Nat.le_of_ble_eq_true rfl) rfl rfl rfl rfl (Nat.le_of_ble_eq_true rfl) dX8_addKind_92 (xp1_4 P a5 (((a5.1 20) + 1))) ?_
  refine rr_letS (W := xw P) (fun S6 => ?_)
  refine rr_iload_n dX8_addKind_95 rfl 1 rfl ?_
  exact rr_iret dX8_addKind_96 rfl rfl rfl rfl rfl
def fX8_addKind (P : rr_T) (S : rr_T) (x1 : Int32) : Option (Int32 × rr_T) :=
  if (S.1 20) < 4 then
  rr_l ((S.1 20)) (fun v1 =>
    if inb v1 4 then
    rr_l (pA S 2 v1 ((1 <<< (v1 &&& 31)))) (fun S2 =>
      if inb v1 4 then
      rr_l (pA S2 3 v1 0) (fun S3 =>
        (fX8_isKind P S3 x1).bind (fun r4 =>
        if r4 = 0 then
        JX8_addKind_85 v1 S3
      else
        if inb v1 4 then
          if inb x1 4 then
            if inb v1 4 then
              rr_l (pA S3 2 v1 (((S3.2.1 2 v1.toNatClampNeg) ||| (S3.2.1 2 x1.toNatClampNeg)))) (fun S7 =>
                if inb x1 4 then
                if inb v1 4 then
                  rr_l (pA S7 3 v1 ((S7.2.1 3 x1.toNatClampNeg))) (fun S8 =>
                    if inb (x1 * 4) 17 ∧ inb (v1 * 4) 17 ∧ inb 4 17 ∧ (x1 * 4).toNatClampNeg + (4 : Int32).toNatClampNeg ≤ 16 ∧ (v1 * 4).toNatClampNeg + (4 : Int32).toNatClampNeg ≤ 16 then
                    rr_l (xC4 S8 ((x1 * 4)) ((v1 * 4)) 4) (fun S9 =>
                      JX8_addKind_85 v1 S9)
                  else none)
                else none
              else none)
            else none
          else none
        else none))
    else none)
  else none)
else
  some (((-104), S))
set_option maxRecDepth 20000 in
theorem tX8_addKind {l : Launch} {G : rr_G} (P : rr_T) (S : rr_T) (x1 : Int32) : TT l G mX8_addKind 1 40 fxA rvIS (fun q => xw P q.2) z0 z0 0 0 [.ref 1, .int x1] (xw P S) (fX8_addKind P S x1) := by
  refine TT.by (by decide) (Nat.le_of_ble_eq_true rfl) (lv := [(0, .ref 1), (1, .int x1)]) rfl ?_
  show RR l G mX8_addKind 1 40 fxA rvIS (fun q => xw P q.2) z0 z0 0 0 0 [(0, .ref 1), (1, .int x1)] [] (xw P S) (fX8_addKind P S x1)
  unfold fX8_addKind
  refine rr_aload_n dX8_addKind_0 rfl 0 rfl ?_
  refine rr_get (v := .int (S.1 20)) cl8 k8_24 (Nat.le_of_ble_eq_true rfl) rfl rfl dX8_addKind_1 ?_
  refine rr_iconst (v := 4) dX8_addKind_4 (by decide) ?_
  refine rr_icmp_lt (tgt := 11) dX8_addKind_5 (by decide) (fun _ => ?_) (fun _ => ?_)
  · refine rr_aload_n dX8_addKind_11 rfl 0 rfl ?_
    refine rr_get (v := .int (S.1 20)) cl8 k8_24 (Nat.le_of_ble_eq_true rfl) rfl rfl dX8_addKind_12 ?_
    refine rr_letI (fun v1 => ?_)
    refine rr_istore_n (lv' := [(2, .int v1), (0, .ref 1), (1, .int x1)]) dX8_addKind_15 rfl (by decide) rfl ?_
    refine rr_aload_n dX8_addKind_16 rfl 1 rfl ?_
    refine rr_get (v := .ref 2) cl8 k8_9 (Nat.le_of_ble_eq_true rfl) rfl rfl dX8_addKind_17 ?_
    refine rr_iload_n dX8_addKind_20 rfl 0 rfl ?_
    refine rr_iconst (v := 1) dX8_addKind_21 (by decide) ?_
    refine rr_iload_n dX8_addKind_22 rfl 0 rfl ?_
    refine rr_ishl dX8_addKind_23 ?_
    refine rr_if (fun z => ?_)
    refine rr_iast (len := 4) rfl (inb_in z) dX8_addKind_24 (xa2 P S v1 ((1 <<< (v1 &&& 31)))) ?_
    refine rr_letS (W := xw P) (fun S2 => ?_)
    refine rr_aload_n dX8_addKind_25 rfl 1 rfl ?_
    refine rr_get (v := .ref 3) cl8 k8_15 (Nat.le_of_ble_eq_true rfl) rfl rfl dX8_addKind_26 ?_
    refine rr_iload_n dX8_addKind_29 rfl 0 rfl ?_
    refine rr_iconst (v := 0) dX8_addKind_30 (by decide) ?_
    refine rr_if (fun z => ?_)
    refine rr_iast (len := 4) rfl (inb_in z) dX8_addKind_31 (xa3 P S2 v1 0) ?_
    refine rr_letS (W := xw P) (fun S3 => ?_)
    refine rr_aload_n dX8_addKind_32 rfl 1 rfl ?_
    refine rr_iload_n dX8_addKind_33 rfl 2 rfl ?_
    refine rr_vi (As := [.int x1]) (rest := []) (tX8_isKind P S3 x1) v8_46 rfl rfl ⟨Nat.le_of_ble_eq_true rfl, Nat.le_of_ble_eq_true rfl⟩ rfl rfl (Nat.le_of_ble_eq_true rfl) rfl dX8_addKind_34 (fun r4 => ?_)
    refine rr_if_eq (tgt := 85) dX8_addKind_37 (by decide) (fun _ => ?_) (fun _ => ?_)
    · refine rr_sub [1, 0] rfl ?_
      exact tX8_addKind_85 v1 P S3
    · refine rr_aload_n dX8_addKind_40 rfl 1 rfl ?_
      refine rr_get (v := .ref 2) cl8 k8_9 (Nat.le_of_ble_eq_true rfl) rfl rfl dX8_addKind_41 ?_
      refine rr_iload_n dX8_addKind_44 rfl 0 rfl ?_
      refine rr_dup2 dX8_addKind_45 rfl rfl ?_
      refine rr_if (fun z => ?_)
      refine rr_iald (len := 4) rfl (inb_in z) dX8_addKind_46 ?_
      refine rr_aload_n dX8_addKind_47 rfl 1 rfl ?_
      refine rr_get (v := .ref 2) cl8 k8_9 (Nat.le_of_ble_eq_true rfl) rfl rfl dX8_addKind_48 ?_
      refine rr_iload_n dX8_addKind_51 rfl 2 rfl ?_
      refine rr_if (fun z => ?_)
      refine rr_iald (len := 4) rfl (inb_in z) dX8_addKind_52 ?_
      refine rr_ior dX8_addKind_53 ?_
      refine rr_if (fun z => ?_)
      refine rr_iast (len := 4) rfl (inb_in z) dX8_addKind_54 (xa2 P S3 v1 (((S3.2.1 2 v1.toNatClampNeg) ||| (S3.2.1 2 x1.toNatClampNeg)))) ?_
      refine rr_letS (W := xw P) (fun S7 => ?_)
      refine rr_aload_n dX8_addKind_55 rfl 1 rfl ?_
      refine rr_get (v := .ref 3) cl8 k8_15 (Nat.le_of_ble_eq_true rfl) rfl rfl dX8_addKind_56 ?_
      refine rr_iload_n dX8_addKind_59 rfl 0 rfl ?_
      refine rr_aload_n dX8_addKind_60 rfl 1 rfl ?_
      refine rr_get (v := .ref 3) cl8 k8_15 (Nat.le_of_ble_eq_true rfl) rfl rfl dX8_addKind_61 ?_
      refine rr_iload_n dX8_addKind_64 rfl 2 rfl ?_
      refine rr_if (fun z => ?_)
      refine rr_iald (len := 4) rfl (inb_in z) dX8_addKind_65 ?_
      refine rr_if (fun z => ?_)
      refine rr_iast (len := 4) rfl (inb_in z) dX8_addKind_66 (xa3 P S7 v1 ((S7.2.1 3 x1.toNatClampNeg))) ?_
      refine rr_letS (W := xw P) (fun S8 => ?_)
      refine rr_aload_n dX8_addKind_67 rfl 1 rfl ?_
      refine rr_get (v := .ref 4) cl8 k8_18 (Nat.le_of_ble_eq_true rfl) rfl rfl dX8_addKind_68 ?_
      refine rr_iload_n dX8_addKind_71 rfl 2 rfl ?_
      refine rr_iconst (v := 4) dX8_addKind_72 (by decide) ?_
      refine rr_imul dX8_addKind_73 ?_
      refine rr_aload_n dX8_addKind_74 rfl 1 rfl ?_
      refine rr_get (v := .ref 4) cl8 k8_18 (Nat.le_of_ble_eq_true rfl) rfl rfl dX8_addKind_75 ?_
      refine rr_iload_n dX8_addKind_78 rfl 0 rfl ?_
      refine rr_iconst (v := 4) dX8_addKind_79 (by decide) ?_
      refine rr_imul dX8_addKind_80 ?_
      refine rr_iconst (v := 4) dX8_addKind_81 (by decide) ?_
      refine rr_if (fun z => ?_)
      refine rr_copy4 c8_49 (inb_in z.1) (inb_in z.2.1) (inb_in z.2.2.1) z.2.2.2.1 z.2.2.2.2 (Nat.le_of_ble_eq_true rfl) (Nat.le_of_ble_eq_true rfl) dX8_addKind_82 ?_
      refine rr_letS (W := xw P) (fun S9 => ?_)
      refine rr_sub [1, 0] rfl ?_
      exact tX8_addKind_85 v1 P S9
  · refine rr_bipush (v := (-104)) dX8_addKind_8 (by decide) ?_
    exact rr_iret dX8_addKind_10 rfl rfl rfl rfl rfl
def fX0_forget (P : rr_T) (S : rr_T) : Option rr_T :=
  rr_l (pI S 275 0) (fun S1 =>
  some S1)
set_option maxRecDepth 20000 in
theorem tX0_forget {l : Launch} {G : rr_G} (P : rr_T) (S : rr_T) : TT l G mX0_forget 0 0 fxA rvS (xw P) z0 z0 0 0 [.ref 17] (xw P S) (fX0_forget P S) := by
  refine TT.by (by decide) (Nat.le_of_ble_eq_true rfl) (lv := [(0, .ref 17)]) rfl ?_
  show RR l G mX0_forget 0 0 fxA rvS (xw P) z0 z0 0 0 0 [(0, .ref 17)] [] (xw P S) (fX0_forget P S)
  unfold fX0_forget
  refine rr_aload_n dX0_forget_0 rfl 0 rfl ?_
  refine rr_iconst (v := 0) dX0_forget_1 (by decide) ?_
  refine rr_put cl0 k0_18 (Nat.le_of_ble_eq_true rfl) rfl rfl (by decide) rfl (Nat.le_of_ble_eq_true rfl) dX0_forget_2 (xp17_3 P S 0) ?_
  refine rr_letS (W := xw P) (fun S1 => ?_)
  exact rr_vret dX0_forget_5 rfl rfl rfl rfl rfl
def fX1_forget (P : rr_T) (S : rr_T) : Option rr_T :=
  rr_l (pI S 408 0) (fun S1 =>
  some S1)
set_option maxRecDepth 20000 in
theorem tX1_forget {l : Launch} {G : rr_G} (P : rr_T) (S : rr_T) : TT l G mX1_forget 0 0 fxA rvS (xw P) z0 z0 0 0 [.ref 25] (xw P S) (fX1_forget P S) := by
  refine TT.by (by decide) (Nat.le_of_ble_eq_true rfl) (lv := [(0, .ref 25)]) rfl ?_
  show RR l G mX1_forget 0 0 fxA rvS (xw P) z0 z0 0 0 0 [(0, .ref 25)] [] (xw P S) (fX1_forget P S)
  unfold fX1_forget
  refine rr_aload_n dX1_forget_0 rfl 0 rfl ?_
  refine rr_iconst (v := 0) dX1_forget_1 (by decide) ?_
  refine rr_put cl1 k1_34 (Nat.le_of_ble_eq_true rfl) rfl rfl (by decide) rfl (Nat.le_of_ble_eq_true rfl) dX1_forget_2 (xp25_8 P S 0) ?_
  refine rr_letS (W := xw P) (fun S1 => ?_)
  exact rr_vret dX1_forget_5 rfl rfl rfl rfl rfl
def fX10_forgetRows (P : rr_T) (S : rr_T) : Option rr_T :=
  (fX0_forget P S).bind (fun S1 =>
  (fX1_forget P S1).bind (fun S2 =>
  some S2))
set_option maxRecDepth 20000 in
theorem tX10_forgetRows {l : Launch} {G : rr_G} (P : rr_T) (S : rr_T) : TT l G mX10_forgetRows 1 20 fxA rvS (xw P) z0 z0 0 0 [.ref 0] (xw P S) (fX10_forgetRows P S) := by
  refine TT.by (by decide) (Nat.le_of_ble_eq_true rfl) (lv := [(0, .ref 0)]) rfl ?_
  show RR l G mX10_forgetRows 1 20 fxA rvS (xw P) z0 z0 0 0 0 [(0, .ref 0)] [] (xw P S) (fX10_forgetRows P S)
  unfold fX10_forgetRows
  refine rr_aload_n dX10_forgetRows_0 rfl 0 rfl ?_
  refine rr_get (v := .ref 17) cl10 k10_44 (Nat.le_of_ble_eq_true rfl) rfl rfl dX10_forgetRows_1 ?_
  refine rr_vs (W := xw P) (As := []) (rest := []) (tX0_forget P S) v10_231 rfl rfl ⟨Nat.le_of_ble_eq_true rfl, Nat.le_of_ble_eq_true rfl⟩ (fun _ _ => rfl) rfl rfl (Nat.le_of_ble_eq_true rfl) rfl dX10_forgetRows_4 (fun S1 => ?_)
  refine rr_aload_n dX10_forgetRows_7 rfl 0 rfl ?_
  refine rr_get (v := .ref 25) cl10 k10_62 (Nat.le_of_ble_eq_true rfl) rfl rfl dX10_forgetRows_8 ?_
  refine rr_vs (W := xw P) (As := []) (rest := []) (tX1_forget P S1) v10_191 rfl rfl ⟨Nat.le_of_ble_eq_true rfl, Nat.le_of_ble_eq_true rfl⟩ (fun _ _ => rfl) rfl rfl (Nat.le_of_ble_eq_true rfl) rfl dX10_forgetRows_11 (fun S2 => ?_)
  exact rr_vret dX10_forgetRows_14 rfl rfl rfl rfl rfl
def fX10_afterShape (P : rr_T) (S : rr_T) (x1 : Int32) : Option (Int32 × rr_T) :=
  if x1 = (-104) then
  some ((x1, S))
else
  (fX10_forgetRows P S).bind (fun S1 =>
    some ((x1, S1)))
set_option maxRecDepth 20000 in
theorem tX10_afterShape {l : Launch} {G : rr_G} (P : rr_T) (S : rr_T) (x1 : Int32) : TT l G mX10_afterShape 2 40 fxA rvIS (fun q => xw P q.2) z0 z0 0 0 [.ref 0, .int x1] (xw P S) (fX10_afterShape P S x1) := by
  refine TT.by (by decide) (Nat.le_of_ble_eq_true rfl) (lv := [(0, .ref 0), (1, .int x1)]) rfl ?_
  show RR l G mX10_afterShape 2 40 fxA rvIS (fun q => xw P q.2) z0 z0 0 0 0 [(0, .ref 0), (1, .int x1)] [] (xw P S) (fX10_afterShape P S x1)
  unfold fX10_afterShape
  refine rr_iload_n dX10_afterShape_0 rfl 1 rfl ?_
  refine rr_bipush (v := (-104)) dX10_afterShape_1 (by decide) ?_
  refine rr_icmp_eq (tgt := 10) dX10_afterShape_3 (by decide) (fun _ => ?_) (fun _ => ?_)
  · refine rr_iload_n dX10_afterShape_10 rfl 1 rfl ?_
    exact rr_iret dX10_afterShape_11 rfl rfl rfl rfl rfl
  · refine rr_aload_n dX10_afterShape_6 rfl 0 rfl ?_
    refine rr_vs (W := xw P) (As := []) (rest := []) (tX10_forgetRows P S) v10_98 rfl rfl ⟨Nat.le_of_ble_eq_true rfl, Nat.le_of_ble_eq_true rfl⟩ (fun _ _ => rfl) rfl rfl (Nat.le_of_ble_eq_true rfl) rfl dX10_afterShape_7 (fun S1 => ?_)
    refine rr_iload_n dX10_afterShape_10 rfl 1 rfl ?_
    exact rr_iret dX10_afterShape_11 rfl rfl rfl rfl rfl
def JX10_kind_19 (P : rr_T) (S : rr_T) (x1 : Int32) (a1 : Unit) : Option (Int32 × rr_T) :=
  (fX8_addKind P S x1).bind (fun q2 =>
  (fX10_afterShape P q2.2 q2.1).bind (fun q3 =>
  some ((q3.1, q3.2))))
set_option maxRecDepth 20000 in
theorem tX10_kind_19 {l : Launch} {G : rr_G} (P : rr_T) (S : rr_T) (x1 : Int32) (a1 : Unit) : RR l G mX10_kind 3 62 fxA rvIS (fun q => xw P q.2) z0 z0 0 0 19 [(0, .ref 0), (1, .int x1)] [] (xw P S) (JX10_kind_19 P S x1 a1) := by
  unfold JX10_kind_19
  refine rr_aload_n dX10_kind_19 rfl 0 rfl ?_
  refine rr_aload_n dX10_kind_20 rfl 0 rfl ?_
  refine rr_get (v := .ref 1) cl10 k10_12 (Nat.le_of_ble_eq_true rfl) rfl rfl dX10_kind_21 ?_
  refine rr_iload_n dX10_kind_24 rfl 1 rfl ?_
  refine rr_vis (W := xw P) (As := [.int x1]) (rest := [.ref 0]) (tX8_addKind P S x1) v10_78 rfl rfl ⟨Nat.le_of_ble_eq_true rfl, Nat.le_of_ble_eq_true rfl⟩ (fun _ _ => rfl) rfl rfl (Nat.le_of_ble_eq_true rfl) rfl dX10_kind_25 (fun q2 => ?_)
  refine rr_vis (W := xw P) (As := [.int q2.1]) (rest := []) (tX10_afterShape P q2.2 q2.1) v10_82 rfl rfl ⟨Nat.le_of_ble_eq_true rfl, Nat.le_of_ble_eq_true rfl⟩ (fun _ _ => rfl) rfl rfl (Nat.le_of_ble_eq_true rfl) rfl dX10_kind_28 (fun q3 => ?_)
  exact rr_iret dX10_kind_31 rfl rfl rfl rfl rfl
def fX10_kind (P : rr_T) (S : rr_T) (x1 : Int32) : Option (Int32 × rr_T) :=
  if x1 = (-1) then
  JX10_kind_19 P S x1 ()
else
  (fX8_isKind P S x1).bind (fun r4 =>
    if r4 = 0 then
    some (((-101), S))
  else
    JX10_kind_19 P S x1 ())
set_option maxRecDepth 20000 in
theorem tX10_kind {l : Launch} {G : rr_G} (P : rr_T) (S : rr_T) (x1 : Int32) : TT l G mX10_kind 3 62 fxA rvIS (fun q => xw P q.2) z0 z0 0 0 [.ref 0, .int x1] (xw P S) (fX10_kind P S x1) := by
  refine TT.by (by decide) (Nat.le_of_ble_eq_true rfl) (lv := [(0, .ref 0), (1, .int x1)]) rfl ?_
  show RR l G mX10_kind 3 62 fxA rvIS (fun q => xw P q.2) z0 z0 0 0 0 [(0, .ref 0), (1, .int x1)] [] (xw P S) (fX10_kind P S x1)
  unfold fX10_kind
  refine rr_iload_n dX10_kind_0 rfl 1 rfl ?_
  refine rr_iconst (v := (-1)) dX10_kind_1 (by decide) ?_
  refine rr_icmp_eq (tgt := 19) dX10_kind_2 (by decide) (fun _ => ?_) (fun _ => ?_)
  · exact tX10_kind_19 P S x1 ()
  · refine rr_aload_n dX10_kind_5 rfl 0 rfl ?_
    refine rr_get (v := .ref 1) cl10 k10_12 (Nat.le_of_ble_eq_true rfl) rfl rfl dX10_kind_6 ?_
    refine rr_iload_n dX10_kind_9 rfl 1 rfl ?_
    refine rr_vi (As := [.int x1]) (rest := []) (tX8_isKind P S x1) v10_74 rfl rfl ⟨Nat.le_of_ble_eq_true rfl, Nat.le_of_ble_eq_true rfl⟩ rfl rfl (Nat.le_of_ble_eq_true rfl) rfl dX10_kind_10 (fun r4 => ?_)
    refine rr_if_ne (tgt := 19) dX10_kind_13 (by decide) (fun _ => ?_) (fun _ => ?_)
    · exact tX10_kind_19 P S x1 ()
    · refine rr_bipush (v := (-101)) dX10_kind_16 (by decide) ?_
      exact rr_iret dX10_kind_18 rfl rfl rfl rfl rfl
def fX8_isUnder (P : rr_T) (S : rr_T) (x1 : Int32) (x2 : Int32) : Option Int32 :=
  if x1 < 0 then
  some 0
else
  if (S.1 20) ≤ x1 then
    some 0
  else
    if x2 < 0 then
      some 0
    else
      if (S.1 20) ≤ x2 then
        some 0
      else
        if inb x1 4 then
          if (((S.2.1 2 x1.toNatClampNeg) >>> (x2 &&& 31)) &&& 1) = 1 then
            some 1
          else
            some 0
        else none
set_option maxRecDepth 20000 in
theorem tX8_isUnder {l : Launch} {G : rr_G} (P : rr_T) (S : rr_T) (x1 : Int32) (x2 : Int32) : TT l G mX8_isUnder 0 0 fxA rvI (fun _ => xw P S) z0 z0 0 0 [.ref 1, .int x1, .int x2] (xw P S) (fX8_isUnder P S x1 x2) := by
  refine TT.by (by decide) (Nat.le_of_ble_eq_true rfl) (lv := [(0, .ref 1), (1, .int x1), (2, .int x2)]) rfl ?_
  show RR l G mX8_isUnder 0 0 fxA rvI (fun _ => xw P S) z0 z0 0 0 0 [(0, .ref 1), (1, .int x1), (2, .int x2)] [] (xw P S) (fX8_isUnder P S x1 x2)
  unfold fX8_isUnder
  refine rr_iload_n dX8_isUnder_0 rfl 1 rfl ?_
  refine rr_if_lt (tgt := 42) dX8_isUnder_1 (by decide) (fun _ => ?_) (fun _ => ?_)
  · refine rr_iconst (v := 0) dX8_isUnder_42 (by decide) ?_
    exact rr_zret dX8_isUnder_43 rfl (by decide) rfl rfl rfl rfl
  · refine rr_iload_n dX8_isUnder_4 rfl 1 rfl ?_
    refine rr_aload_n dX8_isUnder_5 rfl 0 rfl ?_
    refine rr_get (v := .int (S.1 20)) cl8 k8_24 (Nat.le_of_ble_eq_true rfl) rfl rfl dX8_isUnder_6 ?_
    refine rr_icmp_ge (tgt := 42) dX8_isUnder_9 (by decide) (fun _ => ?_) (fun _ => ?_)
    · refine rr_iconst (v := 0) dX8_isUnder_42 (by decide) ?_
      exact rr_zret dX8_isUnder_43 rfl (by decide) rfl rfl rfl rfl
    · refine rr_iload_n dX8_isUnder_12 rfl 2 rfl ?_
      refine rr_if_lt (tgt := 42) dX8_isUnder_13 (by decide) (fun _ => ?_) (fun _ => ?_)
      · refine rr_iconst (v := 0) dX8_isUnder_42 (by decide) ?_
        exact rr_zret dX8_isUnder_43 rfl (by decide) rfl rfl rfl rfl
      · refine rr_iload_n dX8_isUnder_16 rfl 2 rfl ?_
        refine rr_aload_n dX8_isUnder_17 rfl 0 rfl ?_
        refine rr_get (v := .int (S.1 20)) cl8 k8_24 (Nat.le_of_ble_eq_true rfl) rfl rfl dX8_isUnder_18 ?_
        refine rr_icmp_ge (tgt := 42) dX8_isUnder_21 (by decide) (fun _ => ?_) (fun _ => ?_)
        · refine rr_iconst (v := 0) dX8_isUnder_42 (by decide) ?_
          exact rr_zret dX8_isUnder_43 rfl (by decide) rfl rfl rfl rfl
        · refine rr_aload_n dX8_isUnder_24 rfl 0 rfl ?_
          refine rr_get (v := .ref 2) cl8 k8_9 (Nat.le_of_ble_eq_true rfl) rfl rfl dX8_isUnder_25 ?_
          refine rr_iload_n dX8_isUnder_28 rfl 1 rfl ?_
          refine rr_if (fun z => ?_)
          refine rr_iald (len := 4) rfl (inb_in z) dX8_isUnder_29 ?_
          refine rr_iload_n dX8_isUnder_30 rfl 2 rfl ?_
          refine rr_ishr dX8_isUnder_31 ?_
          refine rr_iconst (v := 1) dX8_isUnder_32 (by decide) ?_
          refine rr_iand dX8_isUnder_33 ?_
          refine rr_iconst (v := 1) dX8_isUnder_34 (by decide) ?_
          refine rr_icmp_ne (tgt := 42) dX8_isUnder_35 (by decide) (fun _ => ?_) (fun _ => ?_)
          · refine rr_iconst (v := 0) dX8_isUnder_42 (by decide) ?_
            exact rr_zret dX8_isUnder_43 rfl (by decide) rfl rfl rfl rfl
          · refine rr_iconst (v := 1) dX8_isUnder_38 (by decide) ?_
            refine rr_goto (tgt := 43) dX8_isUnder_39 (by decide) ?_
            exact rr_zret dX8_isUnder_43 rfl (by decide) rfl rfl rfl rfl
def LX8_isSuper_4 (P : rr_T) (S : rr_T) (x1 : Int32) (rec4 : Int32 → Option Int32) (a2 : Int32) : Option Int32 :=
  if (S.1 20) ≤ a2 then
  some 0
else
  (fX8_isUnder P S a2 x1).bind (fun r3 =>
    if r3 = 0 then
    rec4 ((a2 + 1))
  else
    some 1)
set_option maxRecDepth 20000 in
theorem tX8_isSuper_4 {l : Launch} {G : rr_G} (P : rr_T) (S : rr_T) (x1 : Int32) : ∀ (n : Nat) (a : Int32), RR l G mX8_isSuper 1 22 fxA rvI (fun _ => xw P S) z0 z0 0 0 4 [(0, .ref 1), (1, .int x1), (2, .int a)] [] (xw P S) (rr_loop n (LX8_isSuper_4 P S x1) a) := by
  refine rr_lp (α := Int32) 4 (fun a => [(0, .ref 1), (1, .int x1), (2, .int a)]) (fun a => (xw P S)) (fun rec4 hrec4 a2 => ?_)
  show RR l G mX8_isSuper 1 22 fxA rvI (fun _ => xw P S) z0 z0 0 0 4 [(0, .ref 1), (1, .int x1), (2, .int a2)] [] (xw P S) (LX8_isSuper_4 P S x1 rec4 a2)
  unfold LX8_isSuper_4
  refine rr_iload_n dX8_isSuper_4 rfl 2 rfl ?_
  refine rr_aload_n dX8_isSuper_5 rfl 0 rfl ?_
  refine rr_get (v := .int (S.1 20)) cl8 k8_24 (Nat.le_of_ble_eq_true rfl) rfl rfl dX8_isSuper_6 ?_
  refine rr_icmp_ge (tgt := 29) dX8_isSuper_9 (by decide) (fun _ => ?_) (fun _ => ?_)
  · refine rr_iconst (v := 0) dX8_isSuper_29 (by decide) ?_
    exact rr_zret dX8_isSuper_30 rfl (by decide) rfl rfl rfl rfl
  · refine rr_aload_n dX8_isSuper_12 rfl 0 rfl ?_
    refine rr_iload_n dX8_isSuper_13 rfl 2 rfl ?_
    refine rr_iload_n dX8_isSuper_14 rfl 1 rfl ?_
    refine rr_vi (As := [.int a2, .int x1]) (rest := []) (tX8_isUnder P S a2 x1) v8_34 rfl rfl ⟨Nat.le_of_ble_eq_true rfl, Nat.le_of_ble_eq_true rfl⟩ rfl rfl (Nat.le_of_ble_eq_true rfl) rfl dX8_isSuper_15 (fun r3 => ?_)
    refine rr_if_eq (tgt := 23) dX8_isSuper_18 (by decide) (fun _ => ?_) (fun _ => ?_)
    · refine rr_iinc (lv' := [(2, .int (a2 + 1)), (0, .ref 1), (1, .int x1)]) dX8_isSuper_23 2 rfl (by decide) rfl ?_
      refine rr_goto (tgt := 4) dX8_isSuper_26 (by decide) ?_
      refine rr_sub [1, 2, 0] rfl ?_
      exact hrec4 ((a2 + 1))
    · refine rr_iconst (v := 1) dX8_isSuper_21 (by decide) ?_
      exact rr_zret dX8_isSuper_22 rfl (by decide) rfl rfl rfl rfl
def fX8_isSuper (P : rr_T) (S : rr_T) (x1 : Int32) : Option Int32 :=
  rr_l ((x1 + 1)) (fun v1 =>
  rr_loop FU (LX8_isSuper_4 P S x1) v1)
set_option maxRecDepth 20000 in
theorem tX8_isSuper {l : Launch} {G : rr_G} (P : rr_T) (S : rr_T) (x1 : Int32) : TT l G mX8_isSuper 1 22 fxA rvI (fun _ => xw P S) z0 z0 0 0 [.ref 1, .int x1] (xw P S) (fX8_isSuper P S x1) := by
  refine TT.by (by decide) (Nat.le_of_ble_eq_true rfl) (lv := [(0, .ref 1), (1, .int x1)]) rfl ?_
  show RR l G mX8_isSuper 1 22 fxA rvI (fun _ => xw P S) z0 z0 0 0 0 [(0, .ref 1), (1, .int x1)] [] (xw P S) (fX8_isSuper P S x1)
  unfold fX8_isSuper
  refine rr_iload_n dX8_isSuper_0 rfl 1 rfl ?_
  refine rr_iconst (v := 1) dX8_isSuper_1 (by decide) ?_
  refine rr_iadd dX8_isSuper_2 ?_
  refine rr_letI (fun v1 => ?_)
  refine rr_istore_n (lv' := [(2, .int v1), (0, .ref 1), (1, .int x1)]) dX8_isSuper_3 rfl (by decide) rfl ?_
  refine rr_sub [1, 2, 0] rfl ?_
  exact tX8_isSuper_4 P S x1 FU v1
def fX8_fieldsOf (P : rr_T) (S : rr_T) (x1 : Int32) : Option Int32 :=
  if x1 < 0 then
  some 0
else
  if (S.1 20) ≤ x1 then
    some 0
  else
    if inb x1 4 then
      some ((S.2.1 3 x1.toNatClampNeg))
    else none
set_option maxRecDepth 20000 in
theorem tX8_fieldsOf {l : Launch} {G : rr_G} (P : rr_T) (S : rr_T) (x1 : Int32) : TT l G mX8_fieldsOf 0 0 fxA rvI (fun _ => xw P S) z0 z0 0 0 [.ref 1, .int x1] (xw P S) (fX8_fieldsOf P S x1) := by
  refine TT.by (by decide) (Nat.le_of_ble_eq_true rfl) (lv := [(0, .ref 1), (1, .int x1)]) rfl ?_
  show RR l G mX8_fieldsOf 0 0 fxA rvI (fun _ => xw P S) z0 z0 0 0 0 [(0, .ref 1), (1, .int x1)] [] (xw P S) (fX8_fieldsOf P S x1)
  unfold fX8_fieldsOf
  refine rr_iload_n dX8_fieldsOf_0 rfl 1 rfl ?_
  refine rr_if_lt (tgt := 21) dX8_fieldsOf_1 (by decide) (fun _ => ?_) (fun _ => ?_)
  · refine rr_iconst (v := 0) dX8_fieldsOf_21 (by decide) ?_
    exact rr_iret dX8_fieldsOf_22 rfl rfl rfl rfl rfl
  · refine rr_iload_n dX8_fieldsOf_4 rfl 1 rfl ?_
    refine rr_aload_n dX8_fieldsOf_5 rfl 0 rfl ?_
    refine rr_get (v := .int (S.1 20)) cl8 k8_24 (Nat.le_of_ble_eq_true rfl) rfl rfl dX8_fieldsOf_6 ?_
    refine rr_icmp_ge (tgt := 21) dX8_fieldsOf_9 (by decide) (fun _ => ?_) (fun _ => ?_)
    · refine rr_iconst (v := 0) dX8_fieldsOf_21 (by decide) ?_
      exact rr_iret dX8_fieldsOf_22 rfl rfl rfl rfl rfl
    · refine rr_aload_n dX8_fieldsOf_12 rfl 0 rfl ?_
      refine rr_get (v := .ref 3) cl8 k8_15 (Nat.le_of_ble_eq_true rfl) rfl rfl dX8_fieldsOf_13 ?_
      refine rr_iload_n dX8_fieldsOf_16 rfl 1 rfl ?_
      refine rr_if (fun z => ?_)
      refine rr_iald (len := 4) rfl (inb_in z) dX8_fieldsOf_17 ?_
      refine rr_goto (tgt := 22) dX8_fieldsOf_18 (by decide) ?_
      exact rr_iret dX8_fieldsOf_22 rfl rfl rfl rfl rfl
def JX8_addField_45 (S : rr_T) (x1 : Int32) (r1 : Int32) (a3 : Int32) : Option (Int32 × rr_T) :=
  if inb ((x1 * 4) + r1) 16 then
  rr_l (pA S 4 (((x1 * 4) + r1)) a3) (fun S4 =>
    if inb x1 4 then
    rr_l (pA S4 3 x1 ((r1 + 1))) (fun S5 =>
      some ((r1, S5)))
  else none)
else none
set_option maxRecDepth 20000 in
theorem tX8_addField_45 {l : Launch} {G : rr_G} (S : rr_T) (x1 : Int32) (r1 : Int32) (P : rr_T) (a3 : Int32) : RR l G mX8_addField 1 21 fxA rvIS (fun q => xw P q.2) z0 z0 0 0 45 [(0, .ref 1), (1, .int x1), (4, .int r1)] [.int a3, .int ((x1 * 4) + r1), .ref 4] (xw P S) (JX8_addField_45 S x1 r1 a3) := by
  unfold JX8_addField_45
  refine rr_if (fun z => ?_)
  refine rr_iast (len := 16) rfl (inb_in z) dX8_addField_45 (xa4 P S (((x1 * 4) + r1)) a3) ?_
  refine rr_letS (W := xw P) (fun S4 => ?_)
  refine rr_aload_n dX8_addField_46 rfl 0 rfl ?_
  refine rr_get (v := .ref 3) cl8 k8_15 (Nat.le_of_ble_eq_true rfl) rfl rfl dX8_addField_47 ?_
  refine rr_iload_n dX8_addField_50 rfl 1 rfl ?_
  refine rr_iload dX8_addField_51 2 rfl ?_
  refine rr_iconst (v := 1) dX8_addField_53 (by decide) ?_
  refine rr_iadd dX8_addField_54 ?_
  refine rr_if (fun z => ?_)
  refine rr_iast (len := 4) rfl (inb_in z) dX8_addField_55 (xa3 P S4 x1 ((r1 + 1))) ?_
  refine rr_letS (W := xw P) (fun S5 => ?_)
  refine rr_iload dX8_addField_56 2 rfl ?_
  exact rr_iret dX8_addField_58 rfl rfl rfl rfl rfl
def fX8_addField (P : rr_T) (S : rr_T) (x1 : Int32) (x2 : Int32) (x3 : Int32) : Option (Int32 × rr_T) :=
  (fX8_fieldsOf P S x1).bind (fun r1 =>
  (fX8_isKind P S x1).bind (fun r2 =>
  if r2 = 0 then
  some (((-104), S))
else
  if r1 < 4 then
    if x2 = 0 then
      JX8_addField_45 S x1 r1 x3
    else
      JX8_addField_45 S x1 r1 ((4 + x3))
  else
    some (((-104), S))))
set_option maxRecDepth 20000 in
theorem tX8_addField {l : Launch} {G : rr_G} (P : rr_T) (S : rr_T) (x1 : Int32) (x2 : Int32) (x3 : Int32) : TT l G mX8_addField 1 21 fxA rvIS (fun q => xw P q.2) z0 z0 0 0 [.ref 1, .int x1, .int x2, .int x3] (xw P S) (fX8_addField P S x1 x2 x3) := by
  refine TT.by (by decide) (Nat.le_of_ble_eq_true rfl) (lv := [(0, .ref 1), (1, .int x1), (2, .int x2), (3, .int x3)]) rfl ?_
  show RR l G mX8_addField 1 21 fxA rvIS (fun q => xw P q.2) z0 z0 0 0 0 [(0, .ref 1), (1, .int x1), (2, .int x2), (3, .int x3)] [] (xw P S) (fX8_addField P S x1 x2 x3)
  unfold fX8_addField
  refine rr_aload_n dX8_addField_0 rfl 0 rfl ?_
  refine rr_iload_n dX8_addField_1 rfl 1 rfl ?_
  refine rr_vi (As := [.int x1]) (rest := []) (tX8_fieldsOf P S x1) v8_55 rfl rfl ⟨Nat.le_of_ble_eq_true rfl, Nat.le_of_ble_eq_true rfl⟩ rfl rfl (Nat.le_of_ble_eq_true rfl) rfl dX8_addField_2 (fun r1 => ?_)
  refine rr_istore (lv' := [(4, .int r1), (0, .ref 1), (1, .int x1), (2, .int x2), (3, .int x3)]) dX8_addField_5 (by decide) rfl ?_
  refine rr_aload_n dX8_addField_7 rfl 1 rfl ?_
  refine rr_iload_n dX8_addField_8 rfl 2 rfl ?_
  refine rr_vi (As := [.int x1]) (rest := []) (tX8_isKind P S x1) v8_46 rfl rfl ⟨Nat.le_of_ble_eq_true rfl, Nat.le_of_ble_eq_true rfl⟩ rfl rfl (Nat.le_of_ble_eq_true rfl) rfl dX8_addField_9 (fun r2 => ?_)
  refine rr_if_eq (tgt := 21) dX8_addField_12 (by decide) (fun _ => ?_) (fun _ => ?_)
  · refine rr_bipush (v := (-104)) dX8_addField_21 (by decide) ?_
    exact rr_iret dX8_addField_23 rfl rfl rfl rfl rfl
  · refine rr_iload dX8_addField_15 0 rfl ?_
    refine rr_iconst (v := 4) dX8_addField_17 (by decide) ?_
    refine rr_icmp_lt (tgt := 24) dX8_addField_18 (by decide) (fun _ => ?_) (fun _ => ?_)
    · refine rr_aload_n dX8_addField_24 rfl 1 rfl ?_
      refine rr_get (v := .ref 4) cl8 k8_18 (Nat.le_of_ble_eq_true rfl) rfl rfl dX8_addField_25 ?_
      refine rr_iload_n dX8_addField_28 rfl 2 rfl ?_
      refine rr_iconst (v := 4) dX8_addField_29 (by decide) ?_
      refine rr_imul dX8_addField_30 ?_
      refine rr_iload dX8_addField_31 0 rfl ?_
      refine rr_iadd dX8_addField_33 ?_
      refine rr_iload_n dX8_addField_34 rfl 3 rfl ?_
      refine rr_if_ne (tgt := 42) dX8_addField_35 (by decide) (fun _ => ?_) (fun _ => ?_)
      · refine rr_iconst (v := 4) dX8_addField_42 (by decide) ?_
        refine rr_iload_n dX8_addField_43 rfl 4 rfl ?_
        refine rr_iadd dX8_addField_44 ?_
        refine rr_sub [1, 2, 0] rfl ?_
        exact tX8_addField_45 S x1 r1 P ((4 + x3))
      · refine rr_iload_n dX8_addField_38 rfl 4 rfl ?_
        refine rr_goto (tgt := 45) dX8_addField_39 (by decide) ?_
        refine rr_sub [1, 2, 0] rfl ?_
        exact tX8_addField_45 S x1 r1 P x3
    · refine rr_bipush (v := (-104)) dX8_addField_21 (by decide) ?_
      exact rr_iret dX8_addField_23 rfl rfl rfl rfl rfl
def JX10_field_51 (P : rr_T) (S : rr_T) (x1 : Int32) (x2 : Int32) (x3 : Int32) (a3 : Unit) : Option (Int32 × rr_T) :=
  (fX8_isSuper P S x1).bind (fun r4 =>
  if r4 = 0 then
  (fX8_addField P S x1 x2 x3).bind (fun q5 =>
    (fX10_afterShape P q5.2 q5.1).bind (fun q6 =>
    some ((q6.1, q6.2))))
else
  some (((-103), S)))
set_option maxRecDepth 20000 in
theorem tX10_field_51 {l : Launch} {G : rr_G} (P : rr_T) (S : rr_T) (x1 : Int32) (x2 : Int32) (x3 : Int32) (a3 : Unit) : RR l G mX10_field 3 61 fxA rvIS (fun q => xw P q.2) z0 z0 0 0 51 [(0, .ref 0), (1, .int x1), (2, .int x2), (3, .int x3)] [] (xw P S) (JX10_field_51 P S x1 x2 x3 a3) := by
  unfold JX10_field_51
  refine rr_aload_n dX10_field_51 rfl 0 rfl ?_
  refine rr_get (v := .ref 1) cl10 k10_12 (Nat.le_of_ble_eq_true rfl) rfl rfl dX10_field_52 ?_
  refine rr_iload_n dX10_field_55 rfl 1 rfl ?_
  refine rr_vi (As := [.int x1]) (rest := []) (tX8_isSuper P S x1) v10_85 rfl rfl ⟨Nat.le_of_ble_eq_true rfl, Nat.le_of_ble_eq_true rfl⟩ rfl rfl (Nat.le_of_ble_eq_true rfl) rfl dX10_field_56 (fun r4 => ?_)
  refine rr_if_eq (tgt := 65) dX10_field_59 (by decide) (fun _ => ?_) (fun _ => ?_)
  · refine rr_aload_n dX10_field_65 rfl 0 rfl ?_
    refine rr_aload_n dX10_field_66 rfl 0 rfl ?_
    refine rr_get (v := .ref 1) cl10 k10_12 (Nat.le_of_ble_eq_true rfl) rfl rfl dX10_field_67 ?_
    refine rr_iload_n dX10_field_70 rfl 1 rfl ?_
    refine rr_iload_n dX10_field_71 rfl 2 rfl ?_
    refine rr_iload_n dX10_field_72 rfl 3 rfl ?_
    refine rr_vis (W := xw P) (As := [.int x1, .int x2, .int x3]) (rest := [.ref 0]) (tX8_addField P S x1 x2 x3) v10_88 rfl rfl ⟨Nat.le_of_ble_eq_true rfl, Nat.le_of_ble_eq_true rfl⟩ (fun _ _ => rfl) rfl rfl (Nat.le_of_ble_eq_true rfl) rfl dX10_field_73 (fun q5 => ?_)
    refine rr_vis (W := xw P) (As := [.int q5.1]) (rest := []) (tX10_afterShape P q5.2 q5.1) v10_82 rfl rfl ⟨Nat.le_of_ble_eq_true rfl, Nat.le_of_ble_eq_true rfl⟩ (fun _ _ => rfl) rfl rfl (Nat.le_of_ble_eq_true rfl) rfl dX10_field_76 (fun q6 => ?_)
    exact rr_iret dX10_field_79 rfl rfl rfl rfl rfl
  · refine rr_bipush (v := (-103)) dX10_field_62 (by decide) ?_
    exact rr_iret dX10_field_64 rfl rfl rfl rfl rfl
def JX10_field_29 (P : rr_T) (S : rr_T) (x1 : Int32) (x2 : Int32) (x3 : Int32) (a2 : Unit) : Option (Int32 × rr_T) :=
  if x2 = 0 then
  JX10_field_51 P S x1 x2 x3 ()
else
  if x2 = 1 then
    if x3 < 1 then
      some (((-102), S))
    else
      if x3 ≤ 3 then
        JX10_field_51 P S x1 x2 x3 ()
      else
        some (((-102), S))
  else
    some (((-102), S))
set_option maxRecDepth 20000 in
theorem tX10_field_29 {l : Launch} {G : rr_G} (P : rr_T) (S : rr_T) (x1 : Int32) (x2 : Int32) (x3 : Int32) (a2 : Unit) : RR l G mX10_field 3 61 fxA rvIS (fun q => xw P q.2) z0 z0 0 0 29 [(0, .ref 0), (1, .int x1), (2, .int x2), (3, .int x3)] [] (xw P S) (JX10_field_29 P S x1 x2 x3 a2) := by
  unfold JX10_field_29
  refine rr_iload_n dX10_field_29 rfl 2 rfl ?_
  refine rr_if_eq (tgt := 51) dX10_field_30 (by decide) (fun _ => ?_) (fun _ => ?_)
  · exact tX10_field_51 P S x1 x2 x3 ()
  · refine rr_iload_n dX10_field_33 rfl 2 rfl ?_
    refine rr_iconst (v := 1) dX10_field_34 (by decide) ?_
    refine rr_icmp_ne (tgt := 48) dX10_field_35 (by decide) (fun _ => ?_) (fun _ => ?_)
    · refine rr_bipush (v := (-102)) dX10_field_48 (by decide) ?_
      exact rr_iret dX10_field_50 rfl rfl rfl rfl rfl
    · refine rr_iload_n dX10_field_38 rfl 3 rfl ?_
      refine rr_iconst (v := 1) dX10_field_39 (by decide) ?_
      refine rr_icmp_lt (tgt := 48) dX10_field_40 (by decide) (fun _ => ?_) (fun _ => ?_)
      · refine rr_bipush (v := (-102)) dX10_field_48 (by decide) ?_
        exact rr_iret dX10_field_50 rfl rfl rfl rfl rfl
      · refine rr_iload_n dX10_field_43 rfl 3 rfl ?_
        refine rr_iconst (v := 3) dX10_field_44 (by decide) ?_
        refine rr_icmp_le (tgt := 51) dX10_field_45 (by decide) (fun _ => ?_) (fun _ => ?_)
        · exact tX10_field_51 P S x1 x2 x3 ()
        · refine rr_bipush (v := (-102)) dX10_field_48 (by decide) ?_
          exact rr_iret dX10_field_50 rfl rfl rfl rfl rfl
def fX10_field (P : rr_T) (S : rr_T) (x1 : Int32) (x2 : Int32) (x3 : Int32) : Option (Int32 × rr_T) :=
  (fX8_isKind P S x1).bind (fun r1 =>
  if r1 = 0 then
  some (((-101), S))
else
  if x2 = 0 then
    (fX8_isKind P S x3).bind (fun r7 =>
      if r7 = 0 then
      some (((-101), S))
    else
      JX10_field_29 P S x1 x2 x3 ())
  else
    JX10_field_29 P S x1 x2 x3 ())
set_option maxRecDepth 20000 in
theorem tX10_field {l : Launch} {G : rr_G} (P : rr_T) (S : rr_T) (x1 : Int32) (x2 : Int32) (x3 : Int32) : TT l G mX10_field 3 61 fxA rvIS (fun q => xw P q.2) z0 z0 0 0 [.ref 0, .int x1, .int x2, .int x3] (xw P S) (fX10_field P S x1 x2 x3) := by
  refine TT.by (by decide) (Nat.le_of_ble_eq_true rfl) (lv := [(0, .ref 0), (1, .int x1), (2, .int x2), (3, .int x3)]) rfl ?_
  show RR l G mX10_field 3 61 fxA rvIS (fun q => xw P q.2) z0 z0 0 0 0 [(0, .ref 0), (1, .int x1), (2, .int x2), (3, .int x3)] [] (xw P S) (fX10_field P S x1 x2 x3)
  unfold fX10_field
  refine rr_aload_n dX10_field_0 rfl 0 rfl ?_
  refine rr_get (v := .ref 1) cl10 k10_12 (Nat.le_of_ble_eq_true rfl) rfl rfl dX10_field_1 ?_
  refine rr_iload_n dX10_field_4 rfl 1 rfl ?_
  refine rr_vi (As := [.int x1]) (rest := []) (tX8_isKind P S x1) v10_74 rfl rfl ⟨Nat.le_of_ble_eq_true rfl, Nat.le_of_ble_eq_true rfl⟩ rfl rfl (Nat.le_of_ble_eq_true rfl) rfl dX10_field_5 (fun r1 => ?_)
  refine rr_if_eq (tgt := 26) dX10_field_8 (by decide) (fun _ => ?_) (fun _ => ?_)
  · refine rr_bipush (v := (-101)) dX10_field_26 (by decide) ?_
    exact rr_iret dX10_field_28 rfl rfl rfl rfl rfl
  · refine rr_iload_n dX10_field_11 rfl 2 rfl ?_
    refine rr_if_ne (tgt := 29) dX10_field_12 (by decide) (fun _ => ?_) (fun _ => ?_)
    · exact tX10_field_29 P S x1 x2 x3 ()
    · refine rr_aload_n dX10_field_15 rfl 0 rfl ?_
      refine rr_get (v := .ref 1) cl10 k10_12 (Nat.le_of_ble_eq_true rfl) rfl rfl dX10_field_16 ?_
      refine rr_iload_n dX10_field_19 rfl 3 rfl ?_
      refine rr_vi (As := [.int x3]) (rest := []) (tX8_isKind P S x3) v10_74 rfl rfl ⟨Nat.le_of_ble_eq_true rfl, Nat.le_of_ble_eq_true rfl⟩ rfl rfl (Nat.le_of_ble_eq_true rfl) rfl dX10_field_20 (fun r7 => ?_)
      refine rr_if_ne (tgt := 29) dX10_field_23 (by decide) (fun _ => ?_) (fun _ => ?_)
      · exact tX10_field_29 P S x1 x2 x3 ()
      · refine rr_bipush (v := (-101)) dX10_field_26 (by decide) ?_
        exact rr_iret dX10_field_28 rfl rfl rfl rfl rfl
def fX8_addInput (P : rr_T) (S : rr_T) (x1 : Int32) : Option (Int32 × rr_T) :=
  if (S.1 21) < 2 then
  if inb (S.1 21) 2 then
    rr_l (pA S 5 ((S.1 21)) x1) (fun S1 =>
      rr_l (pI S1 21 (((S1.1 21) + 1))) (fun S2 =>
      some ((((S2.1 21) - 1), S2))))
  else none
else
  some (((-104), S))
set_option maxRecDepth 20000 in
theorem tX8_addInput {l : Launch} {G : rr_G} (P : rr_T) (S : rr_T) (x1 : Int32) : TT l G mX8_addInput 0 0 fxA rvIS (fun q => xw P q.2) z0 z0 0 0 [.ref 1, .int x1] (xw P S) (fX8_addInput P S x1) := by
  refine TT.by (by decide) (Nat.le_of_ble_eq_true rfl) (lv := [(0, .ref 1), (1, .int x1)]) rfl ?_
  show RR l G mX8_addInput 0 0 fxA rvIS (fun q => xw P q.2) z0 z0 0 0 0 [(0, .ref 1), (1, .int x1)] [] (xw P S) (fX8_addInput P S x1)
  unfold fX8_addInput
  refine rr_aload_n dX8_addInput_0 rfl 0 rfl ?_
  refine rr_get (v := .int (S.1 21)) cl8 k8_28 (Nat.le_of_ble_eq_true rfl) rfl rfl dX8_addInput_1 ?_
  refine rr_iconst (v := 2) dX8_addInput_4 (by decide) ?_
  refine rr_icmp_lt (tgt := 11) dX8_addInput_5 (by decide) (fun _ => ?_) (fun _ => ?_)
  · refine rr_aload_n dX8_addInput_11 rfl 0 rfl ?_
    refine rr_get (v := .ref 5) cl8 k8_21 (Nat.le_of_ble_eq_true rfl) rfl rfl dX8_addInput_12 ?_
    refine rr_aload_n dX8_addInput_15 rfl 0 rfl ?_
    refine rr_get (v := .int (S.1 21)) cl8 k8_28 (Nat.le_of_ble_eq_true rfl) rfl rfl dX8_addInput_16 ?_
    refine rr_iload_n dX8_addInput_19 rfl 1 rfl ?_
    refine rr_if (fun z => ?_)
    refine rr_iast (len := 2) rfl (inb_in z) dX8_addInput_20 (xa5 P S ((S.1 21)) x1) ?_
    refine rr_letS (W := xw P) (fun S1 => ?_)
    refine rr_aload_n dX8_addInput_21 rfl 0 rfl ?_
    refine rr_dup dX8_addInput_22 rfl ?_
    refine rr_get (v := .int (S1.1 21)) cl8 k8_28 (Nat.le_of_ble_eq_true rfl) rfl rfl dX8_addInput_23 ?_
    refine rr_iconst (v := 1) dX8_addInput_26 (by decide) ?_
    refine rr_iadd dX8_addInput_27 ?_
    refine rr_put cl8 k8_28 (Nat.le_of_ble_eq_true rfl) rfl rfl rfl rfl (Nat.le_of_ble_eq_true rfl) dX8_addInput_28 (xp1_5 P S1 (((S1.1 21) + 1))) ?_
    refine rr_letS (W := xw P) (fun S2 => ?_)
    refine rr_aload_n dX8_addInput_31 rfl 0 rfl ?_
    refine rr_get (v := .int (S2.1 21)) cl8 k8_28 (Nat.le_of_ble_eq_true rfl) rfl rfl dX8_addInput_32 ?_
    refine rr_iconst (v := 1) dX8_addInput_35 (by decide) ?_
    refine rr_isub dX8_addInput_36 ?_
    exact rr_iret dX8_addInput_37 rfl rfl rfl rfl rfl
  · refine rr_bipush (v := (-104)) dX8_addInput_8 (by decide) ?_
    exact rr_iret dX8_addInput_10 rfl rfl rfl rfl rfl
def fX10_input (P : rr_T) (S : rr_T) (x1 : Int32) : Option (Int32 × rr_T) :=
  (fX8_isKind P S x1).bind (fun r1 =>
  if r1 = 0 then
  some (((-101), S))
else
  (fX8_addInput P S x1).bind (fun q2 =>
    (fX10_afterShape P q2.2 q2.1).bind (fun q3 =>
    some ((q3.1, q3.2)))))
set_option maxRecDepth 20000 in
theorem tX10_input {l : Launch} {G : rr_G} (P : rr_T) (S : rr_T) (x1 : Int32) : TT l G mX10_input 3 61 fxA rvIS (fun q => xw P q.2) z0 z0 0 0 [.ref 0, .int x1] (xw P S) (fX10_input P S x1) := by
  refine TT.by (by decide) (Nat.le_of_ble_eq_true rfl) (lv := [(0, .ref 0), (1, .int x1)]) rfl ?_
  show RR l G mX10_input 3 61 fxA rvIS (fun q => xw P q.2) z0 z0 0 0 0 [(0, .ref 0), (1, .int x1)] [] (xw P S) (fX10_input P S x1)
  unfold fX10_input
  refine rr_aload_n dX10_input_0 rfl 0 rfl ?_
  refine rr_get (v := .ref 1) cl10 k10_12 (Nat.le_of_ble_eq_true rfl) rfl rfl dX10_input_1 ?_
  refine rr_iload_n dX10_input_4 rfl 1 rfl ?_
  refine rr_vi (As := [.int x1]) (rest := []) (tX8_isKind P S x1) v10_74 rfl rfl ⟨Nat.le_of_ble_eq_true rfl, Nat.le_of_ble_eq_true rfl⟩ rfl rfl (Nat.le_of_ble_eq_true rfl) rfl dX10_input_5 (fun r1 => ?_)
  refine rr_if_ne (tgt := 14) dX10_input_8 (by decide) (fun _ => ?_) (fun _ => ?_)
  · refine rr_aload_n dX10_input_14 rfl 0 rfl ?_
    refine rr_aload_n dX10_input_15 rfl 0 rfl ?_
    refine rr_get (v := .ref 1) cl10 k10_12 (Nat.le_of_ble_eq_true rfl) rfl rfl dX10_input_16 ?_
    refine rr_iload_n dX10_input_19 rfl 1 rfl ?_
    refine rr_vis (W := xw P) (As := [.int x1]) (rest := [.ref 0]) (tX8_addInput P S x1) v10_92 rfl rfl ⟨Nat.le_of_ble_eq_true rfl, Nat.le_of_ble_eq_true rfl⟩ (fun _ _ => rfl) rfl rfl (Nat.le_of_ble_eq_true rfl) rfl dX10_input_20 (fun q2 => ?_)
    refine rr_vis (W := xw P) (As := [.int q2.1]) (rest := []) (tX10_afterShape P q2.2 q2.1) v10_82 rfl rfl ⟨Nat.le_of_ble_eq_true rfl, Nat.le_of_ble_eq_true rfl⟩ (fun _ _ => rfl) rfl rfl (Nat.le_of_ble_eq_true rfl) rfl dX10_input_23 (fun q3 => ?_)
    exact rr_iret dX10_input_26 rfl rfl rfl rfl rfl
  · refine rr_bipush (v := (-101)) dX10_input_11 (by decide) ?_
    exact rr_iret dX10_input_13 rfl rfl rfl rfl rfl
def fX10_bound (P : rr_T) (S : rr_T) (x1 : Int32) : Option (Int32 × rr_T) :=
  if x1 < 1 then
  some (((-102), S))
else
  if x1 ≤ 5 then
    rr_l ((S.1 22)) (fun v1 =>
      if x1 = v1 then
      some ((v1, S))
    else
      (fX10_forgetRows P S).bind (fun S2 =>
        rr_l (pI S2 22 x1) (fun S3 =>
        some ((v1, S3)))))
  else
    some (((-102), S))
set_option maxRecDepth 20000 in
theorem tX10_bound {l : Launch} {G : rr_G} (P : rr_T) (S : rr_T) (x1 : Int32) : TT l G mX10_bound 2 40 fxA rvIS (fun q => xw P q.2) z0 z0 0 0 [.ref 0, .int x1] (xw P S) (fX10_bound P S x1) := by
  refine TT.by (by decide) (Nat.le_of_ble_eq_true rfl) (lv := [(0, .ref 0), (1, .int x1)]) rfl ?_
  show RR l G mX10_bound 2 40 fxA rvIS (fun q => xw P q.2) z0 z0 0 0 0 [(0, .ref 0), (1, .int x1)] [] (xw P S) (fX10_bound P S x1)
  unfold fX10_bound
  refine rr_iload_n dX10_bound_0 rfl 1 rfl ?_
  refine rr_iconst (v := 1) dX10_bound_1 (by decide) ?_
  refine rr_icmp_lt (tgt := 10) dX10_bound_2 (by decide) (fun _ => ?_) (fun _ => ?_)
  · refine rr_bipush (v := (-102)) dX10_bound_10 (by decide) ?_
    exact rr_iret dX10_bound_12 rfl rfl rfl rfl rfl
  · refine rr_iload_n dX10_bound_5 rfl 1 rfl ?_
    refine rr_iconst (v := 5) dX10_bound_6 (by decide) ?_
    refine rr_icmp_le (tgt := 13) dX10_bound_7 (by decide) (fun _ => ?_) (fun _ => ?_)
    · refine rr_aload_n dX10_bound_13 rfl 0 rfl ?_
      refine rr_get (v := .ref 1) cl10 k10_12 (Nat.le_of_ble_eq_true rfl) rfl rfl dX10_bound_14 ?_
      refine rr_get (v := .int (S.1 22)) cl8 k10_95 (Nat.le_of_ble_eq_true rfl) rfl rfl dX10_bound_17 ?_
      refine rr_letI (fun v1 => ?_)
      refine rr_istore_n (lv' := [(2, .int v1), (0, .ref 0), (1, .int x1)]) dX10_bound_20 rfl (by decide) rfl ?_
      refine rr_iload_n dX10_bound_21 rfl 2 rfl ?_
      refine rr_iload_n dX10_bound_22 rfl 0 rfl ?_
      refine rr_icmp_eq (tgt := 38) dX10_bound_23 (by decide) (fun _ => ?_) (fun _ => ?_)
      · refine rr_iload_n dX10_bound_38 rfl 0 rfl ?_
        exact rr_iret dX10_bound_39 rfl rfl rfl rfl rfl
      · refine rr_aload_n dX10_bound_26 rfl 1 rfl ?_
        refine rr_vs (W := xw P) (As := []) (rest := []) (tX10_forgetRows P S) v10_98 rfl rfl ⟨Nat.le_of_ble_eq_true rfl, Nat.le_of_ble_eq_true rfl⟩ (fun _ _ => rfl) rfl rfl (Nat.le_of_ble_eq_true rfl) rfl dX10_bound_27 (fun S2 => ?_)
        refine rr_aload_n dX10_bound_30 rfl 1 rfl ?_
        refine rr_get (v := .ref 1) cl10 k10_12 (Nat.le_of_ble_eq_true rfl) rfl rfl dX10_bound_31 ?_
        refine rr_iload_n dX10_bound_34 rfl 2 rfl ?_
        refine rr_put cl8 k10_95 (Nat.le_of_ble_eq_true rfl) rfl rfl rfl rfl (Nat.le_of_ble_eq_true rfl) dX10_bound_35 (xp1_6 P S2 x1) ?_
        refine rr_letS (W := xw P) (fun S3 => ?_)
        refine rr_iload_n dX10_bound_38 rfl 0 rfl ?_
        exact rr_iret dX10_bound_39 rfl rfl rfl rfl rfl
    · refine rr_bipush (v := (-102)) dX10_bound_10 (by decide) ?_
      exact rr_iret dX10_bound_12 rfl rfl rfl rfl rfl
def fX8_typeOf (P : rr_T) (S : rr_T) (x1 : Int32) (x2 : Int32) : Option Int32 :=
  if x1 < 0 then
  some (-1)
else
  if (S.1 20) ≤ x1 then
    some (-1)
  else
    if x2 < 0 then
      some (-1)
    else
      if inb x1 4 then
        if x2 < (S.2.1 3 x1.toNatClampNeg) then
          if inb ((x1 * 4) + x2) 16 then
            some ((S.2.1 4 ((x1 * 4) + x2).toNatClampNeg))
          else none
        else
          some (-1)
      else none
set_option maxRecDepth 20000 in
theorem tX8_typeOf {l : Launch} {G : rr_G} (P : rr_T) (S : rr_T) (x1 : Int32) (x2 : Int32) : TT l G mX8_typeOf 0 0 fxA rvI (fun _ => xw P S) z0 z0 0 0 [.ref 1, .int x1, .int x2] (xw P S) (fX8_typeOf P S x1 x2) := by
  refine TT.by (by decide) (Nat.le_of_ble_eq_true rfl) (lv := [(0, .ref 1), (1, .int x1), (2, .int x2)]) rfl ?_
  show RR l G mX8_typeOf 0 0 fxA rvI (fun _ => xw P S) z0 z0 0 0 0 [(0, .ref 1), (1, .int x1), (2, .int x2)] [] (xw P S) (fX8_typeOf P S x1 x2)
  unfold fX8_typeOf
  refine rr_iload_n dX8_typeOf_0 rfl 1 rfl ?_
  refine rr_if_lt (tgt := 26) dX8_typeOf_1 (by decide) (fun _ => ?_) (fun _ => ?_)
  · refine rr_iconst (v := (-1)) dX8_typeOf_26 (by decide) ?_
    exact rr_iret dX8_typeOf_27 rfl rfl rfl rfl rfl
  · refine rr_iload_n dX8_typeOf_4 rfl 1 rfl ?_
    refine rr_aload_n dX8_typeOf_5 rfl 0 rfl ?_
    refine rr_get (v := .int (S.1 20)) cl8 k8_24 (Nat.le_of_ble_eq_true rfl) rfl rfl dX8_typeOf_6 ?_
    refine rr_icmp_ge (tgt := 26) dX8_typeOf_9 (by decide) (fun _ => ?_) (fun _ => ?_)
    · refine rr_iconst (v := (-1)) dX8_typeOf_26 (by decide) ?_
      exact rr_iret dX8_typeOf_27 rfl rfl rfl rfl rfl
    · refine rr_iload_n dX8_typeOf_12 rfl 2 rfl ?_
      refine rr_if_lt (tgt := 26) dX8_typeOf_13 (by decide) (fun _ => ?_) (fun _ => ?_)
      · refine rr_iconst (v := (-1)) dX8_typeOf_26 (by decide) ?_
        exact rr_iret dX8_typeOf_27 rfl rfl rfl rfl rfl
      · refine rr_iload_n dX8_typeOf_16 rfl 2 rfl ?_
        refine rr_aload_n dX8_typeOf_17 rfl 0 rfl ?_
        refine rr_get (v := .ref 3) cl8 k8_15 (Nat.le_of_ble_eq_true rfl) rfl rfl dX8_typeOf_18 ?_
        refine rr_iload_n dX8_typeOf_21 rfl 1 rfl ?_
        refine rr_if (fun z => ?_)
        refine rr_iald (len := 4) rfl (inb_in z) dX8_typeOf_22 ?_
        refine rr_icmp_lt (tgt := 28) dX8_typeOf_23 (by decide) (fun _ => ?_) (fun _ => ?_)
        · refine rr_aload_n dX8_typeOf_28 rfl 0 rfl ?_
          refine rr_get (v := .ref 4) cl8 k8_18 (Nat.le_of_ble_eq_true rfl) rfl rfl dX8_typeOf_29 ?_
          refine rr_iload_n dX8_typeOf_32 rfl 1 rfl ?_
          refine rr_iconst (v := 4) dX8_typeOf_33 (by decide) ?_
          refine rr_imul dX8_typeOf_34 ?_
          refine rr_iload_n dX8_typeOf_35 rfl 2 rfl ?_
          refine rr_iadd dX8_typeOf_36 ?_
          refine rr_if (fun z => ?_)
          refine rr_iald (len := 16) rfl (inb_in z) dX8_typeOf_37 ?_
          exact rr_iret dX8_typeOf_38 rfl rfl rfl rfl rfl
        · refine rr_iconst (v := (-1)) dX8_typeOf_26 (by decide) ?_
          exact rr_iret dX8_typeOf_27 rfl rfl rfl rfl rfl
def fX8_hasField (P : rr_T) (S : rr_T) (x1 : Int32) (x2 : Int32) : Option Int32 :=
  (fX8_typeOf P S x1 x2).bind (fun r1 =>
  if r1 = (-1) then
  some 0
else
  some 1)
set_option maxRecDepth 20000 in
theorem tX8_hasField {l : Launch} {G : rr_G} (P : rr_T) (S : rr_T) (x1 : Int32) (x2 : Int32) : TT l G mX8_hasField 1 22 fxA rvI (fun _ => xw P S) z0 z0 0 0 [.ref 1, .int x1, .int x2] (xw P S) (fX8_hasField P S x1 x2) := by
  refine TT.by (by decide) (Nat.le_of_ble_eq_true rfl) (lv := [(0, .ref 1), (1, .int x1), (2, .int x2)]) rfl ?_
  show RR l G mX8_hasField 1 22 fxA rvI (fun _ => xw P S) z0 z0 0 0 0 [(0, .ref 1), (1, .int x1), (2, .int x2)] [] (xw P S) (fX8_hasField P S x1 x2)
  unfold fX8_hasField
  refine rr_aload_n dX8_hasField_0 rfl 0 rfl ?_
  refine rr_iload_n dX8_hasField_1 rfl 1 rfl ?_
  refine rr_iload_n dX8_hasField_2 rfl 2 rfl ?_
  refine rr_vi (As := [.int x1, .int x2]) (rest := []) (tX8_typeOf P S x1 x2) v8_38 rfl rfl ⟨Nat.le_of_ble_eq_true rfl, Nat.le_of_ble_eq_true rfl⟩ rfl rfl (Nat.le_of_ble_eq_true rfl) rfl dX8_hasField_3 (fun r1 => ?_)
  refine rr_iconst (v := (-1)) dX8_hasField_6 (by decide) ?_
  refine rr_icmp_eq (tgt := 14) dX8_hasField_7 (by decide) (fun _ => ?_) (fun _ => ?_)
  · refine rr_iconst (v := 0) dX8_hasField_14 (by decide) ?_
    exact rr_zret dX8_hasField_15 rfl (by decide) rfl rfl rfl rfl
  · refine rr_iconst (v := 1) dX8_hasField_10 (by decide) ?_
    refine rr_goto (tgt := 15) dX8_hasField_11 (by decide) ?_
    exact rr_zret dX8_hasField_15 rfl (by decide) rfl rfl rfl rfl
def JX10_namesKnown_39 (P : rr_T) (S : rr_T) (x2 : Int32) (x4 : Int32) (a2 : Int32) : Option Int32 :=
  if a2 = 0 then
  (fX8_hasField P S x2 x4).bind (fun r3 =>
    if r3 = 0 then
    some 0
  else
    some 1)
else
  some 1
set_option maxRecDepth 20000 in
theorem tX10_namesKnown_39 {l : Launch} {G : rr_G} (P : rr_T) (S : rr_T) (x2 : Int32) (x4 : Int32) (a2 : Int32) : RR l G mX10_namesKnown 2 44 fxA rvI (fun _ => xw P S) z0 z0 0 0 39 [(0, .ref 0), (2, .int x2), (4, .int x4)] [.int a2] (xw P S) (JX10_namesKnown_39 P S x2 x4 a2) := by
  unfold JX10_namesKnown_39
  refine rr_istore (lv' := [(5, .int a2), (0, .ref 0), (2, .int x2), (4, .int x4)]) dX10_namesKnown_39 (by decide) rfl ?_
  refine rr_iload dX10_namesKnown_41 0 rfl ?_
  refine rr_if_ne (tgt := 59) dX10_namesKnown_43 (by decide) (fun _ => ?_) (fun _ => ?_)
  · refine rr_iconst (v := 1) dX10_namesKnown_59 (by decide) ?_
    refine rr_goto (tgt := 64) dX10_namesKnown_60 (by decide) ?_
    exact rr_zret dX10_namesKnown_64 rfl (by decide) rfl rfl rfl rfl
  · refine rr_aload_n dX10_namesKnown_46 rfl 1 rfl ?_
    refine rr_get (v := .ref 1) cl10 k10_12 (Nat.le_of_ble_eq_true rfl) rfl rfl dX10_namesKnown_47 ?_
    refine rr_iload_n dX10_namesKnown_50 rfl 2 rfl ?_
    refine rr_iload dX10_namesKnown_51 3 rfl ?_
    refine rr_vi (As := [.int x2, .int x4]) (rest := []) (tX8_hasField P S x2 x4) v10_232 rfl rfl ⟨Nat.le_of_ble_eq_true rfl, Nat.le_of_ble_eq_true rfl⟩ rfl rfl (Nat.le_of_ble_eq_true rfl) rfl dX10_namesKnown_53 (fun r3 => ?_)
    refine rr_if_eq (tgt := 63) dX10_namesKnown_56 (by decide) (fun _ => ?_) (fun _ => ?_)
    · refine rr_iconst (v := 0) dX10_namesKnown_63 (by decide) ?_
      exact rr_zret dX10_namesKnown_64 rfl (by decide) rfl rfl rfl rfl
    · refine rr_iconst (v := 1) dX10_namesKnown_59 (by decide) ?_
      refine rr_goto (tgt := 64) dX10_namesKnown_60 (by decide) ?_
      exact rr_zret dX10_namesKnown_64 rfl (by decide) rfl rfl rfl rfl
def fX10_namesKnown (P : rr_T) (S : rr_T) (x1 : Int32) (x2 : Int32) (x3 : Int32) (x4 : Int32) : Option Int32 :=
  (fX8_hasField P S x2 x3).bind (fun r1 =>
  if r1 = 0 then
  some 0
else
  if x1 = 0 then
    JX10_namesKnown_39 P S x2 x4 1
  else
    if x4 = (-1) then
      if x1 = 1 then
        JX10_namesKnown_39 P S x2 x4 1
      else
        if x1 = 2 then
          JX10_namesKnown_39 P S x2 x4 1
        else
          JX10_namesKnown_39 P S x2 x4 0
    else
      JX10_namesKnown_39 P S x2 x4 0)
set_option maxRecDepth 20000 in
theorem tX10_namesKnown {l : Launch} {G : rr_G} (P : rr_T) (S : rr_T) (x1 : Int32) (x2 : Int32) (x3 : Int32) (x4 : Int32) : TT l G mX10_namesKnown 2 44 fxA rvI (fun _ => xw P S) z0 z0 0 0 [.ref 0, .int x1, .int x2, .int x3, .int x4] (xw P S) (fX10_namesKnown P S x1 x2 x3 x4) := by
  refine TT.by (by decide) (Nat.le_of_ble_eq_true rfl) (lv := [(0, .ref 0), (1, .int x1), (2, .int x2), (3, .int x3), (4, .int x4)]) rfl ?_
  show RR l G mX10_namesKnown 2 44 fxA rvI (fun _ => xw P S) z0 z0 0 0 0 [(0, .ref 0), (1, .int x1), (2, .int x2), (3, .int x3), (4, .int x4)] [] (xw P S) (fX10_namesKnown P S x1 x2 x3 x4)
  unfold fX10_namesKnown
  refine rr_aload_n dX10_namesKnown_0 rfl 0 rfl ?_
  refine rr_get (v := .ref 1) cl10 k10_12 (Nat.le_of_ble_eq_true rfl) rfl rfl dX10_namesKnown_1 ?_
  refine rr_iload_n dX10_namesKnown_4 rfl 2 rfl ?_
  refine rr_iload_n dX10_namesKnown_5 rfl 3 rfl ?_
  refine rr_vi (As := [.int x2, .int x3]) (rest := []) (tX8_hasField P S x2 x3) v10_232 rfl rfl ⟨Nat.le_of_ble_eq_true rfl, Nat.le_of_ble_eq_true rfl⟩ rfl rfl (Nat.le_of_ble_eq_true rfl) rfl dX10_namesKnown_6 (fun r1 => ?_)
  refine rr_if_ne (tgt := 14) dX10_namesKnown_9 (by decide) (fun _ => ?_) (fun _ => ?_)
  · refine rr_iload_n dX10_namesKnown_14 rfl 1 rfl ?_
    refine rr_if_eq (tgt := 34) dX10_namesKnown_15 (by decide) (fun _ => ?_) (fun _ => ?_)
    · refine rr_iconst (v := 1) dX10_namesKnown_34 (by decide) ?_
      refine rr_goto (tgt := 39) dX10_namesKnown_35 (by decide) ?_
      refine rr_sub [0, 2, 4] rfl ?_
      exact tX10_namesKnown_39 P S x2 x4 1
    · refine rr_iload dX10_namesKnown_18 4 rfl ?_
      refine rr_iconst (v := (-1)) dX10_namesKnown_20 (by decide) ?_
      refine rr_icmp_ne (tgt := 38) dX10_namesKnown_21 (by decide) (fun _ => ?_) (fun _ => ?_)
      · refine rr_iconst (v := 0) dX10_namesKnown_38 (by decide) ?_
        refine rr_sub [0, 2, 4] rfl ?_
        exact tX10_namesKnown_39 P S x2 x4 0
      · refine rr_iload_n dX10_namesKnown_24 rfl 1 rfl ?_
        refine rr_iconst (v := 1) dX10_namesKnown_25 (by decide) ?_
        refine rr_icmp_eq (tgt := 34) dX10_namesKnown_26 (by decide) (fun _ => ?_) (fun _ => ?_)
        · refine rr_iconst (v := 1) dX10_namesKnown_34 (by decide) ?_
          refine rr_goto (tgt := 39) dX10_namesKnown_35 (by decide) ?_
          refine rr_sub [0, 2, 4] rfl ?_
          exact tX10_namesKnown_39 P S x2 x4 1
        · refine rr_iload_n dX10_namesKnown_29 rfl 1 rfl ?_
          refine rr_iconst (v := 2) dX10_namesKnown_30 (by decide) ?_
          refine rr_icmp_ne (tgt := 38) dX10_namesKnown_31 (by decide) (fun _ => ?_) (fun _ => ?_)
          · refine rr_iconst (v := 0) dX10_namesKnown_38 (by decide) ?_
            refine rr_sub [0, 2, 4] rfl ?_
            exact tX10_namesKnown_39 P S x2 x4 0
          · refine rr_iconst (v := 1) dX10_namesKnown_34 (by decide) ?_
            refine rr_goto (tgt := 39) dX10_namesKnown_35 (by decide) ?_
            refine rr_sub [0, 2, 4] rfl ?_
            exact tX10_namesKnown_39 P S x2 x4 1
  · refine rr_iconst (v := 0) dX10_namesKnown_12 (by decide) ?_
    exact rr_zret dX10_namesKnown_13 rfl (by decide) rfl rfl rfl rfl
def fX8_isRefType (x1 : Int32) : Option Int32 :=
  if x1 < 0 then
  some 0
else
  if 4 ≤ x1 then
    some 0
  else
    some 1
set_option maxRecDepth 20000 in
theorem tX8_isRefType {l : Launch} {G : rr_G} (x1 : Int32) (h : rr_H) : TT l G mX8_isRefType 0 0 fxA rvI (fun _ => h) z0 z0 0 0 [.int x1] (h) (fX8_isRefType x1) := by
  refine TT.by (by decide) (Nat.le_of_ble_eq_true rfl) (lv := [(0, .int x1)]) rfl ?_
  show RR l G mX8_isRefType 0 0 fxA rvI (fun _ => h) z0 z0 0 0 0 [(0, .int x1)] [] (h) (fX8_isRefType x1)
  unfold fX8_isRefType
  refine rr_iload_n dX8_isRefType_0 rfl 0 rfl ?_
  refine rr_if_lt (tgt := 13) dX8_isRefType_1 (by decide) (fun _ => ?_) (fun _ => ?_)
  · refine rr_iconst (v := 0) dX8_isRefType_13 (by decide) ?_
    exact rr_zret dX8_isRefType_14 rfl (by decide) rfl rfl rfl rfl
  · refine rr_iload_n dX8_isRefType_4 rfl 0 rfl ?_
    refine rr_iconst (v := 4) dX8_isRefType_5 (by decide) ?_
    refine rr_icmp_ge (tgt := 13) dX8_isRefType_6 (by decide) (fun _ => ?_) (fun _ => ?_)
    · refine rr_iconst (v := 0) dX8_isRefType_13 (by decide) ?_
      exact rr_zret dX8_isRefType_14 rfl (by decide) rfl rfl rfl rfl
    · refine rr_iconst (v := 1) dX8_isRefType_9 (by decide) ?_
      refine rr_goto (tgt := 14) dX8_isRefType_10 (by decide) ?_
      exact rr_zret dX8_isRefType_14 rfl (by decide) rfl rfl rfl rfl
def fX8_isRef (P : rr_T) (S : rr_T) (x1 : Int32) (x2 : Int32) : Option Int32 :=
  (fX8_typeOf P S x1 x2).bind (fun r1 =>
  (fX8_isRefType r1).bind (fun r2 =>
  if r2 &&& 1 = r2 then
  some r2
else none))
set_option maxRecDepth 20000 in
theorem tX8_isRef {l : Launch} {G : rr_G} (P : rr_T) (S : rr_T) (x1 : Int32) (x2 : Int32) : TT l G mX8_isRef 1 22 fxA rvI (fun _ => xw P S) z0 z0 0 0 [.ref 1, .int x1, .int x2] (xw P S) (fX8_isRef P S x1 x2) := by
  refine TT.by (by decide) (Nat.le_of_ble_eq_true rfl) (lv := [(0, .ref 1), (1, .int x1), (2, .int x2)]) rfl ?_
  show RR l G mX8_isRef 1 22 fxA rvI (fun _ => xw P S) z0 z0 0 0 0 [(0, .ref 1), (1, .int x1), (2, .int x2)] [] (xw P S) (fX8_isRef P S x1 x2)
  unfold fX8_isRef
  refine rr_aload_n dX8_isRef_0 rfl 0 rfl ?_
  refine rr_iload_n dX8_isRef_1 rfl 1 rfl ?_
  refine rr_iload_n dX8_isRef_2 rfl 2 rfl ?_
  refine rr_vi (As := [.int x1, .int x2]) (rest := []) (tX8_typeOf P S x1 x2) v8_38 rfl rfl ⟨Nat.le_of_ble_eq_true rfl, Nat.le_of_ble_eq_true rfl⟩ rfl rfl (Nat.le_of_ble_eq_true rfl) rfl dX8_isRef_3 (fun r1 => ?_)
  refine rr_si (As := [.int r1]) (rest := []) (tX8_isRefType r1 (xw P S)) s8_42 rfl ⟨Nat.le_of_ble_eq_true rfl, Nat.le_of_ble_eq_true rfl⟩ rfl rfl (Nat.le_of_ble_eq_true rfl) rfl dX8_isRef_6 (fun r2 => ?_)
  refine rr_if (fun z => ?_)
  exact rr_zret dX8_isRef_9 rfl z rfl rfl rfl rfl
def fX8_isNumber (P : rr_T) (S : rr_T) (x1 : Int32) (x2 : Int32) : Option Int32 :=
  (fX8_typeOf P S x1 x2).bind (fun r1 =>
  if r1 < 4 then
  some 0
else
  some 1)
set_option maxRecDepth 20000 in
theorem tX8_isNumber {l : Launch} {G : rr_G} (P : rr_T) (S : rr_T) (x1 : Int32) (x2 : Int32) : TT l G mX8_isNumber 1 22 fxA rvI (fun _ => xw P S) z0 z0 0 0 [.ref 1, .int x1, .int x2] (xw P S) (fX8_isNumber P S x1 x2) := by
  refine TT.by (by decide) (Nat.le_of_ble_eq_true rfl) (lv := [(0, .ref 1), (1, .int x1), (2, .int x2)]) rfl ?_
  show RR l G mX8_isNumber 1 22 fxA rvI (fun _ => xw P S) z0 z0 0 0 0 [(0, .ref 1), (1, .int x1), (2, .int x2)] [] (xw P S) (fX8_isNumber P S x1 x2)
  unfold fX8_isNumber
  refine rr_aload_n dX8_isNumber_0 rfl 0 rfl ?_
  refine rr_iload_n dX8_isNumber_1 rfl 1 rfl ?_
  refine rr_iload_n dX8_isNumber_2 rfl 2 rfl ?_
  refine rr_vi (As := [.int x1, .int x2]) (rest := []) (tX8_typeOf P S x1 x2) v8_38 rfl rfl ⟨Nat.le_of_ble_eq_true rfl, Nat.le_of_ble_eq_true rfl⟩ rfl rfl (Nat.le_of_ble_eq_true rfl) rfl dX8_isNumber_3 (fun r1 => ?_)
  refine rr_iconst (v := 4) dX8_isNumber_6 (by decide) ?_
  refine rr_icmp_lt (tgt := 14) dX8_isNumber_7 (by decide) (fun _ => ?_) (fun _ => ?_)
  · refine rr_iconst (v := 0) dX8_isNumber_14 (by decide) ?_
    exact rr_zret dX8_isNumber_15 rfl (by decide) rfl rfl rfl rfl
  · refine rr_iconst (v := 1) dX8_isNumber_10 (by decide) ?_
    refine rr_goto (tgt := 15) dX8_isNumber_11 (by decide) ?_
    exact rr_zret dX8_isNumber_15 rfl (by decide) rfl rfl rfl rfl
def JX10_sortsFit_90 (P : rr_T) (S : rr_T) (x2 : Int32) (x4 : Int32) (a2 : Unit) : Option Int32 :=
  (fX8_isNumber P S x2 x4).bind (fun r3 =>
  if r3 &&& 1 = r3 then
  some r3
else none)
set_option maxRecDepth 20000 in
theorem tX10_sortsFit_90 {l : Launch} {G : rr_G} (P : rr_T) (S : rr_T) (x2 : Int32) (x4 : Int32) (a2 : Unit) : RR l G mX10_sortsFit 2 44 fxA rvI (fun _ => xw P S) z0 z0 0 0 90 [(0, .ref 0), (2, .int x2), (4, .int x4)] [] (xw P S) (JX10_sortsFit_90 P S x2 x4 a2) := by
  unfold JX10_sortsFit_90
  refine rr_aload_n dX10_sortsFit_90 rfl 0 rfl ?_
  refine rr_get (v := .ref 1) cl10 k10_12 (Nat.le_of_ble_eq_true rfl) rfl rfl dX10_sortsFit_91 ?_
  refine rr_iload_n dX10_sortsFit_94 rfl 1 rfl ?_
  refine rr_iload dX10_sortsFit_95 2 rfl ?_
  refine rr_vi (As := [.int x2, .int x4]) (rest := []) (tX8_isNumber P S x2 x4) v10_239 rfl rfl ⟨Nat.le_of_ble_eq_true rfl, Nat.le_of_ble_eq_true rfl⟩ rfl rfl (Nat.le_of_ble_eq_true rfl) rfl dX10_sortsFit_97 (fun r3 => ?_)
  refine rr_if (fun z => ?_)
  exact rr_zret dX10_sortsFit_100 rfl z rfl rfl rfl rfl
def JX10_sortsFit_54 (P : rr_T) (S : rr_T) (x2 : Int32) (x4 : Int32) (a4 : Unit) : Option Int32 :=
  if x4 = (-1) then
  some 1
else
  (fX8_isRef P S x2 x4).bind (fun r5 =>
    if r5 = 0 then
    some 0
  else
    some 1)
set_option maxRecDepth 20000 in
theorem tX10_sortsFit_54 {l : Launch} {G : rr_G} (P : rr_T) (S : rr_T) (x2 : Int32) (x4 : Int32) (a4 : Unit) : RR l G mX10_sortsFit 2 44 fxA rvI (fun _ => xw P S) z0 z0 0 0 54 [(0, .ref 0), (2, .int x2), (4, .int x4)] [] (xw P S) (JX10_sortsFit_54 P S x2 x4 a4) := by
  unfold JX10_sortsFit_54
  refine rr_iload dX10_sortsFit_54 2 rfl ?_
  refine rr_iconst (v := (-1)) dX10_sortsFit_56 (by decide) ?_
  refine rr_icmp_eq (tgt := 73) dX10_sortsFit_57 (by decide) (fun _ => ?_) (fun _ => ?_)
  · refine rr_iconst (v := 1) dX10_sortsFit_73 (by decide) ?_
    refine rr_goto (tgt := 78) dX10_sortsFit_74 (by decide) ?_
    exact rr_zret dX10_sortsFit_78 rfl (by decide) rfl rfl rfl rfl
  · refine rr_aload_n dX10_sortsFit_60 rfl 0 rfl ?_
    refine rr_get (v := .ref 1) cl10 k10_12 (Nat.le_of_ble_eq_true rfl) rfl rfl dX10_sortsFit_61 ?_
    refine rr_iload_n dX10_sortsFit_64 rfl 1 rfl ?_
    refine rr_iload dX10_sortsFit_65 2 rfl ?_
    refine rr_vi (As := [.int x2, .int x4]) (rest := []) (tX8_isRef P S x2 x4) v10_236 rfl rfl ⟨Nat.le_of_ble_eq_true rfl, Nat.le_of_ble_eq_true rfl⟩ rfl rfl (Nat.le_of_ble_eq_true rfl) rfl dX10_sortsFit_67 (fun r5 => ?_)
    refine rr_if_eq (tgt := 77) dX10_sortsFit_70 (by decide) (fun _ => ?_) (fun _ => ?_)
    · refine rr_iconst (v := 0) dX10_sortsFit_77 (by decide) ?_
      exact rr_zret dX10_sortsFit_78 rfl (by decide) rfl rfl rfl rfl
    · refine rr_iconst (v := 1) dX10_sortsFit_73 (by decide) ?_
      refine rr_goto (tgt := 78) dX10_sortsFit_74 (by decide) ?_
      exact rr_zret dX10_sortsFit_78 rfl (by decide) rfl rfl rfl rfl
def fX10_sortsFit (P : rr_T) (S : rr_T) (x1 : Int32) (x2 : Int32) (x3 : Int32) (x4 : Int32) : Option Int32 :=
  (fX8_isRef P S x2 x3).bind (fun r1 =>
  if r1 = 0 then
  some 0
else
  if x1 = 0 then
    some 1
  else
    if x1 = 1 then
      JX10_sortsFit_54 P S x2 x4 ()
    else
      if x1 = 2 then
        JX10_sortsFit_54 P S x2 x4 ()
      else
        if x1 = 3 then
          (fX8_isRef P S x2 x4).bind (fun r6 =>
            if r6 &&& 1 = r6 then
            some r6
          else none)
        else
          if x1 = 4 then
            JX10_sortsFit_90 P S x2 x4 ()
          else
            if x1 = 5 then
              JX10_sortsFit_90 P S x2 x4 ()
            else
              some 0)
set_option maxRecDepth 20000 in
theorem tX10_sortsFit {l : Launch} {G : rr_G} (P : rr_T) (S : rr_T) (x1 : Int32) (x2 : Int32) (x3 : Int32) (x4 : Int32) : TT l G mX10_sortsFit 2 44 fxA rvI (fun _ => xw P S) z0 z0 0 0 [.ref 0, .int x1, .int x2, .int x3, .int x4] (xw P S) (fX10_sortsFit P S x1 x2 x3 x4) := by
  refine TT.by (by decide) (Nat.le_of_ble_eq_true rfl) (lv := [(0, .ref 0), (1, .int x1), (2, .int x2), (3, .int x3), (4, .int x4)]) rfl ?_
  show RR l G mX10_sortsFit 2 44 fxA rvI (fun _ => xw P S) z0 z0 0 0 0 [(0, .ref 0), (1, .int x1), (2, .int x2), (3, .int x3), (4, .int x4)] [] (xw P S) (fX10_sortsFit P S x1 x2 x3 x4)
  unfold fX10_sortsFit
  refine rr_aload_n dX10_sortsFit_0 rfl 0 rfl ?_
  refine rr_get (v := .ref 1) cl10 k10_12 (Nat.le_of_ble_eq_true rfl) rfl rfl dX10_sortsFit_1 ?_
  refine rr_iload_n dX10_sortsFit_4 rfl 2 rfl ?_
  refine rr_iload_n dX10_sortsFit_5 rfl 3 rfl ?_
  refine rr_vi (As := [.int x2, .int x3]) (rest := []) (tX8_isRef P S x2 x3) v10_236 rfl rfl ⟨Nat.le_of_ble_eq_true rfl, Nat.le_of_ble_eq_true rfl⟩ rfl rfl (Nat.le_of_ble_eq_true rfl) rfl dX10_sortsFit_6 (fun r1 => ?_)
  refine rr_if_ne (tgt := 14) dX10_sortsFit_9 (by decide) (fun _ => ?_) (fun _ => ?_)
  · refine rr_iload_n dX10_sortsFit_14 rfl 1 rfl ?_
    refine rr_ite (fun z => ?_) (fun z0 => ?_)
    · refine rr_tableIn (off := 37) (tgt := 52) dX10_sortsFit_15 (by rw [z]; decide) (by rw [z]; decide) (by rw [z]; decide) (by decide) ?_
      refine rr_iconst (v := 1) dX10_sortsFit_52 (by decide) ?_
      exact rr_zret dX10_sortsFit_53 rfl (by decide) rfl rfl rfl rfl
    · refine rr_ite (fun z => ?_) (fun z1 => ?_)
      · refine rr_tableIn (off := 39) (tgt := 54) dX10_sortsFit_15 (by rw [z]; decide) (by rw [z]; decide) (by rw [z]; decide) (by decide) ?_
        refine rr_sub [0, 2, 4] rfl ?_
        exact tX10_sortsFit_54 P S x2 x4 ()
      · refine rr_ite (fun z => ?_) (fun z2 => ?_)
        · refine rr_tableIn (off := 39) (tgt := 54) dX10_sortsFit_15 (by rw [z]; decide) (by rw [z]; decide) (by rw [z]; decide) (by decide) ?_
          refine rr_sub [0, 2, 4] rfl ?_
          exact tX10_sortsFit_54 P S x2 x4 ()
        · refine rr_ite (fun z => ?_) (fun z3 => ?_)
          · refine rr_tableIn (off := 64) (tgt := 79) dX10_sortsFit_15 (by rw [z]; decide) (by rw [z]; decide) (by rw [z]; decide) (by decide) ?_
            refine rr_aload_n dX10_sortsFit_79 rfl 0 rfl ?_
            refine rr_get (v := .ref 1) cl10 k10_12 (Nat.le_of_ble_eq_true rfl) rfl rfl dX10_sortsFit_80 ?_
            refine rr_iload_n dX10_sortsFit_83 rfl 2 rfl ?_
            refine rr_iload dX10_sortsFit_84 4 rfl ?_
            refine rr_vi (As := [.int x2, .int x4]) (rest := []) (tX8_isRef P S x2 x4) v10_236 rfl rfl ⟨Nat.le_of_ble_eq_true rfl, Nat.le_of_ble_eq_true rfl⟩ rfl rfl (Nat.le_of_ble_eq_true rfl) rfl dX10_sortsFit_86 (fun r6 => ?_)
            refine rr_if (fun z => ?_)
            exact rr_zret dX10_sortsFit_89 rfl z rfl rfl rfl rfl
          · refine rr_ite (fun z => ?_) (fun z4 => ?_)
            · refine rr_tableIn (off := 75) (tgt := 90) dX10_sortsFit_15 (by rw [z]; decide) (by rw [z]; decide) (by rw [z]; decide) (by decide) ?_
              refine rr_sub [0, 2, 4] rfl ?_
              exact tX10_sortsFit_90 P S x2 x4 ()
            · refine rr_ite (fun z => ?_) (fun z5 => ?_)
              · refine rr_tableIn (off := 75) (tgt := 90) dX10_sortsFit_15 (by rw [z]; decide) (by rw [z]; decide) (by rw [z]; decide) (by decide) ?_
                refine rr_sub [0, 2, 4] rfl ?_
                exact tX10_sortsFit_90 P S x2 x4 ()
              · refine rr_tableOut (tgt := 101) dX10_sortsFit_15 (by have h0 := lv_neT (a := 0) z0 (by decide); have h1 := lv_neT (a := 1) z1 (by decide); have h2 := lv_neT (a := 2) z2 (by decide); have h3 := lv_neT (a := 3) z3 (by decide); have h4 := lv_neT (a := 4) z4 (by decide); have h5 := lv_neT (a := 5) z5 (by decide); omega) (by decide) ?_
                refine rr_iconst (v := 0) dX10_sortsFit_101 (by decide) ?_
                exact rr_zret dX10_sortsFit_102 rfl (by decide) rfl rfl rfl rfl
  · refine rr_iconst (v := 0) dX10_sortsFit_12 (by decide) ?_
    exact rr_zret dX10_sortsFit_13 rfl (by decide) rfl rfl rfl rfl
def LX10_sizeFor_5 (x1 : Int32) (rec5 : (Int32 × Int32) → Option Int32) (a1 : Int32 × Int32) : Option Int32 :=
  if 20 ≤ a1.2 then
  some a1.1
else
  if x1 ≤ a1.1 then
    some a1.1
  else
    rr_l ((a1.1 * 2)) (fun v2 =>
      rec5 (v2, (a1.2 + 1)))
set_option maxRecDepth 20000 in
theorem tX10_sizeFor_5 {l : Launch} {G : rr_G} (x1 : Int32) (h : rr_H) : ∀ (n : Nat) (a : Int32 × Int32), RR l G mX10_sizeFor 0 0 fxA rvI (fun _ => h) z0 z0 0 0 5 [(0, .int x1), (1, .int a.1), (2, .int a.2)] [] (h) (rr_loop n (LX10_sizeFor_5 x1) a) := by
  refine rr_lp (α := Int32 × Int32) 5 (fun a => [(0, .int x1), (1, .int a.1), (2, .int a.2)]) (fun a => (h)) (fun rec5 hrec5 a1 => ?_)
  show RR l G mX10_sizeFor 0 0 fxA rvI (fun _ => h) z0 z0 0 0 5 [(0, .int x1), (1, .int a1.1), (2, .int a1.2)] [] (h) (LX10_sizeFor_5 x1 rec5 a1)
  unfold LX10_sizeFor_5
  refine rr_iload_n dX10_sizeFor_5 rfl 2 rfl ?_
  refine rr_bipush (v := 20) dX10_sizeFor_6 (by decide) ?_
  refine rr_icmp_ge (tgt := 26) dX10_sizeFor_8 (by decide) (fun _ => ?_) (fun _ => ?_)
  · refine rr_iload_n dX10_sizeFor_26 rfl 1 rfl ?_
    exact rr_iret dX10_sizeFor_27 rfl rfl rfl rfl rfl
  · refine rr_iload_n dX10_sizeFor_11 rfl 1 rfl ?_
    refine rr_iload_n dX10_sizeFor_12 rfl 0 rfl ?_
    refine rr_icmp_ge (tgt := 26) dX10_sizeFor_13 (by decide) (fun _ => ?_) (fun _ => ?_)
    · refine rr_iload_n dX10_sizeFor_26 rfl 1 rfl ?_
      exact rr_iret dX10_sizeFor_27 rfl rfl rfl rfl rfl
    · refine rr_iload_n dX10_sizeFor_16 rfl 1 rfl ?_
      refine rr_iconst (v := 2) dX10_sizeFor_17 (by decide) ?_
      refine rr_imul dX10_sizeFor_18 ?_
      refine rr_letI (fun v2 => ?_)
      refine rr_istore_n (lv' := [(1, .int v2), (0, .int x1), (2, .int a1.2)]) dX10_sizeFor_19 rfl (by decide) rfl ?_
      refine rr_iinc (lv' := [(2, .int (a1.2 + 1)), (1, .int v2), (0, .int x1)]) dX10_sizeFor_20 2 rfl (by decide) rfl ?_
      refine rr_goto (tgt := 5) dX10_sizeFor_23 (by decide) ?_
      refine rr_sub [2, 1, 0] rfl ?_
      exact hrec5 (v2, (a1.2 + 1))
def fX10_sizeFor (x1 : Int32) : Option Int32 :=
  rr_loop FU (LX10_sizeFor_5 x1) (16, 0)
set_option maxRecDepth 20000 in
theorem tX10_sizeFor {l : Launch} {G : rr_G} (x1 : Int32) (h : rr_H) : TT l G mX10_sizeFor 0 0 fxA rvI (fun _ => h) z0 z0 0 0 [.int x1] (h) (fX10_sizeFor x1) := by
  refine TT.by (by decide) (Nat.le_of_ble_eq_true rfl) (lv := [(0, .int x1)]) rfl ?_
  show RR l G mX10_sizeFor 0 0 fxA rvI (fun _ => h) z0 z0 0 0 0 [(0, .int x1)] [] (h) (fX10_sizeFor x1)
  unfold fX10_sizeFor
  refine rr_bipush (v := 16) dX10_sizeFor_0 (by decide) ?_
  refine rr_istore_n (lv' := [(1, .int 16), (0, .int x1)]) dX10_sizeFor_2 rfl (by decide) rfl ?_
  refine rr_iconst (v := 0) dX10_sizeFor_3 (by decide) ?_
  refine rr_istore_n (lv' := [(2, .int 0), (1, .int 16), (0, .int x1)]) dX10_sizeFor_4 rfl (by decide) rfl ?_
  refine rr_sub [2, 1, 0] rfl ?_
  exact tX10_sizeFor_5 x1 h FU (16, 0)
def fX7_drop (P : rr_T) (S : rr_T) : Option (Int32 × rr_T) :=
  rr_l ((S.1 97)) (fun v1 =>
  rr_l (pI S 97 0) (fun S2 =>
  some ((v1, S2))))
set_option maxRecDepth 20000 in
theorem tX7_drop {l : Launch} {G : rr_G} (P : rr_T) (S : rr_T) : TT l G mX7_drop 0 0 fxA rvIS (fun q => xw P q.2) z0 z0 0 0 [.ref 6] (xw P S) (fX7_drop P S) := by
  refine TT.by (by decide) (Nat.le_of_ble_eq_true rfl) (lv := [(0, .ref 6)]) rfl ?_
  show RR l G mX7_drop 0 0 fxA rvIS (fun q => xw P q.2) z0 z0 0 0 0 [(0, .ref 6)] [] (xw P S) (fX7_drop P S)
  unfold fX7_drop
  refine rr_aload_n dX7_drop_0 rfl 0 rfl ?_
  refine rr_get (v := .int (S.1 97)) cl7 k7_17 (Nat.le_of_ble_eq_true rfl) rfl rfl dX7_drop_1 ?_
  refine rr_letI (fun v1 => ?_)
  refine rr_istore_n (lv' := [(1, .int v1), (0, .ref 6)]) dX7_drop_4 rfl (by decide) rfl ?_
  refine rr_aload_n dX7_drop_5 rfl 1 rfl ?_
  refine rr_iconst (v := 0) dX7_drop_6 (by decide) ?_
  refine rr_put cl7 k7_17 (Nat.le_of_ble_eq_true rfl) rfl rfl rfl rfl (Nat.le_of_ble_eq_true rfl) dX7_drop_7 (xp6_1 P S 0) ?_
  refine rr_letS (W := xw P) (fun S2 => ?_)
  refine rr_iload_n dX7_drop_10 rfl 0 rfl ?_
  exact rr_iret dX7_drop_11 rfl rfl rfl rfl rfl
def fX10_about (P : rr_T) (S : rr_T) (x1 : Int32) : Option Int32 :=
  if x1 = 0 then
  some ((S.1 20))
else
  if x1 = 1 then
    some ((S.1 21))
  else
    if x1 = 2 then
      some ((S.1 22))
    else
      if x1 = 3 then
        some ((S.1 97))
      else
        if x1 = 4 then
          some ((S.1 129))
        else
          if x1 = 5 then
            some ((S.1 8))
          else
            if x1 < 10 then
              some (-102)
            else
              (fX8_isKind P S ((x1 - 10))).bind (fun r1 =>
                if r1 = 0 then
                some (-102)
              else
                (fX8_fieldsOf P S ((x1 - 10))).bind (fun r2 =>
                  some r2))
set_option maxRecDepth 20000 in
theorem tX10_about {l : Launch} {G : rr_G} (P : rr_T) (S : rr_T) (x1 : Int32) : TT l G mX10_about 1 21 fxA rvI (fun _ => xw P S) z0 z0 0 0 [.ref 0, .int x1] (xw P S) (fX10_about P S x1) := by
  refine TT.by (by decide) (Nat.le_of_ble_eq_true rfl) (lv := [(0, .ref 0), (1, .int x1)]) rfl ?_
  show RR l G mX10_about 1 21 fxA rvI (fun _ => xw P S) z0 z0 0 0 0 [(0, .ref 0), (1, .int x1)] [] (xw P S) (fX10_about P S x1)
  unfold fX10_about
  refine rr_iload_n dX10_about_0 rfl 1 rfl ?_
  refine rr_ite (fun z => ?_) (fun z0 => ?_)
  · refine rr_tableIn (off := 39) (tgt := 40) dX10_about_1 (by rw [z]; decide) (by rw [z]; decide) (by rw [z]; decide) (by decide) ?_
    refine rr_aload_n dX10_about_40 rfl 0 rfl ?_
    refine rr_get (v := .ref 1) cl10 k10_12 (Nat.le_of_ble_eq_true rfl) rfl rfl dX10_about_41 ?_
    refine rr_get (v := .int (S.1 20)) cl8 k10_124 (Nat.le_of_ble_eq_true rfl) rfl rfl dX10_about_44 ?_
    exact rr_iret dX10_about_47 rfl rfl rfl rfl rfl
  · refine rr_ite (fun z => ?_) (fun z1 => ?_)
    · refine rr_tableIn (off := 47) (tgt := 48) dX10_about_1 (by rw [z]; decide) (by rw [z]; decide) (by rw [z]; decide) (by decide) ?_
      refine rr_aload_n dX10_about_48 rfl 0 rfl ?_
      refine rr_get (v := .ref 1) cl10 k10_12 (Nat.le_of_ble_eq_true rfl) rfl rfl dX10_about_49 ?_
      refine rr_get (v := .int (S.1 21)) cl8 k10_127 (Nat.le_of_ble_eq_true rfl) rfl rfl dX10_about_52 ?_
      exact rr_iret dX10_about_55 rfl rfl rfl rfl rfl
    · refine rr_ite (fun z => ?_) (fun z2 => ?_)
      · refine rr_tableIn (off := 55) (tgt := 56) dX10_about_1 (by rw [z]; decide) (by rw [z]; decide) (by rw [z]; decide) (by decide) ?_
        refine rr_aload_n dX10_about_56 rfl 0 rfl ?_
        refine rr_get (v := .ref 1) cl10 k10_12 (Nat.le_of_ble_eq_true rfl) rfl rfl dX10_about_57 ?_
        refine rr_get (v := .int (S.1 22)) cl8 k10_95 (Nat.le_of_ble_eq_true rfl) rfl rfl dX10_about_60 ?_
        exact rr_iret dX10_about_63 rfl rfl rfl rfl rfl
      · refine rr_ite (fun z => ?_) (fun z3 => ?_)
        · refine rr_tableIn (off := 63) (tgt := 64) dX10_about_1 (by rw [z]; decide) (by rw [z]; decide) (by rw [z]; decide) (by decide) ?_
          refine rr_aload_n dX10_about_64 rfl 0 rfl ?_
          refine rr_get (v := .ref 6) cl10 k10_19 (Nat.le_of_ble_eq_true rfl) rfl rfl dX10_about_65 ?_
          refine rr_get (v := .int (S.1 97)) cl7 k10_130 (Nat.le_of_ble_eq_true rfl) rfl rfl dX10_about_68 ?_
          exact rr_iret dX10_about_71 rfl rfl rfl rfl rfl
        · refine rr_ite (fun z => ?_) (fun z4 => ?_)
          · refine rr_tableIn (off := 71) (tgt := 72) dX10_about_1 (by rw [z]; decide) (by rw [z]; decide) (by rw [z]; decide) (by decide) ?_
            refine rr_aload_n dX10_about_72 rfl 0 rfl ?_
            refine rr_get (v := .ref 8) cl10 k10_26 (Nat.le_of_ble_eq_true rfl) rfl rfl dX10_about_73 ?_
            refine rr_get (v := .int (S.1 129)) cl4 k10_133 (Nat.le_of_ble_eq_true rfl) rfl rfl dX10_about_76 ?_
            exact rr_iret dX10_about_79 rfl rfl rfl rfl rfl
          · refine rr_ite (fun z => ?_) (fun z5 => ?_)
            · refine rr_tableIn (off := 79) (tgt := 80) dX10_about_1 (by rw [z]; decide) (by rw [z]; decide) (by rw [z]; decide) (by decide) ?_
              refine rr_aload_n dX10_about_80 rfl 0 rfl ?_
              refine rr_get (v := .int (S.1 8)) cl10 k10_70 (Nat.le_of_ble_eq_true rfl) rfl rfl dX10_about_81 ?_
              exact rr_iret dX10_about_84 rfl rfl rfl rfl rfl
            · refine rr_tableOut (tgt := 85) dX10_about_1 (by have h0 := lv_neT (a := 0) z0 (by decide); have h1 := lv_neT (a := 1) z1 (by decide); have h2 := lv_neT (a := 2) z2 (by decide); have h3 := lv_neT (a := 3) z3 (by decide); have h4 := lv_neT (a := 4) z4 (by decide); have h5 := lv_neT (a := 5) z5 (by decide); omega) (by decide) ?_
              refine rr_iload_n dX10_about_85 rfl 1 rfl ?_
              refine rr_bipush (v := 10) dX10_about_86 (by decide) ?_
              refine rr_icmp_lt (tgt := 105) dX10_about_88 (by decide) (fun _ => ?_) (fun _ => ?_)
              · refine rr_bipush (v := (-102)) dX10_about_105 (by decide) ?_
                exact rr_iret dX10_about_107 rfl rfl rfl rfl rfl
              · refine rr_aload_n dX10_about_91 rfl 0 rfl ?_
                refine rr_get (v := .ref 1) cl10 k10_12 (Nat.le_of_ble_eq_true rfl) rfl rfl dX10_about_92 ?_
                refine rr_iload_n dX10_about_95 rfl 1 rfl ?_
                refine rr_bipush (v := 10) dX10_about_96 (by decide) ?_
                refine rr_isub dX10_about_98 ?_
                refine rr_vi (As := [.int (x1 - 10)]) (rest := []) (tX8_isKind P S ((x1 - 10))) v10_74 rfl rfl ⟨Nat.le_of_ble_eq_true rfl, Nat.le_of_ble_eq_true rfl⟩ rfl rfl (Nat.le_of_ble_eq_true rfl) rfl dX10_about_99 (fun r1 => ?_)
                refine rr_if_ne (tgt := 108) dX10_about_102 (by decide) (fun _ => ?_) (fun _ => ?_)
                · refine rr_aload_n dX10_about_108 rfl 0 rfl ?_
                  refine rr_get (v := .ref 1) cl10 k10_12 (Nat.le_of_ble_eq_true rfl) rfl rfl dX10_about_109 ?_
                  refine rr_iload_n dX10_about_112 rfl 1 rfl ?_
                  refine rr_bipush (v := 10) dX10_about_113 (by decide) ?_
                  refine rr_isub dX10_about_115 ?_
                  refine rr_vi (As := [.int (x1 - 10)]) (rest := []) (tX8_fieldsOf P S ((x1 - 10))) v10_134 rfl rfl ⟨Nat.le_of_ble_eq_true rfl, Nat.le_of_ble_eq_true rfl⟩ rfl rfl (Nat.le_of_ble_eq_true rfl) rfl dX10_about_116 (fun r2 => ?_)
                  exact rr_iret dX10_about_119 rfl rfl rfl rfl rfl
                · refine rr_bipush (v := (-102)) dX10_about_105 (by decide) ?_
                  exact rr_iret dX10_about_107 rfl rfl rfl rfl rfl
