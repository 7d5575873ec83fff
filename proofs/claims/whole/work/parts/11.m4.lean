/-! ===== the reference's methods: compareLooks, placeOf, playAll, ends, end, look, endOf ===== -/
def JM_compareLooks_78 (S : rr_T) (x2 : Int32) (a1 : Int32) (a2 : Int32) : Option Int32 :=
  if inb x2 4000 then
  if (S.2.1 21 x2.toNatClampNeg) ≤ a1 then
    some ((a2 - (-1)))
  else
    if inb ((20 * x2) + a1) 80000 then
      rr_l ((S.2.1 20 ((20 * x2) + a1).toNatClampNeg)) (fun v3 =>
        some ((a2 - v3)))
    else none
else none
set_option maxRecDepth 20000 in
theorem tM_compareLooks_78 {l : Launch} {G : rr_G} (S : rr_T) (x2 : Int32) (a1 : Int32) (a2 : Int32) : RR l G mX11_compareLooks 0 0 fxA rvI (fun _ => mw S) z0 z0 0 0 78 [(0, .ref 0), (2, .int x2), (3, .int a1)] [.int a2] (mw S) (JM_compareLooks_78 S x2 a1 a2) := by
  unfold JM_compareLooks_78
  refine rr_istore (lv' := [(4, .int a2), (0, .ref 0), (2, .int x2), (3, .int a1)]) dX11_compareLooks_78 (by decide) rfl ?_
  refine rr_iload_n dX11_compareLooks_80 rfl 3 rfl ?_
  refine rr_aload_n dX11_compareLooks_81 rfl 1 rfl ?_
  refine rr_get (v := .ref 21) cl11 k11_78 (Nat.le_of_ble_eq_true rfl) rfl rfl dX11_compareLooks_82 ?_
  refine rr_iload_n dX11_compareLooks_85 rfl 2 rfl ?_
  refine rr_if (fun z => ?_)
  refine rr_bald (len := 4000) rfl (inb_in z) dX11_compareLooks_86 ?_
  refine rr_icmp_ge (tgt := 104) dX11_compareLooks_87 (by decide) (fun _ => ?_) (fun _ => ?_)
  · refine rr_iconst (v := (-1)) dX11_compareLooks_104 (by decide) ?_
    refine rr_istore (lv' := [(5, .int (-1)), (4, .int a2), (0, .ref 0), (2, .int x2), (3, .int a1)]) dX11_compareLooks_105 (by decide) rfl ?_
    refine rr_iload dX11_compareLooks_107 1 rfl ?_
    refine rr_iload dX11_compareLooks_109 0 rfl ?_
    refine rr_isub dX11_compareLooks_111 ?_
    exact rr_iret dX11_compareLooks_112 rfl rfl rfl rfl rfl
  · refine rr_aload_n dX11_compareLooks_90 rfl 1 rfl ?_
    refine rr_get (v := .ref 20) cl11 k11_75 (Nat.le_of_ble_eq_true rfl) rfl rfl dX11_compareLooks_91 ?_
    refine rr_bipush (v := 20) dX11_compareLooks_94 (by decide) ?_
    refine rr_iload_n dX11_compareLooks_96 rfl 2 rfl ?_
    refine rr_imul dX11_compareLooks_97 ?_
    refine rr_iload_n dX11_compareLooks_98 rfl 3 rfl ?_
    refine rr_iadd dX11_compareLooks_99 ?_
    refine rr_if (fun z => ?_)
    refine rr_bald (len := 80000) rfl (inb_in z) dX11_compareLooks_100 ?_
    refine rr_goto (tgt := 105) dX11_compareLooks_101 (by decide) ?_
    refine rr_letI (fun v3 => ?_)
    refine rr_istore (lv' := [(5, .int v3), (4, .int a2), (0, .ref 0), (2, .int x2), (3, .int a1)]) dX11_compareLooks_105 (by decide) rfl ?_
    refine rr_iload dX11_compareLooks_107 1 rfl ?_
    refine rr_iload dX11_compareLooks_109 0 rfl ?_
    refine rr_isub dX11_compareLooks_111 ?_
    exact rr_iret dX11_compareLooks_112 rfl rfl rfl rfl rfl
def JM_compareLooks_53 (S : rr_T) (x1 : Int32) (x2 : Int32) (a1 : Int32) : Option Int32 :=
  if inb x1 4000 then
  if (S.2.1 21 x1.toNatClampNeg) ≤ a1 then
    JM_compareLooks_78 S x2 a1 (-1)
  else
    if inb ((20 * x1) + a1) 80000 then
      JM_compareLooks_78 S x2 a1 ((S.2.1 20 ((20 * x1) + a1).toNatClampNeg))
    else none
else none
set_option maxRecDepth 20000 in
theorem tM_compareLooks_53 {l : Launch} {G : rr_G} (S : rr_T) (x1 : Int32) (x2 : Int32) (a1 : Int32) : RR l G mX11_compareLooks 0 0 fxA rvI (fun _ => mw S) z0 z0 0 0 53 [(0, .ref 0), (1, .int x1), (2, .int x2), (3, .int a1)] [] (mw S) (JM_compareLooks_53 S x1 x2 a1) := by
  unfold JM_compareLooks_53
  refine rr_iload_n dX11_compareLooks_53 rfl 3 rfl ?_
  refine rr_aload_n dX11_compareLooks_54 rfl 0 rfl ?_
  refine rr_get (v := .ref 21) cl11 k11_78 (Nat.le_of_ble_eq_true rfl) rfl rfl dX11_compareLooks_55 ?_
  refine rr_iload_n dX11_compareLooks_58 rfl 1 rfl ?_
  refine rr_if (fun z => ?_)
  refine rr_bald (len := 4000) rfl (inb_in z) dX11_compareLooks_59 ?_
  refine rr_icmp_ge (tgt := 77) dX11_compareLooks_60 (by decide) (fun _ => ?_) (fun _ => ?_)
  · refine rr_iconst (v := (-1)) dX11_compareLooks_77 (by decide) ?_
    refine rr_sub [0, 2, 3] rfl ?_
    exact tM_compareLooks_78 S x2 a1 (-1)
  · refine rr_aload_n dX11_compareLooks_63 rfl 0 rfl ?_
    refine rr_get (v := .ref 20) cl11 k11_75 (Nat.le_of_ble_eq_true rfl) rfl rfl dX11_compareLooks_64 ?_
    refine rr_bipush (v := 20) dX11_compareLooks_67 (by decide) ?_
    refine rr_iload_n dX11_compareLooks_69 rfl 1 rfl ?_
    refine rr_imul dX11_compareLooks_70 ?_
    refine rr_iload_n dX11_compareLooks_71 rfl 3 rfl ?_
    refine rr_iadd dX11_compareLooks_72 ?_
    refine rr_if (fun z => ?_)
    refine rr_bald (len := 80000) rfl (inb_in z) dX11_compareLooks_73 ?_
    refine rr_goto (tgt := 78) dX11_compareLooks_74 (by decide) ?_
    refine rr_sub [0, 2, 3] rfl ?_
    exact tM_compareLooks_78 S x2 a1 ((S.2.1 20 ((20 * x1) + a1).toNatClampNeg))
def LM_compareLooks_2 (S : rr_T) (x1 : Int32) (x2 : Int32) (rec2 : Int32 → Option Int32) (a4 : Int32) : Option Int32 :=
  if inb x1 4000 then
  if (S.2.1 21 x1.toNatClampNeg) ≤ a4 then
    JM_compareLooks_53 S x1 x2 a4
  else
    if inb x2 4000 then
      if (S.2.1 21 x2.toNatClampNeg) ≤ a4 then
        JM_compareLooks_53 S x1 x2 a4
      else
        if inb ((20 * x1) + a4) 80000 then
          if inb ((20 * x2) + a4) 80000 then
            if (S.2.1 20 ((20 * x1) + a4).toNatClampNeg) = (S.2.1 20 ((20 * x2) + a4).toNatClampNeg) then
              rec2 ((a4 + 1))
            else
              JM_compareLooks_53 S x1 x2 a4
          else none
        else none
    else none
else none
set_option maxRecDepth 20000 in
theorem tM_compareLooks_2 {l : Launch} {G : rr_G} (S : rr_T) (x1 : Int32) (x2 : Int32) : ∀ (n : Nat) (a : Int32), RR l G mX11_compareLooks 0 0 fxA rvI (fun _ => mw S) z0 z0 0 0 2 [(0, .ref 0), (1, .int x1), (2, .int x2), (3, .int a)] [] (mw S) (rr_loop n (LM_compareLooks_2 S x1 x2) a) := by
  refine rr_lp (α := Int32) 2 (fun a => [(0, .ref 0), (1, .int x1), (2, .int x2), (3, .int a)]) (fun a => (mw S)) (fun rec2 hrec2 a4 => ?_)
  show RR l G mX11_compareLooks 0 0 fxA rvI (fun _ => mw S) z0 z0 0 0 2 [(0, .ref 0), (1, .int x1), (2, .int x2), (3, .int a4)] [] (mw S) (LM_compareLooks_2 S x1 x2 rec2 a4)
  unfold LM_compareLooks_2
  refine rr_iload_n dX11_compareLooks_2 rfl 3 rfl ?_
  refine rr_aload_n dX11_compareLooks_3 rfl 0 rfl ?_
  refine rr_get (v := .ref 21) cl11 k11_78 (Nat.le_of_ble_eq_true rfl) rfl rfl dX11_compareLooks_4 ?_
  refine rr_iload_n dX11_compareLooks_7 rfl 1 rfl ?_
  refine rr_if (fun z => ?_)
  refine rr_bald (len := 4000) rfl (inb_in z) dX11_compareLooks_8 ?_
  refine rr_icmp_ge (tgt := 53) dX11_compareLooks_9 (by decide) (fun _ => ?_) (fun _ => ?_)
  · exact tM_compareLooks_53 S x1 x2 a4
  · refine rr_iload_n dX11_compareLooks_12 rfl 3 rfl ?_
    refine rr_aload_n dX11_compareLooks_13 rfl 0 rfl ?_
    refine rr_get (v := .ref 21) cl11 k11_78 (Nat.le_of_ble_eq_true rfl) rfl rfl dX11_compareLooks_14 ?_
    refine rr_iload_n dX11_compareLooks_17 rfl 2 rfl ?_
    refine rr_if (fun z => ?_)
    refine rr_bald (len := 4000) rfl (inb_in z) dX11_compareLooks_18 ?_
    refine rr_icmp_ge (tgt := 53) dX11_compareLooks_19 (by decide) (fun _ => ?_) (fun _ => ?_)
    · exact tM_compareLooks_53 S x1 x2 a4
    · refine rr_aload_n dX11_compareLooks_22 rfl 0 rfl ?_
      refine rr_get (v := .ref 20) cl11 k11_75 (Nat.le_of_ble_eq_true rfl) rfl rfl dX11_compareLooks_23 ?_
      refine rr_bipush (v := 20) dX11_compareLooks_26 (by decide) ?_
      refine rr_iload_n dX11_compareLooks_28 rfl 1 rfl ?_
      refine rr_imul dX11_compareLooks_29 ?_
      refine rr_iload_n dX11_compareLooks_30 rfl 3 rfl ?_
      refine rr_iadd dX11_compareLooks_31 ?_
      refine rr_if (fun z => ?_)
      refine rr_bald (len := 80000) rfl (inb_in z) dX11_compareLooks_32 ?_
      refine rr_aload_n dX11_compareLooks_33 rfl 0 rfl ?_
      refine rr_get (v := .ref 20) cl11 k11_75 (Nat.le_of_ble_eq_true rfl) rfl rfl dX11_compareLooks_34 ?_
      refine rr_bipush (v := 20) dX11_compareLooks_37 (by decide) ?_
      refine rr_iload_n dX11_compareLooks_39 rfl 2 rfl ?_
      refine rr_imul dX11_compareLooks_40 ?_
      refine rr_iload_n dX11_compareLooks_41 rfl 3 rfl ?_
      refine rr_iadd dX11_compareLooks_42 ?_
      refine rr_if (fun z => ?_)
      refine rr_bald (len := 80000) rfl (inb_in z) dX11_compareLooks_43 ?_
      refine rr_icmp_ne (tgt := 53) dX11_compareLooks_44 (by decide) (fun _ => ?_) (fun _ => ?_)
      · exact tM_compareLooks_53 S x1 x2 a4
      · refine rr_iinc (lv' := [(3, .int (a4 + 1)), (0, .ref 0), (1, .int x1), (2, .int x2)]) dX11_compareLooks_47 3 rfl (by decide) rfl ?_
        refine rr_goto (tgt := 2) dX11_compareLooks_50 (by decide) ?_
        refine rr_sub [1, 2, 3, 0] rfl ?_
        exact hrec2 ((a4 + 1))
def fM_compareLooks (S : rr_T) (x1 : Int32) (x2 : Int32) : Option Int32 :=
  rr_loop FU (LM_compareLooks_2 S x1 x2) 0
set_option maxRecDepth 20000 in
theorem tM_compareLooks {l : Launch} {G : rr_G} (S : rr_T) (x1 : Int32) (x2 : Int32) : TT l G mX11_compareLooks 0 0 fxA rvI (fun _ => mw S) z0 z0 0 0 [.ref 0, .int x1, .int x2] (mw S) (fM_compareLooks S x1 x2) := by
  refine TT.by (by decide) (Nat.le_of_ble_eq_true rfl) (lv := [(0, .ref 0), (1, .int x1), (2, .int x2)]) rfl ?_
  show RR l G mX11_compareLooks 0 0 fxA rvI (fun _ => mw S) z0 z0 0 0 0 [(0, .ref 0), (1, .int x1), (2, .int x2)] [] (mw S) (fM_compareLooks S x1 x2)
  unfold fM_compareLooks
  refine rr_iconst (v := 0) dX11_compareLooks_0 (by decide) ?_
  refine rr_istore_n (lv' := [(3, .int 0), (0, .ref 0), (1, .int x1), (2, .int x2)]) dX11_compareLooks_1 rfl (by decide) rfl ?_
  refine rr_sub [1, 2, 3, 0] rfl ?_
  exact tM_compareLooks_2 S x1 x2 FU 0
def JM_placeOf_54 (rec7 : (Int32 × Int32) → Option Int32) (a2 : Int32 × Int32) (v3 : Int32) (r4 : Int32) (a5 : Int32) : Option Int32 :=
  if 0 ≤ r4 then
  rec7 (a5, a2.2)
else
  rec7 (a5, v3)
set_option maxRecDepth 20000 in
theorem tM_placeOf_54 {l : Launch} {G : rr_G} (rec7 : (Int32 × Int32) → Option Int32) (a2 : Int32 × Int32) (v3 : Int32) (r4 : Int32) (S : rr_T) (x1 : Int32) (hrec7 : ∀ a : Int32 × Int32, RR l G mX11_placeOf 1 25 fxA rvI (fun _ => mw S) z0 z0 0 0 7 [(0, .ref 0), (1, .int x1), (2, .int a.1), (3, .int a.2)] [] (mw S) (rec7 a)) (a5 : Int32) : RR l G mX11_placeOf 1 25 fxA rvI (fun _ => mw S) z0 z0 0 0 54 [(0, .ref 0), (1, .int x1), (3, .int a2.2), (4, .int v3), (5, .int r4)] [.int a5] (mw S) (JM_placeOf_54 rec7 a2 v3 r4 a5) := by
  unfold JM_placeOf_54
  refine rr_istore_n (lv' := [(2, .int a5), (0, .ref 0), (1, .int x1), (3, .int a2.2), (4, .int v3), (5, .int r4)]) dX11_placeOf_54 rfl (by decide) rfl ?_
  refine rr_iload dX11_placeOf_55 5 rfl ?_
  refine rr_if_ge (tgt := 65) dX11_placeOf_57 (by decide) (fun _ => ?_) (fun _ => ?_)
  · refine rr_iload_n dX11_placeOf_65 rfl 3 rfl ?_
    refine rr_istore_n (lv' := [(3, .int a2.2), (2, .int a5), (0, .ref 0), (1, .int x1), (4, .int v3), (5, .int r4)]) dX11_placeOf_66 rfl (by decide) rfl ?_
    refine rr_goto (tgt := 7) dX11_placeOf_67 (by decide) ?_
    refine rr_sub [2, 3, 1, 0] rfl ?_
    exact hrec7 (a5, a2.2)
  · refine rr_iload dX11_placeOf_60 4 rfl ?_
    refine rr_goto (tgt := 66) dX11_placeOf_62 (by decide) ?_
    refine rr_istore_n (lv' := [(3, .int v3), (2, .int a5), (0, .ref 0), (1, .int x1), (4, .int v3), (5, .int r4)]) dX11_placeOf_66 rfl (by decide) rfl ?_
    refine rr_goto (tgt := 7) dX11_placeOf_67 (by decide) ?_
    refine rr_sub [2, 3, 1, 0] rfl ?_
    exact hrec7 (a5, v3)
def LM_placeOf_7 (S : rr_T) (x1 : Int32) (rec7 : (Int32 × Int32) → Option Int32) (a2 : Int32 × Int32) : Option Int32 :=
  if a2.2 ≤ a2.1 then
  some ((a2.1 - 5000))
else
  rr_l (((a2.1 + a2.2) / 2)) (fun v3 =>
    if inb v3 4000 then
    (fM_compareLooks S x1 ((S.2.1 24 v3.toNatClampNeg))).bind (fun r4 =>
      if r4 = 0 then
      some v3
    else
      if r4 ≤ 0 then
        JM_placeOf_54 rec7 a2 v3 r4 a2.1
      else
        JM_placeOf_54 rec7 a2 v3 r4 ((v3 + 1)))
  else none)
set_option maxRecDepth 20000 in
theorem tM_placeOf_7 {l : Launch} {G : rr_G} (S : rr_T) (x1 : Int32) : ∀ (n : Nat) (a : Int32 × Int32), RR l G mX11_placeOf 1 25 fxA rvI (fun _ => mw S) z0 z0 0 0 7 [(0, .ref 0), (1, .int x1), (2, .int a.1), (3, .int a.2)] [] (mw S) (rr_loop n (LM_placeOf_7 S x1) a) := by
  refine rr_lp (α := Int32 × Int32) 7 (fun a => [(0, .ref 0), (1, .int x1), (2, .int a.1), (3, .int a.2)]) (fun a => (mw S)) (fun rec7 hrec7 a2 => ?_)
  show RR l G mX11_placeOf 1 25 fxA rvI (fun _ => mw S) z0 z0 0 0 7 [(0, .ref 0), (1, .int x1), (2, .int a2.1), (3, .int a2.2)] [] (mw S) (LM_placeOf_7 S x1 rec7 a2)
  unfold LM_placeOf_7
  refine rr_iload_n dX11_placeOf_7 rfl 2 rfl ?_
  refine rr_iload_n dX11_placeOf_8 rfl 3 rfl ?_
  refine rr_icmp_ge (tgt := 70) dX11_placeOf_9 (by decide) (fun _ => ?_) (fun _ => ?_)
  · refine rr_iload_n dX11_placeOf_70 rfl 2 rfl ?_
    refine rr_sipush (v := 5000) dX11_placeOf_71 (by decide) ?_
    refine rr_isub dX11_placeOf_74 ?_
    exact rr_iret dX11_placeOf_75 rfl rfl rfl rfl rfl
  · refine rr_iload_n dX11_placeOf_12 rfl 2 rfl ?_
    refine rr_iload_n dX11_placeOf_13 rfl 3 rfl ?_
    refine rr_iadd dX11_placeOf_14 ?_
    refine rr_iconst (v := 2) dX11_placeOf_15 (by decide) ?_
    refine rr_idiv dX11_placeOf_16 (by decide) ?_
    refine rr_letI (fun v3 => ?_)
    refine rr_istore (lv' := [(4, .int v3), (0, .ref 0), (1, .int x1), (2, .int a2.1), (3, .int a2.2)]) dX11_placeOf_17 (by decide) rfl ?_
    refine rr_aload_n dX11_placeOf_19 rfl 1 rfl ?_
    refine rr_iload_n dX11_placeOf_20 rfl 2 rfl ?_
    refine rr_aload_n dX11_placeOf_21 rfl 1 rfl ?_
    refine rr_get (v := .ref 24) cl11 k11_87 (Nat.le_of_ble_eq_true rfl) rfl rfl dX11_placeOf_22 ?_
    refine rr_iload dX11_placeOf_25 0 rfl ?_
    refine rr_if (fun z => ?_)
    refine rr_iald (len := 4000) rfl (inb_in z) dX11_placeOf_27 ?_
    refine rr_vi (As := [.int x1, .int (S.2.1 24 v3.toNatClampNeg)]) (rest := []) (tM_compareLooks S x1 ((S.2.1 24 v3.toNatClampNeg))) v11_252 rfl rfl ⟨Nat.le_of_ble_eq_true rfl, Nat.le_of_ble_eq_true rfl⟩ rfl rfl (Nat.le_of_ble_eq_true rfl) rfl dX11_placeOf_28 (fun r4 => ?_)
    refine rr_istore (lv' := [(5, .int r4), (4, .int v3), (0, .ref 0), (1, .int x1), (2, .int a2.1), (3, .int a2.2)]) dX11_placeOf_31 (by decide) rfl ?_
    refine rr_iload dX11_placeOf_33 0 rfl ?_
    refine rr_if_ne (tgt := 41) dX11_placeOf_35 (by decide) (fun _ => ?_) (fun _ => ?_)
    · refine rr_iload dX11_placeOf_41 0 rfl ?_
      refine rr_if_le (tgt := 53) dX11_placeOf_43 (by decide) (fun _ => ?_) (fun _ => ?_)
      · refine rr_iload_n dX11_placeOf_53 rfl 4 rfl ?_
        refine rr_sub [2, 3, 5, 1, 0] rfl ?_
        exact tM_placeOf_54 rec7 a2 v3 r4 S x1 hrec7 a2.1
      · refine rr_iload dX11_placeOf_46 1 rfl ?_
        refine rr_iconst (v := 1) dX11_placeOf_48 (by decide) ?_
        refine rr_iadd dX11_placeOf_49 ?_
        refine rr_goto (tgt := 54) dX11_placeOf_50 (by decide) ?_
        refine rr_sub [2, 3, 5, 1, 0] rfl ?_
        exact tM_placeOf_54 rec7 a2 v3 r4 S x1 hrec7 ((v3 + 1))
    · refine rr_iload dX11_placeOf_38 1 rfl ?_
      exact rr_iret dX11_placeOf_40 rfl rfl rfl rfl rfl
def fM_placeOf (S : rr_T) (x1 : Int32) : Option Int32 :=
  rr_l ((S.1 33)) (fun v1 =>
  rr_loop FU (LM_placeOf_7 S x1) (0, v1))
set_option maxRecDepth 20000 in
theorem tM_placeOf {l : Launch} {G : rr_G} (S : rr_T) (x1 : Int32) : TT l G mX11_placeOf 1 25 fxA rvI (fun _ => mw S) z0 z0 0 0 [.ref 0, .int x1] (mw S) (fM_placeOf S x1) := by
  refine TT.by (by decide) (Nat.le_of_ble_eq_true rfl) (lv := [(0, .ref 0), (1, .int x1)]) rfl ?_
  show RR l G mX11_placeOf 1 25 fxA rvI (fun _ => mw S) z0 z0 0 0 0 [(0, .ref 0), (1, .int x1)] [] (mw S) (fM_placeOf S x1)
  unfold fM_placeOf
  refine rr_iconst (v := 0) dX11_placeOf_0 (by decide) ?_
  refine rr_istore_n (lv' := [(2, .int 0), (0, .ref 0), (1, .int x1)]) dX11_placeOf_1 rfl (by decide) rfl ?_
  refine rr_aload_n dX11_placeOf_2 rfl 1 rfl ?_
  refine rr_get (v := .int (S.1 33)) cl11 k11_249 (Nat.le_of_ble_eq_true rfl) rfl rfl dX11_placeOf_3 ?_
  refine rr_letI (fun v1 => ?_)
  refine rr_istore_n (lv' := [(3, .int v1), (2, .int 0), (0, .ref 0), (1, .int x1)]) dX11_placeOf_6 rfl (by decide) rfl ?_
  refine rr_sub [2, 3, 1, 0] rfl ?_
  exact tM_placeOf_7 S x1 FU (0, v1)
def LM_playAll_183 (rec183 : (Int32 × rr_T) → Option (Int32 × rr_T)) (a5 : Int32 × rr_T) : Option (Int32 × rr_T) :=
  if (a5.2.1 22) ≤ a5.1 then
  some ((1, a5.2))
else
  (fM_placeOf a5.2 a5.1).bind (fun r6 =>
    if inb a5.1 4000 then
    rr_l (pA a5.2 25 a5.1 r6) (fun S7 =>
      rec183 ((a5.1 + 1), S7))
  else none)
set_option maxRecDepth 20000 in
theorem tM_playAll_183 {l : Launch} {G : rr_G} : ∀ (n : Nat) (a : Int32 × rr_T), RR l G mX11_playAll 6 134 fxA rvIS (fun q => mw q.2) z0 z0 0 0 183 [(0, .ref 0), (1, .int a.1)] [] (mw a.2) (rr_loop n (LM_playAll_183) a) := by
  refine rr_lp (α := Int32 × rr_T) 183 (fun a => [(0, .ref 0), (1, .int a.1)]) (fun a => (mw a.2)) (fun rec183 hrec183 a5 => ?_)
  show RR l G mX11_playAll 6 134 fxA rvIS (fun q => mw q.2) z0 z0 0 0 183 [(0, .ref 0), (1, .int a5.1)] [] (mw a5.2) (LM_playAll_183 rec183 a5)
  unfold LM_playAll_183
  refine rr_iload_n dX11_playAll_183 rfl 1 rfl ?_
  refine rr_aload_n dX11_playAll_184 rfl 0 rfl ?_
  refine rr_get (v := .int (a5.2.1 22)) cl11 k11_205 (Nat.le_of_ble_eq_true rfl) rfl rfl dX11_playAll_185 ?_
  refine rr_icmp_ge (tgt := 208) dX11_playAll_188 (by decide) (fun _ => ?_) (fun _ => ?_)
  · refine rr_iconst (v := 1) dX11_playAll_208 (by decide) ?_
    exact rr_zret dX11_playAll_209 rfl (by decide) rfl rfl rfl rfl
  · refine rr_aload_n dX11_playAll_191 rfl 0 rfl ?_
    refine rr_get (v := .ref 25) cl11 k11_90 (Nat.le_of_ble_eq_true rfl) rfl rfl dX11_playAll_192 ?_
    refine rr_iload_n dX11_playAll_195 rfl 1 rfl ?_
    refine rr_aload_n dX11_playAll_196 rfl 0 rfl ?_
    refine rr_iload_n dX11_playAll_197 rfl 1 rfl ?_
    refine rr_vi (As := [.int a5.1]) (rest := [.int a5.1, .ref 25]) (tM_placeOf a5.2 a5.1) v11_259 rfl rfl ⟨Nat.le_of_ble_eq_true rfl, Nat.le_of_ble_eq_true rfl⟩ rfl rfl (Nat.le_of_ble_eq_true rfl) rfl dX11_playAll_198 (fun r6 => ?_)
    refine rr_if (fun z => ?_)
    refine rr_iast (len := 4000) rfl (inb_in z) dX11_playAll_201 (ma25 a5.2 a5.1 r6) ?_
    refine rr_letS (W := mw) (fun S7 => ?_)
    refine rr_iinc (lv' := [(1, .int (a5.1 + 1)), (0, .ref 0)]) dX11_playAll_202 1 rfl (by decide) rfl ?_
    refine rr_goto (tgt := 183) dX11_playAll_205 (by decide) ?_
    refine rr_sub [1, 0] rfl ?_
    exact hrec183 ((a5.1 + 1), S7)
def JM_playAll_181 (a4 : rr_T) : Option (Int32 × rr_T) :=
  rr_loop FU (LM_playAll_183) (0, a4)
set_option maxRecDepth 20000 in
theorem tM_playAll_181 {l : Launch} {G : rr_G} (a4 : rr_T) : RR l G mX11_playAll 6 134 fxA rvIS (fun q => mw q.2) z0 z0 0 0 181 [(0, .ref 0)] [] (mw a4) (JM_playAll_181 a4) := by
  unfold JM_playAll_181
  refine rr_iconst (v := 0) dX11_playAll_181 (by decide) ?_
  refine rr_istore_n (lv' := [(1, .int 0), (0, .ref 0)]) dX11_playAll_182 rfl (by decide) rfl ?_
  refine rr_sub [1, 0] rfl ?_
  exact tM_playAll_183 FU (0, a4)
def JM_playAll_154 (rec30 : (Int32 × rr_T) → Option (Int32 × rr_T)) (a8 : Int32 × rr_T) (r15 : Int32) (a17 : rr_T) : Option (Int32 × rr_T) :=
  if inb (r15 + 5000) 4000 then
  rr_l (pA a17 24 ((r15 + 5000)) a8.1) (fun S18 =>
    rr_l (pI S18 33 (((S18.1 33) + 1))) (fun S19 =>
    rec30 ((a8.1 + 1), S19)))
else none
set_option maxRecDepth 20000 in
theorem tM_playAll_154 {l : Launch} {G : rr_G} (rec30 : (Int32 × rr_T) → Option (Int32 × rr_T)) (a8 : Int32 × rr_T) (r15 : Int32) (hrec30 : ∀ a : Int32 × rr_T, RR l G mX11_playAll 6 134 fxA rvIS (fun q => mw q.2) z0 z0 0 0 30 [(0, .ref 0), (1, .int a.1)] [] (mw a.2) (rec30 a)) (a17 : rr_T) : RR l G mX11_playAll 6 134 fxA rvIS (fun q => mw q.2) z0 z0 0 0 154 [(0, .ref 0), (1, .int a8.1), (2, .int r15)] [] (mw a17) (JM_playAll_154 rec30 a8 r15 a17) := by
  unfold JM_playAll_154
  refine rr_aload_n dX11_playAll_154 rfl 0 rfl ?_
  refine rr_get (v := .ref 24) cl11 k11_87 (Nat.le_of_ble_eq_true rfl) rfl rfl dX11_playAll_155 ?_
  refine rr_iload_n dX11_playAll_158 rfl 2 rfl ?_
  refine rr_sipush (v := 5000) dX11_playAll_159 (by decide) ?_
  refine rr_iadd dX11_playAll_162 ?_
  refine rr_iload_n dX11_playAll_163 rfl 1 rfl ?_
  refine rr_if (fun z => ?_)
  refine rr_iast (len := 4000) rfl (inb_in z) dX11_playAll_164 (ma24 a17 ((r15 + 5000)) a8.1) ?_
  refine rr_letS (W := mw) (fun S18 => ?_)
  refine rr_aload_n dX11_playAll_165 rfl 0 rfl ?_
  refine rr_dup dX11_playAll_166 rfl ?_
  refine rr_get (v := .int (S18.1 33)) cl11 k11_249 (Nat.le_of_ble_eq_true rfl) rfl rfl dX11_playAll_167 ?_
  refine rr_iconst (v := 1) dX11_playAll_170 (by decide) ?_
  refine rr_iadd dX11_playAll_171 ?_
  refine rr_put cl11 k11_249 (Nat.le_of_ble_eq_true rfl) rfl rfl rfl rfl (Nat.le_of_ble_eq_true rfl) dX11_playAll_172 (mp33 S18 (((S18.1 33) + 1))) ?_
  refine rr_letS (W := mw) (fun S19 => ?_)
  refine rr_iinc (lv' := [(1, .int (a8.1 + 1)), (0, .ref 0), (2, .int r15)]) dX11_playAll_175 1 rfl (by decide) rfl ?_
  refine rr_goto (tgt := 30) dX11_playAll_178 (by decide) ?_
  refine rr_sub [1, 0] rfl ?_
  exact hrec30 ((a8.1 + 1), S19)
def LM_playAll_125 (rec30 : (Int32 × rr_T) → Option (Int32 × rr_T)) (a8 : Int32 × rr_T) (r15 : Int32) (rec125 : (Int32 × rr_T) → Option (Int32 × rr_T)) (a20 : Int32 × rr_T) : Option (Int32 × rr_T) :=
  if a20.1 ≤ (r15 + 5000) then
  JM_playAll_154 rec30 a8 r15 a20.2
else
  if inb (a20.1 - 1) 4000 then
    if inb a20.1 4000 then
      rr_l (pA a20.2 24 a20.1 ((a20.2.2.1 24 (a20.1 - 1).toNatClampNeg))) (fun S21 =>
        rec125 ((a20.1 + (-1)), S21))
    else none
  else none
set_option maxRecDepth 20000 in
theorem tM_playAll_125 {l : Launch} {G : rr_G} (rec30 : (Int32 × rr_T) → Option (Int32 × rr_T)) (a8 : Int32 × rr_T) (r15 : Int32) (hrec30 : ∀ a : Int32 × rr_T, RR l G mX11_playAll 6 134 fxA rvIS (fun q => mw q.2) z0 z0 0 0 30 [(0, .ref 0), (1, .int a.1)] [] (mw a.2) (rec30 a)) : ∀ (n : Nat) (a : Int32 × rr_T), RR l G mX11_playAll 6 134 fxA rvIS (fun q => mw q.2) z0 z0 0 0 125 [(0, .ref 0), (1, .int a8.1), (2, .int r15), (3, .int a.1)] [] (mw a.2) (rr_loop n (LM_playAll_125 rec30 a8 r15) a) := by
  refine rr_lp (α := Int32 × rr_T) 125 (fun a => [(0, .ref 0), (1, .int a8.1), (2, .int r15), (3, .int a.1)]) (fun a => (mw a.2)) (fun rec125 hrec125 a20 => ?_)
  show RR l G mX11_playAll 6 134 fxA rvIS (fun q => mw q.2) z0 z0 0 0 125 [(0, .ref 0), (1, .int a8.1), (2, .int r15), (3, .int a20.1)] [] (mw a20.2) (LM_playAll_125 rec30 a8 r15 rec125 a20)
  unfold LM_playAll_125
  refine rr_iload_n dX11_playAll_125 rfl 3 rfl ?_
  refine rr_iload_n dX11_playAll_126 rfl 2 rfl ?_
  refine rr_sipush (v := 5000) dX11_playAll_127 (by decide) ?_
  refine rr_iadd dX11_playAll_130 ?_
  refine rr_icmp_le (tgt := 154) dX11_playAll_131 (by decide) (fun _ => ?_) (fun _ => ?_)
  · refine rr_sub [0, 1, 2] rfl ?_
    exact tM_playAll_154 rec30 a8 r15 hrec30 a20.2
  · refine rr_aload_n dX11_playAll_134 rfl 0 rfl ?_
    refine rr_get (v := .ref 24) cl11 k11_87 (Nat.le_of_ble_eq_true rfl) rfl rfl dX11_playAll_135 ?_
    refine rr_iload_n dX11_playAll_138 rfl 3 rfl ?_
    refine rr_aload_n dX11_playAll_139 rfl 0 rfl ?_
    refine rr_get (v := .ref 24) cl11 k11_87 (Nat.le_of_ble_eq_true rfl) rfl rfl dX11_playAll_140 ?_
    refine rr_iload_n dX11_playAll_143 rfl 3 rfl ?_
    refine rr_iconst (v := 1) dX11_playAll_144 (by decide) ?_
    refine rr_isub dX11_playAll_145 ?_
    refine rr_if (fun z => ?_)
    refine rr_iald (len := 4000) rfl (inb_in z) dX11_playAll_146 ?_
    refine rr_if (fun z => ?_)
    refine rr_iast (len := 4000) rfl (inb_in z) dX11_playAll_147 (ma24 a20.2 a20.1 ((a20.2.2.1 24 (a20.1 - 1).toNatClampNeg))) ?_
    refine rr_letS (W := mw) (fun S21 => ?_)
    refine rr_iinc (lv' := [(3, .int (a20.1 + (-1))), (0, .ref 0), (1, .int a8.1), (2, .int r15)]) dX11_playAll_148 3 rfl (by decide) rfl ?_
    refine rr_goto (tgt := 125) dX11_playAll_151 (by decide) ?_
    refine rr_sub [1, 2, 3, 0] rfl ?_
    exact hrec125 ((a20.1 + (-1)), S21)
def JM_playAll_110 (rec30 : (Int32 × rr_T) → Option (Int32 × rr_T)) (a8 : Int32 × rr_T) (a14 : rr_T) : Option (Int32 × rr_T) :=
  (fM_placeOf a14 a8.1).bind (fun r15 =>
  if 0 ≤ r15 then
  rec30 ((a8.1 + 1), a14)
else
  rr_l ((a14.1 33)) (fun v16 =>
    rr_loop FU (LM_playAll_125 rec30 a8 r15) (v16, a14)))
set_option maxRecDepth 20000 in
theorem tM_playAll_110 {l : Launch} {G : rr_G} (rec30 : (Int32 × rr_T) → Option (Int32 × rr_T)) (a8 : Int32 × rr_T) (hrec30 : ∀ a : Int32 × rr_T, RR l G mX11_playAll 6 134 fxA rvIS (fun q => mw q.2) z0 z0 0 0 30 [(0, .ref 0), (1, .int a.1)] [] (mw a.2) (rec30 a)) (a14 : rr_T) : RR l G mX11_playAll 6 134 fxA rvIS (fun q => mw q.2) z0 z0 0 0 110 [(0, .ref 0), (1, .int a8.1)] [] (mw a14) (JM_playAll_110 rec30 a8 a14) := by
  unfold JM_playAll_110
  refine rr_aload_n dX11_playAll_110 rfl 0 rfl ?_
  refine rr_iload_n dX11_playAll_111 rfl 1 rfl ?_
  refine rr_vi (As := [.int a8.1]) (rest := []) (tM_placeOf a14 a8.1) v11_259 rfl rfl ⟨Nat.le_of_ble_eq_true rfl, Nat.le_of_ble_eq_true rfl⟩ rfl rfl (Nat.le_of_ble_eq_true rfl) rfl dX11_playAll_112 (fun r15 => ?_)
  refine rr_istore_n (lv' := [(2, .int r15), (0, .ref 0), (1, .int a8.1)]) dX11_playAll_115 rfl (by decide) rfl ?_
  refine rr_iload_n dX11_playAll_116 rfl 0 rfl ?_
  refine rr_if_ge (tgt := 175) dX11_playAll_117 (by decide) (fun _ => ?_) (fun _ => ?_)
  · refine rr_iinc (lv' := [(1, .int (a8.1 + 1)), (2, .int r15), (0, .ref 0)]) dX11_playAll_175 2 rfl (by decide) rfl ?_
    refine rr_goto (tgt := 30) dX11_playAll_178 (by decide) ?_
    refine rr_sub [2, 0] rfl ?_
    exact hrec30 ((a8.1 + 1), a14)
  · refine rr_aload_n dX11_playAll_120 rfl 1 rfl ?_
    refine rr_get (v := .int (a14.1 33)) cl11 k11_249 (Nat.le_of_ble_eq_true rfl) rfl rfl dX11_playAll_121 ?_
    refine rr_letI (fun v16 => ?_)
    refine rr_istore_n (lv' := [(3, .int v16), (2, .int r15), (0, .ref 0), (1, .int a8.1)]) dX11_playAll_124 rfl (by decide) rfl ?_
    refine rr_sub [2, 3, 1, 0] rfl ?_
    exact tM_playAll_125 rec30 a8 r15 hrec30 FU (v16, a14)
def LM_playAll_78 (rec30 : (Int32 × rr_T) → Option (Int32 × rr_T)) (a8 : Int32 × rr_T) (rec78 : (Int32 × rr_T) → Option (Int32 × rr_T)) (a22 : Int32 × rr_T) : Option (Int32 × rr_T) :=
  if (a22.2.1 50) ≤ a22.1 then
  JM_playAll_110 rec30 a8 a22.2
else
  if inb a22.1 20 then
    if inb ((20 * a8.1) + a22.1) 80000 then
      rr_l (pA a22.2 20 (((20 * a8.1) + a22.1)) (vp_nar .byte ((a22.2.2.1 36 a22.1.toNatClampNeg).toInt8.toInt32))) (fun S23 =>
        rec78 ((a22.1 + 1), S23))
    else none
  else none
set_option maxRecDepth 20000 in
theorem tM_playAll_78 {l : Launch} {G : rr_G} (rec30 : (Int32 × rr_T) → Option (Int32 × rr_T)) (a8 : Int32 × rr_T) (hrec30 : ∀ a : Int32 × rr_T, RR l G mX11_playAll 6 134 fxA rvIS (fun q => mw q.2) z0 z0 0 0 30 [(0, .ref 0), (1, .int a.1)] [] (mw a.2) (rec30 a)) : ∀ (n : Nat) (a : Int32 × rr_T), RR l G mX11_playAll 6 134 fxA rvIS (fun q => mw q.2) z0 z0 0 0 78 [(0, .ref 0), (1, .int a8.1), (2, .int a.1)] [] (mw a.2) (rr_loop n (LM_playAll_78 rec30 a8) a) := by
  refine rr_lp (α := Int32 × rr_T) 78 (fun a => [(0, .ref 0), (1, .int a8.1), (2, .int a.1)]) (fun a => (mw a.2)) (fun rec78 hrec78 a22 => ?_)
  show RR l G mX11_playAll 6 134 fxA rvIS (fun q => mw q.2) z0 z0 0 0 78 [(0, .ref 0), (1, .int a8.1), (2, .int a22.1)] [] (mw a22.2) (LM_playAll_78 rec30 a8 rec78 a22)
  unfold LM_playAll_78
  refine rr_iload_n dX11_playAll_78 rfl 2 rfl ?_
  refine rr_aload_n dX11_playAll_79 rfl 0 rfl ?_
  refine rr_get (v := .int (a22.2.1 50)) cl11 k11_227 (Nat.le_of_ble_eq_true rfl) rfl rfl dX11_playAll_80 ?_
  refine rr_icmp_ge (tgt := 110) dX11_playAll_83 (by decide) (fun _ => ?_) (fun _ => ?_)
  · refine rr_sub [0, 1] rfl ?_
    exact tM_playAll_110 rec30 a8 hrec30 a22.2
  · refine rr_aload_n dX11_playAll_86 rfl 0 rfl ?_
    refine rr_get (v := .ref 20) cl11 k11_75 (Nat.le_of_ble_eq_true rfl) rfl rfl dX11_playAll_87 ?_
    refine rr_bipush (v := 20) dX11_playAll_90 (by decide) ?_
    refine rr_iload_n dX11_playAll_92 rfl 1 rfl ?_
    refine rr_imul dX11_playAll_93 ?_
    refine rr_iload_n dX11_playAll_94 rfl 2 rfl ?_
    refine rr_iadd dX11_playAll_95 ?_
    refine rr_aload_n dX11_playAll_96 rfl 0 rfl ?_
    refine rr_get (v := .ref 36) cl11 k11_123 (Nat.le_of_ble_eq_true rfl) rfl rfl dX11_playAll_97 ?_
    refine rr_iload_n dX11_playAll_100 rfl 2 rfl ?_
    refine rr_if (fun z => ?_)
    refine rr_iald (len := 20) rfl (inb_in z) dX11_playAll_101 ?_
    refine rr_i2b dX11_playAll_102 ?_
    refine rr_if (fun z => ?_)
    refine rr_bast (len := 80000) rfl (inb_in z) dX11_playAll_103 (ma20 a22.2 (((20 * a8.1) + a22.1)) ((a22.2.2.1 36 a22.1.toNatClampNeg).toInt8.toInt32)) ?_
    refine rr_letS (W := mw) (fun S23 => ?_)
    refine rr_iinc (lv' := [(2, .int (a22.1 + 1)), (0, .ref 0), (1, .int a8.1)]) dX11_playAll_104 2 rfl (by decide) rfl ?_
    refine rr_goto (tgt := 78) dX11_playAll_107 (by decide) ?_
    refine rr_sub [1, 2, 0] rfl ?_
    exact hrec78 ((a22.1 + 1), S23)
def LM_playAll_30 (rec30 : (Int32 × rr_T) → Option (Int32 × rr_T)) (a8 : Int32 × rr_T) : Option (Int32 × rr_T) :=
  if (a8.2.1 22) ≤ a8.1 then
  JM_playAll_181 a8.2
else
  (fM_load a8.2 a8.1).bind (fun S9 =>
    (fM_playHeap S9).bind (fun q10 =>
    if inb a8.1 4000 then
    rr_l (pA q10.2 22 a8.1 (vp_nar .byte q10.1.toInt8.toInt32)) (fun S11 =>
      if inb a8.1 4000 then
      rr_l (pA S11 23 a8.1 (vp_nar .byte ((S11.1 52).toInt8.toInt32))) (fun S12 =>
        if inb a8.1 4000 then
        rr_l (pA S12 21 a8.1 (vp_nar .byte ((S12.1 50).toInt8.toInt32))) (fun S13 =>
          rr_loop FU (LM_playAll_78 rec30 a8) (0, S13))
      else none)
    else none)
  else none))
set_option maxRecDepth 20000 in
theorem tM_playAll_30 {l : Launch} {G : rr_G} : ∀ (n : Nat) (a : Int32 × rr_T), RR l G mX11_playAll 6 134 fxA rvIS (fun q => mw q.2) z0 z0 0 0 30 [(0, .ref 0), (1, .int a.1)] [] (mw a.2) (rr_loop n (LM_playAll_30) a) := by
  refine rr_lp (α := Int32 × rr_T) 30 (fun a => [(0, .ref 0), (1, .int a.1)]) (fun a => (mw a.2)) (fun rec30 hrec30 a8 => ?_)
  show RR l G mX11_playAll 6 134 fxA rvIS (fun q => mw q.2) z0 z0 0 0 30 [(0, .ref 0), (1, .int a8.1)] [] (mw a8.2) (LM_playAll_30 rec30 a8)
  unfold LM_playAll_30
  refine rr_iload_n dX11_playAll_30 rfl 1 rfl ?_
  refine rr_aload_n dX11_playAll_31 rfl 0 rfl ?_
  refine rr_get (v := .int (a8.2.1 22)) cl11 k11_205 (Nat.le_of_ble_eq_true rfl) rfl rfl dX11_playAll_32 ?_
  refine rr_icmp_ge (tgt := 181) dX11_playAll_35 (by decide) (fun _ => ?_) (fun _ => ?_)
  · refine rr_sub [0] rfl ?_
    exact tM_playAll_181 a8.2
  · refine rr_aload_n dX11_playAll_38 rfl 0 rfl ?_
    refine rr_iload_n dX11_playAll_39 rfl 1 rfl ?_
    refine rr_vs (W := mw) (As := [.int a8.1]) (rest := []) (tM_load a8.2 a8.1) v11_221 rfl rfl ⟨Nat.le_of_ble_eq_true rfl, Nat.le_of_ble_eq_true rfl⟩ (fun _ z => z) rfl rfl (Nat.le_of_ble_eq_true rfl) rfl dX11_playAll_40 (fun S9 => ?_)
    refine rr_aload_n dX11_playAll_43 rfl 0 rfl ?_
    refine rr_get (v := .ref 22) cl11 k11_81 (Nat.le_of_ble_eq_true rfl) rfl rfl dX11_playAll_44 ?_
    refine rr_iload_n dX11_playAll_47 rfl 1 rfl ?_
    refine rr_aload_n dX11_playAll_48 rfl 0 rfl ?_
    refine rr_vis (W := mw) (As := []) (rest := [.int a8.1, .ref 22]) (tM_playHeap S9 ) v11_255 rfl rfl ⟨Nat.le_of_ble_eq_true rfl, Nat.le_of_ble_eq_true rfl⟩ (fun _ z => z) rfl rfl (Nat.le_of_ble_eq_true rfl) rfl dX11_playAll_49 (fun q10 => ?_)
    refine rr_i2b dX11_playAll_52 ?_
    refine rr_if (fun z => ?_)
    refine rr_bast (len := 4000) rfl (inb_in z) dX11_playAll_53 (ma22 q10.2 a8.1 q10.1.toInt8.toInt32) ?_
    refine rr_letS (W := mw) (fun S11 => ?_)
    refine rr_aload_n dX11_playAll_54 rfl 0 rfl ?_
    refine rr_get (v := .ref 23) cl11 k11_84 (Nat.le_of_ble_eq_true rfl) rfl rfl dX11_playAll_55 ?_
    refine rr_iload_n dX11_playAll_58 rfl 1 rfl ?_
    refine rr_aload_n dX11_playAll_59 rfl 0 rfl ?_
    refine rr_get (v := .int (S11.1 52)) cl11 k11_243 (Nat.le_of_ble_eq_true rfl) rfl rfl dX11_playAll_60 ?_
    refine rr_i2b dX11_playAll_63 ?_
    refine rr_if (fun z => ?_)
    refine rr_bast (len := 4000) rfl (inb_in z) dX11_playAll_64 (ma23 S11 a8.1 ((S11.1 52).toInt8.toInt32)) ?_
    refine rr_letS (W := mw) (fun S12 => ?_)
    refine rr_aload_n dX11_playAll_65 rfl 0 rfl ?_
    refine rr_get (v := .ref 21) cl11 k11_78 (Nat.le_of_ble_eq_true rfl) rfl rfl dX11_playAll_66 ?_
    refine rr_iload_n dX11_playAll_69 rfl 1 rfl ?_
    refine rr_aload_n dX11_playAll_70 rfl 0 rfl ?_
    refine rr_get (v := .int (S12.1 50)) cl11 k11_227 (Nat.le_of_ble_eq_true rfl) rfl rfl dX11_playAll_71 ?_
    refine rr_i2b dX11_playAll_74 ?_
    refine rr_if (fun z => ?_)
    refine rr_bast (len := 4000) rfl (inb_in z) dX11_playAll_75 (ma21 S12 a8.1 ((S12.1 50).toInt8.toInt32)) ?_
    refine rr_letS (W := mw) (fun S13 => ?_)
    refine rr_iconst (v := 0) dX11_playAll_76 (by decide) ?_
    refine rr_istore_n (lv' := [(2, .int 0), (0, .ref 0), (1, .int a8.1)]) dX11_playAll_77 rfl (by decide) rfl ?_
    refine rr_sub [1, 2, 0] rfl ?_
    exact tM_playAll_78 rec30 a8 hrec30 FU (0, S13)
def fM_playAll (S : rr_T) : Option (Int32 × rr_T) :=
  (fM_freshen S).bind (fun q1 =>
  if q1.1 = 0 then
  some ((0, q1.2))
else
  if (q1.2.1 28) = 0 then
    rr_l (pI q1.2 28 1) (fun S2 =>
      rr_l (pI S2 33 0) (fun S3 =>
      rr_loop FU (LM_playAll_30) (0, S3)))
  else
    some ((1, q1.2)))
set_option maxRecDepth 20000 in
theorem tM_playAll {l : Launch} {G : rr_G} (S : rr_T) : TT l G mX11_playAll 6 134 fxA rvIS (fun q => mw q.2) z0 z0 0 0 [.ref 0] (mw S) (fM_playAll S) := by
  refine TT.by (by decide) (Nat.le_of_ble_eq_true rfl) (lv := [(0, .ref 0)]) rfl ?_
  show RR l G mX11_playAll 6 134 fxA rvIS (fun q => mw q.2) z0 z0 0 0 0 [(0, .ref 0)] [] (mw S) (fM_playAll S)
  unfold fM_playAll
  refine rr_aload_n dX11_playAll_0 rfl 0 rfl ?_
  refine rr_vis (W := mw) (As := []) (rest := []) (tM_freshen S ) v11_217 rfl rfl ⟨Nat.le_of_ble_eq_true rfl, Nat.le_of_ble_eq_true rfl⟩ (fun _ z => z) rfl rfl (Nat.le_of_ble_eq_true rfl) rfl dX11_playAll_1 (fun q1 => ?_)
  refine rr_if_ne (tgt := 9) dX11_playAll_4 (by decide) (fun _ => ?_) (fun _ => ?_)
  · refine rr_aload_n dX11_playAll_9 rfl 0 rfl ?_
    refine rr_get (v := .int (q1.2.1 28)) cl11 k11_130 (Nat.le_of_ble_eq_true rfl) rfl rfl dX11_playAll_10 ?_
    refine rr_if_eq (tgt := 18) dX11_playAll_13 (by decide) (fun _ => ?_) (fun _ => ?_)
    · refine rr_aload_n dX11_playAll_18 rfl 0 rfl ?_
      refine rr_iconst (v := 1) dX11_playAll_19 (by decide) ?_
      refine rr_put cl11 k11_130 (Nat.le_of_ble_eq_true rfl) rfl rfl (by decide) rfl (Nat.le_of_ble_eq_true rfl) dX11_playAll_20 (mp28 q1.2 1) ?_
      refine rr_letS (W := mw) (fun S2 => ?_)
      refine rr_aload_n dX11_playAll_23 rfl 0 rfl ?_
      refine rr_iconst (v := 0) dX11_playAll_24 (by decide) ?_
      refine rr_put cl11 k11_249 (Nat.le_of_ble_eq_true rfl) rfl rfl rfl rfl (Nat.le_of_ble_eq_true rfl) dX11_playAll_25 (mp33 S2 0) ?_
      refine rr_letS (W := mw) (fun S3 => ?_)
      refine rr_iconst (v := 0) dX11_playAll_28 (by decide) ?_
      refine rr_istore_n (lv' := [(1, .int 0), (0, .ref 0)]) dX11_playAll_29 rfl (by decide) rfl ?_
      refine rr_sub [1, 0] rfl ?_
      exact tM_playAll_30 FU (0, S3)
    · refine rr_iconst (v := 1) dX11_playAll_16 (by decide) ?_
      exact rr_zret dX11_playAll_17 rfl (by decide) rfl rfl rfl rfl
  · refine rr_iconst (v := 0) dX11_playAll_7 (by decide) ?_
    exact rr_zret dX11_playAll_8 rfl (by decide) rfl rfl rfl rfl
def fM_ends (S : rr_T) : Option (Int32 × rr_T) :=
  (fM_playAll S).bind (fun q1 =>
  if q1.1 = 0 then
  some (((-104), q1.2))
else
  some (((q1.2.1 33), q1.2)))
set_option maxRecDepth 20000 in
theorem tM_ends {l : Launch} {G : rr_G} (S : rr_T) : TT l G mX11_ends 7 157 fxA rvIS (fun q => mw q.2) z0 z0 0 0 [.ref 0] (mw S) (fM_ends S) := by
  refine TT.by (by decide) (Nat.le_of_ble_eq_true rfl) (lv := [(0, .ref 0)]) rfl ?_
  show RR l G mX11_ends 7 157 fxA rvIS (fun q => mw q.2) z0 z0 0 0 0 [(0, .ref 0)] [] (mw S) (fM_ends S)
  unfold fM_ends
  refine rr_aload_n dX11_ends_0 rfl 0 rfl ?_
  refine rr_vis (W := mw) (As := []) (rest := []) (tM_playAll S ) v11_262 rfl rfl ⟨Nat.le_of_ble_eq_true rfl, Nat.le_of_ble_eq_true rfl⟩ (fun _ z => z) rfl rfl (Nat.le_of_ble_eq_true rfl) rfl dX11_ends_1 (fun q1 => ?_)
  refine rr_if_eq (tgt := 14) dX11_ends_4 (by decide) (fun _ => ?_) (fun _ => ?_)
  · refine rr_bipush (v := (-104)) dX11_ends_14 (by decide) ?_
    exact rr_iret dX11_ends_16 rfl rfl rfl rfl rfl
  · refine rr_aload_n dX11_ends_7 rfl 0 rfl ?_
    refine rr_get (v := .int (q1.2.1 33)) cl11 k11_249 (Nat.le_of_ble_eq_true rfl) rfl rfl dX11_ends_8 ?_
    refine rr_goto (tgt := 16) dX11_ends_11 (by decide) ?_
    exact rr_iret dX11_ends_16 rfl rfl rfl rfl rfl
def JM_end_110 (x2 : Int32) (q1 : Int32 × rr_T) (v3 : Int32) (a4 : Int32 × Int32) : Option (Int32 × rr_T) :=
  if x2 = 0 then
  if inb v3 4000 then
    some (((q1.2.2.1 22 v3.toNatClampNeg), q1.2))
  else none
else
  if x2 = 1 then
    if inb v3 4000 then
      some (((q1.2.2.1 21 v3.toNatClampNeg), q1.2))
    else none
  else
    if x2 = 2 then
      some ((a4.1, q1.2))
    else
      if x2 = 3 then
        some ((a4.2, q1.2))
      else
        if x2 = 4 then
          if inb v3 4000 then
            some (((q1.2.2.1 23 v3.toNatClampNeg), q1.2))
          else none
        else
          some (((-102), q1.2))
set_option maxRecDepth 20000 in
theorem tM_end_110 {l : Launch} {G : rr_G} (x2 : Int32) (q1 : Int32 × rr_T) (v3 : Int32) (a4 : Int32 × Int32) : RR l G mX11_end 7 157 fxA rvIS (fun q => mw q.2) z0 z0 0 0 110 [(0, .ref 0), (2, .int x2), (3, .int v3), (4, .int a4.1), (5, .int a4.2)] [] (mw q1.2) (JM_end_110 x2 q1 v3 a4) := by
  unfold JM_end_110
  refine rr_iload_n dX11_end_110 rfl 1 rfl ?_
  refine rr_ite (fun z => ?_) (fun z0 => ?_)
  · refine rr_tableIn (off := 33) (tgt := 144) dX11_end_111 (by rw [z]; decide) (by rw [z]; decide) (by rw [z]; decide) (by decide) ?_
    refine rr_aload_n dX11_end_144 rfl 0 rfl ?_
    refine rr_get (v := .ref 22) cl11 k11_81 (Nat.le_of_ble_eq_true rfl) rfl rfl dX11_end_145 ?_
    refine rr_iload_n dX11_end_148 rfl 2 rfl ?_
    refine rr_if (fun z => ?_)
    refine rr_bald (len := 4000) rfl (inb_in z) dX11_end_149 ?_
    exact rr_iret dX11_end_150 rfl rfl rfl rfl rfl
  · refine rr_ite (fun z => ?_) (fun z1 => ?_)
    · refine rr_tableIn (off := 40) (tgt := 151) dX11_end_111 (by rw [z]; decide) (by rw [z]; decide) (by rw [z]; decide) (by decide) ?_
      refine rr_aload_n dX11_end_151 rfl 0 rfl ?_
      refine rr_get (v := .ref 21) cl11 k11_78 (Nat.le_of_ble_eq_true rfl) rfl rfl dX11_end_152 ?_
      refine rr_iload_n dX11_end_155 rfl 2 rfl ?_
      refine rr_if (fun z => ?_)
      refine rr_bald (len := 4000) rfl (inb_in z) dX11_end_156 ?_
      exact rr_iret dX11_end_157 rfl rfl rfl rfl rfl
    · refine rr_ite (fun z => ?_) (fun z2 => ?_)
      · refine rr_tableIn (off := 47) (tgt := 158) dX11_end_111 (by rw [z]; decide) (by rw [z]; decide) (by rw [z]; decide) (by decide) ?_
        refine rr_iload dX11_end_158 3 rfl ?_
        exact rr_iret dX11_end_160 rfl rfl rfl rfl rfl
      · refine rr_ite (fun z => ?_) (fun z3 => ?_)
        · refine rr_tableIn (off := 50) (tgt := 161) dX11_end_111 (by rw [z]; decide) (by rw [z]; decide) (by rw [z]; decide) (by decide) ?_
          refine rr_iload dX11_end_161 4 rfl ?_
          exact rr_iret dX11_end_163 rfl rfl rfl rfl rfl
        · refine rr_ite (fun z => ?_) (fun z4 => ?_)
          · refine rr_tableIn (off := 53) (tgt := 164) dX11_end_111 (by rw [z]; decide) (by rw [z]; decide) (by rw [z]; decide) (by decide) ?_
            refine rr_aload_n dX11_end_164 rfl 0 rfl ?_
            refine rr_get (v := .ref 23) cl11 k11_84 (Nat.le_of_ble_eq_true rfl) rfl rfl dX11_end_165 ?_
            refine rr_iload_n dX11_end_168 rfl 2 rfl ?_
            refine rr_if (fun z => ?_)
            refine rr_bald (len := 4000) rfl (inb_in z) dX11_end_169 ?_
            exact rr_iret dX11_end_170 rfl rfl rfl rfl rfl
          · refine rr_tableOut (tgt := 171) dX11_end_111 (by have h0 := lv_neT (a := 0) z0 (by decide); have h1 := lv_neT (a := 1) z1 (by decide); have h2 := lv_neT (a := 2) z2 (by decide); have h3 := lv_neT (a := 3) z3 (by decide); have h4 := lv_neT (a := 4) z4 (by decide); omega) (by decide) ?_
            refine rr_bipush (v := (-102)) dX11_end_171 (by decide) ?_
            exact rr_iret dX11_end_173 rfl rfl rfl rfl rfl
def JM_end_70 (x1 : Int32) (q1 : Int32 × rr_T) (rec43 : (Int32 × Int32 × Int32) → Option (Int32 × rr_T)) (a5 : Int32 × Int32 × Int32) (a6 : Int32) : Option (Int32 × rr_T) :=
  rr_l ((a5.1 + a6)) (fun v7 =>
  if inb a5.2.2 4000 then
  if (q1.2.2.1 25 a5.2.2.toNatClampNeg) = x1 then
    if inb a5.2.2 4000 then
      if (q1.2.2.1 19 a5.2.2.toNatClampNeg) = 0 then
        rr_l ((a5.2.1 + 0)) (fun v9 =>
          rec43 (v7, v9, (a5.2.2 + 1)))
      else
        rr_l ((a5.2.1 + 1)) (fun v10 =>
          rec43 (v7, v10, (a5.2.2 + 1)))
    else none
  else
    rr_l ((a5.2.1 + 0)) (fun v8 =>
      rec43 (v7, v8, (a5.2.2 + 1)))
else none)
set_option maxRecDepth 20000 in
theorem tM_end_70 {l : Launch} {G : rr_G} (x1 : Int32) (q1 : Int32 × rr_T) (rec43 : (Int32 × Int32 × Int32) → Option (Int32 × rr_T)) (a5 : Int32 × Int32 × Int32) (x2 : Int32) (v3 : Int32) (hrec43 : ∀ a : Int32 × Int32 × Int32, RR l G mX11_end 7 157 fxA rvIS (fun q => mw q.2) z0 z0 0 0 43 [(0, .ref 0), (1, .int x1), (2, .int x2), (3, .int v3), (4, .int a.1), (5, .int a.2.1), (6, .int a.2.2)] [] (mw q1.2) (rec43 a)) (a6 : Int32) : RR l G mX11_end 7 157 fxA rvIS (fun q => mw q.2) z0 z0 0 0 70 [(0, .ref 0), (1, .int x1), (2, .int x2), (3, .int v3), (5, .int a5.2.1), (6, .int a5.2.2)] [.int a6, .int a5.1] (mw q1.2) (JM_end_70 x1 q1 rec43 a5 a6) := by
  unfold JM_end_70
  refine rr_iadd dX11_end_70 ?_
  refine rr_letI (fun v7 => ?_)
  refine rr_istore (lv' := [(4, .int v7), (0, .ref 0), (1, .int x1), (2, .int x2), (3, .int v3), (5, .int a5.2.1), (6, .int a5.2.2)]) dX11_end_71 (by decide) rfl ?_
  refine rr_iload dX11_end_73 5 rfl ?_
  refine rr_aload_n dX11_end_75 rfl 1 rfl ?_
  refine rr_get (v := .ref 25) cl11 k11_90 (Nat.le_of_ble_eq_true rfl) rfl rfl dX11_end_76 ?_
  refine rr_iload dX11_end_79 6 rfl ?_
  refine rr_if (fun z => ?_)
  refine rr_iald (len := 4000) rfl (inb_in z) dX11_end_81 ?_
  refine rr_iload_n dX11_end_82 rfl 2 rfl ?_
  refine rr_icmp_ne (tgt := 100) dX11_end_83 (by decide) (fun _ => ?_) (fun _ => ?_)
  · refine rr_iconst (v := 0) dX11_end_100 (by decide) ?_
    refine rr_iadd dX11_end_101 ?_
    refine rr_letI (fun v8 => ?_)
    refine rr_istore (lv' := [(5, .int v8), (4, .int v7), (0, .ref 0), (1, .int x1), (2, .int x2), (3, .int v3), (6, .int a5.2.2)]) dX11_end_102 (by decide) rfl ?_
    refine rr_iinc (lv' := [(6, .int (a5.2.2 + 1)), (5, .int v8), (4, .int v7), (0, .ref 0), (1, .int x1), (2, .int x2), (3, .int v3)]) dX11_end_104 6 rfl (by decide) rfl ?_
    refine rr_goto (tgt := 43) dX11_end_107 (by decide) ?_
    refine rr_sub [3, 4, 5, 6, 2, 1, 0] rfl ?_
    exact hrec43 (v7, v8, (a5.2.2 + 1))
  · refine rr_aload_n dX11_end_86 rfl 1 rfl ?_
    refine rr_get (v := .ref 19) cl11 k11_70 (Nat.le_of_ble_eq_true rfl) rfl rfl dX11_end_87 ?_
    refine rr_iload dX11_end_90 6 rfl ?_
    refine rr_if (fun z => ?_)
    refine rr_zald (len := 4000) rfl (inb_in z) dX11_end_92 ?_
    refine rr_if_eq (tgt := 100) dX11_end_93 (by decide) (fun _ => ?_) (fun _ => ?_)
    · refine rr_iconst (v := 0) dX11_end_100 (by decide) ?_
      refine rr_iadd dX11_end_101 ?_
      refine rr_letI (fun v9 => ?_)
      refine rr_istore (lv' := [(5, .int v9), (4, .int v7), (0, .ref 0), (1, .int x1), (2, .int x2), (3, .int v3), (6, .int a5.2.2)]) dX11_end_102 (by decide) rfl ?_
      refine rr_iinc (lv' := [(6, .int (a5.2.2 + 1)), (5, .int v9), (4, .int v7), (0, .ref 0), (1, .int x1), (2, .int x2), (3, .int v3)]) dX11_end_104 6 rfl (by decide) rfl ?_
      refine rr_goto (tgt := 43) dX11_end_107 (by decide) ?_
      refine rr_sub [3, 4, 5, 6, 2, 1, 0] rfl ?_
      exact hrec43 (v7, v9, (a5.2.2 + 1))
    · refine rr_iconst (v := 1) dX11_end_96 (by decide) ?_
      refine rr_goto (tgt := 101) dX11_end_97 (by decide) ?_
      refine rr_iadd dX11_end_101 ?_
      refine rr_letI (fun v10 => ?_)
      refine rr_istore (lv' := [(5, .int v10), (4, .int v7), (0, .ref 0), (1, .int x1), (2, .int x2), (3, .int v3), (6, .int a5.2.2)]) dX11_end_102 (by decide) rfl ?_
      refine rr_iinc (lv' := [(6, .int (a5.2.2 + 1)), (5, .int v10), (4, .int v7), (0, .ref 0), (1, .int x1), (2, .int x2), (3, .int v3)]) dX11_end_104 6 rfl (by decide) rfl ?_
      refine rr_goto (tgt := 43) dX11_end_107 (by decide) ?_
      refine rr_sub [3, 4, 5, 6, 2, 1, 0] rfl ?_
      exact hrec43 (v7, v10, (a5.2.2 + 1))
def LM_end_43 (x1 : Int32) (x2 : Int32) (q1 : Int32 × rr_T) (v3 : Int32) (rec43 : (Int32 × Int32 × Int32) → Option (Int32 × rr_T)) (a5 : Int32 × Int32 × Int32) : Option (Int32 × rr_T) :=
  if (q1.2.1 22) ≤ a5.2.2 then
  JM_end_110 x2 q1 v3 (a5.1, a5.2.1)
else
  if inb a5.2.2 4000 then
    if (q1.2.2.1 25 a5.2.2.toNatClampNeg) = x1 then
      JM_end_70 x1 q1 rec43 a5 1
    else
      JM_end_70 x1 q1 rec43 a5 0
  else none
set_option maxRecDepth 20000 in
theorem tM_end_43 {l : Launch} {G : rr_G} (x1 : Int32) (x2 : Int32) (q1 : Int32 × rr_T) (v3 : Int32) : ∀ (n : Nat) (a : Int32 × Int32 × Int32), RR l G mX11_end 7 157 fxA rvIS (fun q => mw q.2) z0 z0 0 0 43 [(0, .ref 0), (1, .int x1), (2, .int x2), (3, .int v3), (4, .int a.1), (5, .int a.2.1), (6, .int a.2.2)] [] (mw q1.2) (rr_loop n (LM_end_43 x1 x2 q1 v3) a) := by
  refine rr_lp (α := Int32 × Int32 × Int32) 43 (fun a => [(0, .ref 0), (1, .int x1), (2, .int x2), (3, .int v3), (4, .int a.1), (5, .int a.2.1), (6, .int a.2.2)]) (fun a => (mw q1.2)) (fun rec43 hrec43 a5 => ?_)
  show RR l G mX11_end 7 157 fxA rvIS (fun q => mw q.2) z0 z0 0 0 43 [(0, .ref 0), (1, .int x1), (2, .int x2), (3, .int v3), (4, .int a5.1), (5, .int a5.2.1), (6, .int a5.2.2)] [] (mw q1.2) (LM_end_43 x1 x2 q1 v3 rec43 a5)
  unfold LM_end_43
  refine rr_iload dX11_end_43 6 rfl ?_
  refine rr_aload_n dX11_end_45 rfl 0 rfl ?_
  refine rr_get (v := .int (q1.2.1 22)) cl11 k11_205 (Nat.le_of_ble_eq_true rfl) rfl rfl dX11_end_46 ?_
  refine rr_icmp_ge (tgt := 110) dX11_end_49 (by decide) (fun _ => ?_) (fun _ => ?_)
  · refine rr_sub [0, 2, 3, 4, 5] rfl ?_
    exact tM_end_110 x2 q1 v3 (a5.1, a5.2.1)
  · refine rr_iload dX11_end_52 4 rfl ?_
    refine rr_aload_n dX11_end_54 rfl 0 rfl ?_
    refine rr_get (v := .ref 25) cl11 k11_90 (Nat.le_of_ble_eq_true rfl) rfl rfl dX11_end_55 ?_
    refine rr_iload dX11_end_58 6 rfl ?_
    refine rr_if (fun z => ?_)
    refine rr_iald (len := 4000) rfl (inb_in z) dX11_end_60 ?_
    refine rr_iload_n dX11_end_61 rfl 1 rfl ?_
    refine rr_icmp_ne (tgt := 69) dX11_end_62 (by decide) (fun _ => ?_) (fun _ => ?_)
    · refine rr_iconst (v := 0) dX11_end_69 (by decide) ?_
      refine rr_sub [0, 1, 2, 3, 5, 6] rfl ?_
      exact tM_end_70 x1 q1 rec43 a5 x2 v3 hrec43 0
    · refine rr_iconst (v := 1) dX11_end_65 (by decide) ?_
      refine rr_goto (tgt := 70) dX11_end_66 (by decide) ?_
      refine rr_sub [0, 1, 2, 3, 5, 6] rfl ?_
      exact tM_end_70 x1 q1 rec43 a5 x2 v3 hrec43 1
def fM_end (S : rr_T) (x1 : Int32) (x2 : Int32) : Option (Int32 × rr_T) :=
  (fM_playAll S).bind (fun q1 =>
  if q1.1 = 0 then
  some (((-104), q1.2))
else
  (fM_in x1 0 (((q1.2.1 33) - 1))).bind (fun r2 =>
    if r2 = 0 then
    some (((-101), q1.2))
  else
    if inb x1 4000 then
      rr_l ((q1.2.2.1 24 x1.toNatClampNeg)) (fun v3 =>
        rr_loop FU (LM_end_43 x1 x2 q1 v3) (0, 0, 0))
    else none))
set_option maxRecDepth 20000 in
theorem tM_end {l : Launch} {G : rr_G} (S : rr_T) (x1 : Int32) (x2 : Int32) : TT l G mX11_end 7 157 fxA rvIS (fun q => mw q.2) z0 z0 0 0 [.ref 0, .int x1, .int x2] (mw S) (fM_end S x1 x2) := by
  refine TT.by (by decide) (Nat.le_of_ble_eq_true rfl) (lv := [(0, .ref 0), (1, .int x1), (2, .int x2)]) rfl ?_
  show RR l G mX11_end 7 157 fxA rvIS (fun q => mw q.2) z0 z0 0 0 0 [(0, .ref 0), (1, .int x1), (2, .int x2)] [] (mw S) (fM_end S x1 x2)
  unfold fM_end
  refine rr_aload_n dX11_end_0 rfl 0 rfl ?_
  refine rr_vis (W := mw) (As := []) (rest := []) (tM_playAll S ) v11_262 rfl rfl ⟨Nat.le_of_ble_eq_true rfl, Nat.le_of_ble_eq_true rfl⟩ (fun _ z => z) rfl rfl (Nat.le_of_ble_eq_true rfl) rfl dX11_end_1 (fun q1 => ?_)
  refine rr_if_ne (tgt := 10) dX11_end_4 (by decide) (fun _ => ?_) (fun _ => ?_)
  · refine rr_iload_n dX11_end_10 rfl 1 rfl ?_
    refine rr_iconst (v := 0) dX11_end_11 (by decide) ?_
    refine rr_aload_n dX11_end_12 rfl 0 rfl ?_
    refine rr_get (v := .int (q1.2.1 33)) cl11 k11_249 (Nat.le_of_ble_eq_true rfl) rfl rfl dX11_end_13 ?_
    refine rr_iconst (v := 1) dX11_end_16 (by decide) ?_
    refine rr_isub dX11_end_17 ?_
    refine rr_si (As := [.int x1, .int 0, .int ((q1.2.1 33) - 1)]) (rest := []) (tM_in x1 0 (((q1.2.1 33) - 1)) (mw q1.2)) s11_136 rfl ⟨Nat.le_of_ble_eq_true rfl, Nat.le_of_ble_eq_true rfl⟩ rfl rfl (Nat.le_of_ble_eq_true rfl) rfl dX11_end_18 (fun r2 => ?_)
    refine rr_if_ne (tgt := 27) dX11_end_21 (by decide) (fun _ => ?_) (fun _ => ?_)
    · refine rr_aload_n dX11_end_27 rfl 0 rfl ?_
      refine rr_get (v := .ref 24) cl11 k11_87 (Nat.le_of_ble_eq_true rfl) rfl rfl dX11_end_28 ?_
      refine rr_iload_n dX11_end_31 rfl 1 rfl ?_
      refine rr_if (fun z => ?_)
      refine rr_iald (len := 4000) rfl (inb_in z) dX11_end_32 ?_
      refine rr_letI (fun v3 => ?_)
      refine rr_istore_n (lv' := [(3, .int v3), (0, .ref 0), (1, .int x1), (2, .int x2)]) dX11_end_33 rfl (by decide) rfl ?_
      refine rr_iconst (v := 0) dX11_end_34 (by decide) ?_
      refine rr_istore (lv' := [(4, .int 0), (3, .int v3), (0, .ref 0), (1, .int x1), (2, .int x2)]) dX11_end_35 (by decide) rfl ?_
      refine rr_iconst (v := 0) dX11_end_37 (by decide) ?_
      refine rr_istore (lv' := [(5, .int 0), (4, .int 0), (3, .int v3), (0, .ref 0), (1, .int x1), (2, .int x2)]) dX11_end_38 (by decide) rfl ?_
      refine rr_iconst (v := 0) dX11_end_40 (by decide) ?_
      refine rr_istore (lv' := [(6, .int 0), (5, .int 0), (4, .int 0), (3, .int v3), (0, .ref 0), (1, .int x1), (2, .int x2)]) dX11_end_41 (by decide) rfl ?_
      refine rr_sub [4, 5, 6, 3, 2, 1, 0] rfl ?_
      exact tM_end_43 x1 x2 q1 v3 FU (0, 0, 0)
    · refine rr_bipush (v := (-101)) dX11_end_24 (by decide) ?_
      exact rr_iret dX11_end_26 rfl rfl rfl rfl rfl
  · refine rr_bipush (v := (-104)) dX11_end_7 (by decide) ?_
    exact rr_iret dX11_end_9 rfl rfl rfl rfl rfl
def fM_look (S : rr_T) (x1 : Int32) (x2 : Int32) : Option (Int32 × rr_T) :=
  (fM_playAll S).bind (fun q1 =>
  if q1.1 = 0 then
  some (((-104), q1.2))
else
  (fM_in x1 0 (((q1.2.1 33) - 1))).bind (fun r2 =>
    if r2 = 0 then
    some (((-101), q1.2))
  else
    if 0 ≤ x2 then
      if inb x1 4000 then
        if inb (q1.2.2.1 24 x1.toNatClampNeg) 4000 then
          if (q1.2.2.1 21 (q1.2.2.1 24 x1.toNatClampNeg).toNatClampNeg) ≤ x2 then
            some (((-1), q1.2))
          else
            if inb x1 4000 then
              if inb ((20 * (q1.2.2.1 24 x1.toNatClampNeg)) + x2) 80000 then
                some (((q1.2.2.1 20 ((20 * (q1.2.2.1 24 x1.toNatClampNeg)) + x2).toNatClampNeg), q1.2))
              else none
            else none
        else none
      else none
    else
      some (((-101), q1.2))))
set_option maxRecDepth 20000 in
theorem tM_look {l : Launch} {G : rr_G} (S : rr_T) (x1 : Int32) (x2 : Int32) : TT l G mX11_look 7 157 fxA rvIS (fun q => mw q.2) z0 z0 0 0 [.ref 0, .int x1, .int x2] (mw S) (fM_look S x1 x2) := by
  refine TT.by (by decide) (Nat.le_of_ble_eq_true rfl) (lv := [(0, .ref 0), (1, .int x1), (2, .int x2)]) rfl ?_
  show RR l G mX11_look 7 157 fxA rvIS (fun q => mw q.2) z0 z0 0 0 0 [(0, .ref 0), (1, .int x1), (2, .int x2)] [] (mw S) (fM_look S x1 x2)
  unfold fM_look
  refine rr_aload_n dX11_look_0 rfl 0 rfl ?_
  refine rr_vis (W := mw) (As := []) (rest := []) (tM_playAll S ) v11_262 rfl rfl ⟨Nat.le_of_ble_eq_true rfl, Nat.le_of_ble_eq_true rfl⟩ (fun _ z => z) rfl rfl (Nat.le_of_ble_eq_true rfl) rfl dX11_look_1 (fun q1 => ?_)
  refine rr_if_ne (tgt := 10) dX11_look_4 (by decide) (fun _ => ?_) (fun _ => ?_)
  · refine rr_iload_n dX11_look_10 rfl 1 rfl ?_
    refine rr_iconst (v := 0) dX11_look_11 (by decide) ?_
    refine rr_aload_n dX11_look_12 rfl 0 rfl ?_
    refine rr_get (v := .int (q1.2.1 33)) cl11 k11_249 (Nat.le_of_ble_eq_true rfl) rfl rfl dX11_look_13 ?_
    refine rr_iconst (v := 1) dX11_look_16 (by decide) ?_
    refine rr_isub dX11_look_17 ?_
    refine rr_si (As := [.int x1, .int 0, .int ((q1.2.1 33) - 1)]) (rest := []) (tM_in x1 0 (((q1.2.1 33) - 1)) (mw q1.2)) s11_136 rfl ⟨Nat.le_of_ble_eq_true rfl, Nat.le_of_ble_eq_true rfl⟩ rfl rfl (Nat.le_of_ble_eq_true rfl) rfl dX11_look_18 (fun r2 => ?_)
    refine rr_if_eq (tgt := 28) dX11_look_21 (by decide) (fun _ => ?_) (fun _ => ?_)
    · refine rr_bipush (v := (-101)) dX11_look_28 (by decide) ?_
      exact rr_iret dX11_look_30 rfl rfl rfl rfl rfl
    · refine rr_iload_n dX11_look_24 rfl 2 rfl ?_
      refine rr_if_ge (tgt := 31) dX11_look_25 (by decide) (fun _ => ?_) (fun _ => ?_)
      · refine rr_iload_n dX11_look_31 rfl 2 rfl ?_
        refine rr_aload_n dX11_look_32 rfl 0 rfl ?_
        refine rr_get (v := .ref 21) cl11 k11_78 (Nat.le_of_ble_eq_true rfl) rfl rfl dX11_look_33 ?_
        refine rr_aload_n dX11_look_36 rfl 0 rfl ?_
        refine rr_get (v := .ref 24) cl11 k11_87 (Nat.le_of_ble_eq_true rfl) rfl rfl dX11_look_37 ?_
        refine rr_iload_n dX11_look_40 rfl 1 rfl ?_
        refine rr_if (fun z => ?_)
        refine rr_iald (len := 4000) rfl (inb_in z) dX11_look_41 ?_
        refine rr_if (fun z => ?_)
        refine rr_bald (len := 4000) rfl (inb_in z) dX11_look_42 ?_
        refine rr_icmp_ge (tgt := 65) dX11_look_43 (by decide) (fun _ => ?_) (fun _ => ?_)
        · refine rr_iconst (v := (-1)) dX11_look_65 (by decide) ?_
          exact rr_iret dX11_look_66 rfl rfl rfl rfl rfl
        · refine rr_aload_n dX11_look_46 rfl 0 rfl ?_
          refine rr_get (v := .ref 20) cl11 k11_75 (Nat.le_of_ble_eq_true rfl) rfl rfl dX11_look_47 ?_
          refine rr_bipush (v := 20) dX11_look_50 (by decide) ?_
          refine rr_aload_n dX11_look_52 rfl 0 rfl ?_
          refine rr_get (v := .ref 24) cl11 k11_87 (Nat.le_of_ble_eq_true rfl) rfl rfl dX11_look_53 ?_
          refine rr_iload_n dX11_look_56 rfl 1 rfl ?_
          refine rr_if (fun z => ?_)
          refine rr_iald (len := 4000) rfl (inb_in z) dX11_look_57 ?_
          refine rr_imul dX11_look_58 ?_
          refine rr_iload_n dX11_look_59 rfl 2 rfl ?_
          refine rr_iadd dX11_look_60 ?_
          refine rr_if (fun z => ?_)
          refine rr_bald (len := 80000) rfl (inb_in z) dX11_look_61 ?_
          refine rr_goto (tgt := 66) dX11_look_62 (by decide) ?_
          exact rr_iret dX11_look_66 rfl rfl rfl rfl rfl
      · refine rr_bipush (v := (-101)) dX11_look_28 (by decide) ?_
        exact rr_iret dX11_look_30 rfl rfl rfl rfl rfl
  · refine rr_bipush (v := (-104)) dX11_look_7 (by decide) ?_
    exact rr_iret dX11_look_9 rfl rfl rfl rfl rfl
def fM_endOf (S : rr_T) (x1 : Int32) : Option (Int32 × rr_T) :=
  (fM_playAll S).bind (fun q1 =>
  if q1.1 = 0 then
  some (((-104), q1.2))
else
  (fM_in x1 0 (((q1.2.1 25) - 1))).bind (fun r2 =>
    if r2 = 0 then
    some (((-101), q1.2))
  else
    if inb x1 4000 then
      if inb (q1.2.2.1 18 x1.toNatClampNeg) 4000 then
        some (((q1.2.2.1 25 (q1.2.2.1 18 x1.toNatClampNeg).toNatClampNeg), q1.2))
      else none
    else none))
set_option maxRecDepth 20000 in
theorem tM_endOf {l : Launch} {G : rr_G} (S : rr_T) (x1 : Int32) : TT l G mX11_endOf 7 157 fxA rvIS (fun q => mw q.2) z0 z0 0 0 [.ref 0, .int x1] (mw S) (fM_endOf S x1) := by
  refine TT.by (by decide) (Nat.le_of_ble_eq_true rfl) (lv := [(0, .ref 0), (1, .int x1)]) rfl ?_
  show RR l G mX11_endOf 7 157 fxA rvIS (fun q => mw q.2) z0 z0 0 0 0 [(0, .ref 0), (1, .int x1)] [] (mw S) (fM_endOf S x1)
  unfold fM_endOf
  refine rr_aload_n dX11_endOf_0 rfl 0 rfl ?_
  refine rr_vis (W := mw) (As := []) (rest := []) (tM_playAll S ) v11_262 rfl rfl ⟨Nat.le_of_ble_eq_true rfl, Nat.le_of_ble_eq_true rfl⟩ (fun _ z => z) rfl rfl (Nat.le_of_ble_eq_true rfl) rfl dX11_endOf_1 (fun q1 => ?_)
  refine rr_if_ne (tgt := 10) dX11_endOf_4 (by decide) (fun _ => ?_) (fun _ => ?_)
  · refine rr_iload_n dX11_endOf_10 rfl 1 rfl ?_
    refine rr_iconst (v := 0) dX11_endOf_11 (by decide) ?_
    refine rr_aload_n dX11_endOf_12 rfl 0 rfl ?_
    refine rr_get (v := .int (q1.2.1 25)) cl11 k11_208 (Nat.le_of_ble_eq_true rfl) rfl rfl dX11_endOf_13 ?_
    refine rr_iconst (v := 1) dX11_endOf_16 (by decide) ?_
    refine rr_isub dX11_endOf_17 ?_
    refine rr_si (As := [.int x1, .int 0, .int ((q1.2.1 25) - 1)]) (rest := []) (tM_in x1 0 (((q1.2.1 25) - 1)) (mw q1.2)) s11_136 rfl ⟨Nat.le_of_ble_eq_true rfl, Nat.le_of_ble_eq_true rfl⟩ rfl rfl (Nat.le_of_ble_eq_true rfl) rfl dX11_endOf_18 (fun r2 => ?_)
    refine rr_if_eq (tgt := 38) dX11_endOf_21 (by decide) (fun _ => ?_) (fun _ => ?_)
    · refine rr_bipush (v := (-101)) dX11_endOf_38 (by decide) ?_
      exact rr_iret dX11_endOf_40 rfl rfl rfl rfl rfl
    · refine rr_aload_n dX11_endOf_24 rfl 0 rfl ?_
      refine rr_get (v := .ref 25) cl11 k11_90 (Nat.le_of_ble_eq_true rfl) rfl rfl dX11_endOf_25 ?_
      refine rr_aload_n dX11_endOf_28 rfl 0 rfl ?_
      refine rr_get (v := .ref 18) cl11 k11_67 (Nat.le_of_ble_eq_true rfl) rfl rfl dX11_endOf_29 ?_
      refine rr_iload_n dX11_endOf_32 rfl 1 rfl ?_
      refine rr_if (fun z => ?_)
      refine rr_iald (len := 4000) rfl (inb_in z) dX11_endOf_33 ?_
      refine rr_if (fun z => ?_)
      refine rr_iald (len := 4000) rfl (inb_in z) dX11_endOf_34 ?_
      refine rr_goto (tgt := 40) dX11_endOf_35 (by decide) ?_
      exact rr_iret dX11_endOf_40 rfl rfl rfl rfl rfl
  · refine rr_bipush (v := (-104)) dX11_endOf_7 (by decide) ?_
    exact rr_iret dX11_endOf_9 rfl rfl rfl rfl rfl
