/-! ===== the reference's methods: in, isUnder, changed, kind, field, input, bound, isField, isSort ===== -/
def FU : Nat := 5000
def fM_in (x1 : Int32) (x2 : Int32) (x3 : Int32) : Option Int32 :=
  if x1 < x2 then
  some 0
else
  if x3 < x1 then
    some 0
  else
    some 1
set_option maxRecDepth 20000 in
theorem tM_in {l : Launch} {G : rr_G} (x1 : Int32) (x2 : Int32) (x3 : Int32) (h : rr_H) : TT l G mX11_in 0 0 fxA rvI (fun _ => h) z0 z0 0 0 [.int x1, .int x2, .int x3] (h) (fM_in x1 x2 x3) := by
  refine TT.by (by decide) (Nat.le_of_ble_eq_true rfl) (lv := [(0, .int x1), (1, .int x2), (2, .int x3)]) rfl ?_
  show RR l G mX11_in 0 0 fxA rvI (fun _ => h) z0 z0 0 0 0 [(0, .int x1), (1, .int x2), (2, .int x3)] [] (h) (fM_in x1 x2 x3)
  unfold fM_in
  refine rr_iload_n dX11_in_0 rfl 0 rfl ?_
  refine rr_iload_n dX11_in_1 rfl 1 rfl ?_
  refine rr_icmp_lt (tgt := 14) dX11_in_2 (by decide) (fun _ => ?_) (fun _ => ?_)
  · refine rr_iconst (v := 0) dX11_in_14 (by decide) ?_
    exact rr_zret dX11_in_15 rfl (by decide) rfl rfl rfl rfl
  · refine rr_iload_n dX11_in_5 rfl 0 rfl ?_
    refine rr_iload_n dX11_in_6 rfl 2 rfl ?_
    refine rr_icmp_gt (tgt := 14) dX11_in_7 (by decide) (fun _ => ?_) (fun _ => ?_)
    · refine rr_iconst (v := 0) dX11_in_14 (by decide) ?_
      exact rr_zret dX11_in_15 rfl (by decide) rfl rfl rfl rfl
    · refine rr_iconst (v := 1) dX11_in_10 (by decide) ?_
      refine rr_goto (tgt := 15) dX11_in_11 (by decide) ?_
      exact rr_zret dX11_in_15 rfl (by decide) rfl rfl rfl rfl
def JM_isUnder_22 (x2 : Int32) (a1 : Int32) : Option Int32 :=
  if a1 = x2 then
  some 1
else
  some 0
set_option maxRecDepth 20000 in
theorem tM_isUnder_22 {l : Launch} {G : rr_G} (x2 : Int32) (S : rr_T) (a1 : Int32) : RR l G mX11_isUnder 0 0 fxA rvI (fun _ => mw S) z0 z0 0 0 22 [(2, .int x2), (3, .int a1)] [] (mw S) (JM_isUnder_22 x2 a1) := by
  unfold JM_isUnder_22
  refine rr_iload_n dX11_isUnder_22 rfl 1 rfl ?_
  refine rr_iload_n dX11_isUnder_23 rfl 0 rfl ?_
  refine rr_icmp_ne (tgt := 31) dX11_isUnder_24 (by decide) (fun _ => ?_) (fun _ => ?_)
  · refine rr_iconst (v := 0) dX11_isUnder_31 (by decide) ?_
    exact rr_zret dX11_isUnder_32 rfl (by decide) rfl rfl rfl rfl
  · refine rr_iconst (v := 1) dX11_isUnder_27 (by decide) ?_
    refine rr_goto (tgt := 32) dX11_isUnder_28 (by decide) ?_
    exact rr_zret dX11_isUnder_32 rfl (by decide) rfl rfl rfl rfl
def LM_isUnder_2 (S : rr_T) (x2 : Int32) (rec2 : Int32 → Option Int32) (a2 : Int32) : Option Int32 :=
  if a2 = (-1) then
  JM_isUnder_22 x2 a2
else
  if a2 = x2 then
    JM_isUnder_22 x2 a2
  else
    if inb a2 4 then
      rr_l ((S.2.1 1 a2.toNatClampNeg)) (fun v3 =>
        rec2 v3)
    else none
set_option maxRecDepth 20000 in
theorem tM_isUnder_2 {l : Launch} {G : rr_G} (S : rr_T) (x2 : Int32) : ∀ (n : Nat) (a : Int32), RR l G mX11_isUnder 0 0 fxA rvI (fun _ => mw S) z0 z0 0 0 2 [(0, .ref 0), (2, .int x2), (3, .int a)] [] (mw S) (rr_loop n (LM_isUnder_2 S x2) a) := by
  refine rr_lp (α := Int32) 2 (fun a => [(0, .ref 0), (2, .int x2), (3, .int a)]) (fun a => (mw S)) (fun rec2 hrec2 a2 => ?_)
  show RR l G mX11_isUnder 0 0 fxA rvI (fun _ => mw S) z0 z0 0 0 2 [(0, .ref 0), (2, .int x2), (3, .int a2)] [] (mw S) (LM_isUnder_2 S x2 rec2 a2)
  unfold LM_isUnder_2
  refine rr_iload_n dX11_isUnder_2 rfl 2 rfl ?_
  refine rr_iconst (v := (-1)) dX11_isUnder_3 (by decide) ?_
  refine rr_icmp_eq (tgt := 22) dX11_isUnder_4 (by decide) (fun _ => ?_) (fun _ => ?_)
  · refine rr_sub [1, 2] rfl ?_
    exact tM_isUnder_22 x2 S a2
  · refine rr_iload_n dX11_isUnder_7 rfl 2 rfl ?_
    refine rr_iload_n dX11_isUnder_8 rfl 1 rfl ?_
    refine rr_icmp_eq (tgt := 22) dX11_isUnder_9 (by decide) (fun _ => ?_) (fun _ => ?_)
    · refine rr_sub [1, 2] rfl ?_
      exact tM_isUnder_22 x2 S a2
    · refine rr_aload_n dX11_isUnder_12 rfl 0 rfl ?_
      refine rr_get (v := .ref 1) cl11 k11_7 (Nat.le_of_ble_eq_true rfl) rfl rfl dX11_isUnder_13 ?_
      refine rr_iload_n dX11_isUnder_16 rfl 2 rfl ?_
      refine rr_if (fun z => ?_)
      refine rr_iald (len := 4) rfl (inb_in z) dX11_isUnder_17 ?_
      refine rr_letI (fun v3 => ?_)
      refine rr_istore_n (lv' := [(3, .int v3), (0, .ref 0), (2, .int x2)]) dX11_isUnder_18 rfl (by decide) rfl ?_
      refine rr_goto (tgt := 2) dX11_isUnder_19 (by decide) ?_
      refine rr_sub [1, 2, 0] rfl ?_
      exact hrec2 v3
def fM_isUnder (S : rr_T) (x1 : Int32) (x2 : Int32) : Option Int32 :=
  rr_loop FU (LM_isUnder_2 S x2) x1
set_option maxRecDepth 20000 in
theorem tM_isUnder {l : Launch} {G : rr_G} (S : rr_T) (x1 : Int32) (x2 : Int32) : TT l G mX11_isUnder 0 0 fxA rvI (fun _ => mw S) z0 z0 0 0 [.ref 0, .int x1, .int x2] (mw S) (fM_isUnder S x1 x2) := by
  refine TT.by (by decide) (Nat.le_of_ble_eq_true rfl) (lv := [(0, .ref 0), (1, .int x1), (2, .int x2)]) rfl ?_
  show RR l G mX11_isUnder 0 0 fxA rvI (fun _ => mw S) z0 z0 0 0 0 [(0, .ref 0), (1, .int x1), (2, .int x2)] [] (mw S) (fM_isUnder S x1 x2)
  unfold fM_isUnder
  refine rr_iload_n dX11_isUnder_0 rfl 1 rfl ?_
  refine rr_istore_n (lv' := [(3, .int x1), (0, .ref 0), (1, .int x1), (2, .int x2)]) dX11_isUnder_1 rfl (by decide) rfl ?_
  refine rr_sub [1, 3, 0] rfl ?_
  exact tM_isUnder_2 S x2 FU x1
def fM_changed (S : rr_T) : Option rr_T :=
  rr_l (pI S 21 0) (fun S1 =>
  rr_l (pI S1 28 0) (fun S2 =>
  some S2))
set_option maxRecDepth 20000 in
theorem tM_changed {l : Launch} {G : rr_G} (S : rr_T) : TT l G mX11_changed 0 0 fxA rvS mw z0 z0 0 0 [.ref 0] (mw S) (fM_changed S) := by
  refine TT.by (by decide) (Nat.le_of_ble_eq_true rfl) (lv := [(0, .ref 0)]) rfl ?_
  show RR l G mX11_changed 0 0 fxA rvS mw z0 z0 0 0 0 [(0, .ref 0)] [] (mw S) (fM_changed S)
  unfold fM_changed
  refine rr_aload_n dX11_changed_0 rfl 0 rfl ?_
  refine rr_iconst (v := 0) dX11_changed_1 (by decide) ?_
  refine rr_put cl11 k11_126 (Nat.le_of_ble_eq_true rfl) rfl rfl (by decide) rfl (Nat.le_of_ble_eq_true rfl) dX11_changed_2 (mp21 S 0) ?_
  refine rr_letS (W := mw) (fun S1 => ?_)
  refine rr_aload_n dX11_changed_5 rfl 0 rfl ?_
  refine rr_iconst (v := 0) dX11_changed_6 (by decide) ?_
  refine rr_put cl11 k11_130 (Nat.le_of_ble_eq_true rfl) rfl rfl (by decide) rfl (Nat.le_of_ble_eq_true rfl) dX11_changed_7 (mp28 S1 0) ?_
  refine rr_letS (W := mw) (fun S2 => ?_)
  exact rr_vret dX11_changed_10 rfl rfl rfl rfl rfl
def JM_kind_134 (a5 : rr_T) : Option (Int32 × rr_T) :=
  rr_l (pI a5 0 (((a5.1 0) + 1))) (fun S6 =>
  (fM_changed S6).bind (fun S7 =>
  some ((((S7.1 0) - 1), S7))))
set_option maxRecDepth 20000 in
theorem tM_kind_134 {l : Launch} {G : rr_G} (a5 : rr_T) : RR l G mX11_kind 1 22 fxA rvIS (fun q => mw q.2) z0 z0 0 0 134 [(0, .ref 0)] [] (mw a5) (JM_kind_134 a5) := by
  unfold JM_kind_134
  refine rr_aload_n dX11_kind_134 rfl 0 rfl ?_
  refine rr_dup dX11_kind_135 rfl ?_
  refine rr_get (v := .int (a5.1 0)) cl11 k11_133 (Nat.le_of_ble_eq_true rfl) rfl rfl dX11_kind_136 ?_
  refine rr_iconst (v := 1) dX11_kind_139 (by decide) ?_
  refine rr_iadd dX11_kind_140 ?_
  refine rr_put cl11 k11_133 (Nat.le_of_ble_eq_true rfl) rfl rfl rfl rfl (Nat.le_of_ble_eq_true rfl) dX11_kind_141 (mp0 a5 (((a5.1 0) + 1))) ?_
  refine rr_letS (W := mw) (fun S6 => ?_)
  refine rr_aload_n dX11_kind_144 rfl 0 rfl ?_
  refine rr_vs (W := mw) (As := []) (rest := []) (tM_changed S6 ) v11_140 rfl rfl ⟨Nat.le_of_ble_eq_true rfl, Nat.le_of_ble_eq_true rfl⟩ (fun _ z => z) rfl rfl (Nat.le_of_ble_eq_true rfl) rfl dX11_kind_145 (fun S7 => ?_)
  refine rr_aload_n dX11_kind_148 rfl 0 rfl ?_
  refine rr_get (v := .int (S7.1 0)) cl11 k11_133 (Nat.le_of_ble_eq_true rfl) rfl rfl dX11_kind_149 ?_
  refine rr_iconst (v := 1) dX11_kind_152 (by decide) ?_
  refine rr_isub dX11_kind_153 ?_
  exact rr_iret dX11_kind_154 rfl rfl rfl rfl rfl
def LM_kind_69 (x1 : Int32) (rec69 : (Int32 × rr_T) → Option (Int32 × rr_T)) (a8 : Int32 × rr_T) : Option (Int32 × rr_T) :=
  if inb (a8.2.1 0) 4 then
  if (a8.2.2.1 2 (a8.2.1 0).toNatClampNeg) ≤ a8.1 then
    JM_kind_134 a8.2
  else
    if inb ((4 * x1) + a8.1) 16 then
      if inb ((4 * (a8.2.1 0)) + a8.1) 16 then
        rr_l (pA a8.2 3 (((4 * (a8.2.1 0)) + a8.1)) ((a8.2.2.1 3 ((4 * x1) + a8.1).toNatClampNeg))) (fun S9 =>
          if inb ((4 * x1) + a8.1) 16 then
          if inb ((4 * (S9.1 0)) + a8.1) 16 then
            rr_l (pA S9 4 (((4 * (S9.1 0)) + a8.1)) ((S9.2.1 4 ((4 * x1) + a8.1).toNatClampNeg))) (fun S10 =>
              rec69 ((a8.1 + 1), S10))
          else none
        else none)
      else none
    else none
else none
set_option maxRecDepth 20000 in
theorem tM_kind_69 {l : Launch} {G : rr_G} (x1 : Int32) : ∀ (n : Nat) (a : Int32 × rr_T), RR l G mX11_kind 1 22 fxA rvIS (fun q => mw q.2) z0 z0 0 0 69 [(0, .ref 0), (1, .int x1), (2, .int a.1)] [] (mw a.2) (rr_loop n (LM_kind_69 x1) a) := by
  refine rr_lp (α := Int32 × rr_T) 69 (fun a => [(0, .ref 0), (1, .int x1), (2, .int a.1)]) (fun a => (mw a.2)) (fun rec69 hrec69 a8 => ?_)
  show RR l G mX11_kind 1 22 fxA rvIS (fun q => mw q.2) z0 z0 0 0 69 [(0, .ref 0), (1, .int x1), (2, .int a8.1)] [] (mw a8.2) (LM_kind_69 x1 rec69 a8)
  unfold LM_kind_69
  refine rr_iload_n dX11_kind_69 rfl 2 rfl ?_
  refine rr_aload_n dX11_kind_70 rfl 0 rfl ?_
  refine rr_get (v := .ref 2) cl11 k11_13 (Nat.le_of_ble_eq_true rfl) rfl rfl dX11_kind_71 ?_
  refine rr_aload_n dX11_kind_74 rfl 0 rfl ?_
  refine rr_get (v := .int (a8.2.1 0)) cl11 k11_133 (Nat.le_of_ble_eq_true rfl) rfl rfl dX11_kind_75 ?_
  refine rr_if (fun z => ?_)
  refine rr_iald (len := 4) rfl (inb_in z) dX11_kind_78 ?_
  refine rr_icmp_ge (tgt := 134) dX11_kind_79 (by decide) (fun _ => ?_) (fun _ => ?_)
  · refine rr_sub [0] rfl ?_
    exact tM_kind_134 a8.2
  · refine rr_aload_n dX11_kind_82 rfl 0 rfl ?_
    refine rr_get (v := .ref 3) cl11 k11_16 (Nat.le_of_ble_eq_true rfl) rfl rfl dX11_kind_83 ?_
    refine rr_iconst (v := 4) dX11_kind_86 (by decide) ?_
    refine rr_aload_n dX11_kind_87 rfl 0 rfl ?_
    refine rr_get (v := .int (a8.2.1 0)) cl11 k11_133 (Nat.le_of_ble_eq_true rfl) rfl rfl dX11_kind_88 ?_
    refine rr_imul dX11_kind_91 ?_
    refine rr_iload_n dX11_kind_92 rfl 2 rfl ?_
    refine rr_iadd dX11_kind_93 ?_
    refine rr_aload_n dX11_kind_94 rfl 0 rfl ?_
    refine rr_get (v := .ref 3) cl11 k11_16 (Nat.le_of_ble_eq_true rfl) rfl rfl dX11_kind_95 ?_
    refine rr_iconst (v := 4) dX11_kind_98 (by decide) ?_
    refine rr_iload_n dX11_kind_99 rfl 1 rfl ?_
    refine rr_imul dX11_kind_100 ?_
    refine rr_iload_n dX11_kind_101 rfl 2 rfl ?_
    refine rr_iadd dX11_kind_102 ?_
    refine rr_if (fun z => ?_)
    refine rr_iald (len := 16) rfl (inb_in z) dX11_kind_103 ?_
    refine rr_if (fun z => ?_)
    refine rr_iast (len := 16) rfl (inb_in z) dX11_kind_104 (ma3 a8.2 (((4 * (a8.2.1 0)) + a8.1)) ((a8.2.2.1 3 ((4 * x1) + a8.1).toNatClampNeg))) ?_
    refine rr_letS (W := mw) (fun S9 => ?_)
    refine rr_aload_n dX11_kind_105 rfl 0 rfl ?_
    refine rr_get (v := .ref 4) cl11 k11_19 (Nat.le_of_ble_eq_true rfl) rfl rfl dX11_kind_106 ?_
    refine rr_iconst (v := 4) dX11_kind_109 (by decide) ?_
    refine rr_aload_n dX11_kind_110 rfl 0 rfl ?_
    refine rr_get (v := .int (S9.1 0)) cl11 k11_133 (Nat.le_of_ble_eq_true rfl) rfl rfl dX11_kind_111 ?_
    refine rr_imul dX11_kind_114 ?_
    refine rr_iload_n dX11_kind_115 rfl 2 rfl ?_
    refine rr_iadd dX11_kind_116 ?_
    refine rr_aload_n dX11_kind_117 rfl 0 rfl ?_
    refine rr_get (v := .ref 4) cl11 k11_19 (Nat.le_of_ble_eq_true rfl) rfl rfl dX11_kind_118 ?_
    refine rr_iconst (v := 4) dX11_kind_121 (by decide) ?_
    refine rr_iload_n dX11_kind_122 rfl 1 rfl ?_
    refine rr_imul dX11_kind_123 ?_
    refine rr_iload_n dX11_kind_124 rfl 2 rfl ?_
    refine rr_iadd dX11_kind_125 ?_
    refine rr_if (fun z => ?_)
    refine rr_iald (len := 16) rfl (inb_in z) dX11_kind_126 ?_
    refine rr_if (fun z => ?_)
    refine rr_iast (len := 16) rfl (inb_in z) dX11_kind_127 (ma4 S9 (((4 * (S9.1 0)) + a8.1)) ((S9.2.1 4 ((4 * x1) + a8.1).toNatClampNeg))) ?_
    refine rr_letS (W := mw) (fun S10 => ?_)
    refine rr_iinc (lv' := [(2, .int (a8.1 + 1)), (0, .ref 0), (1, .int x1)]) dX11_kind_128 2 rfl (by decide) rfl ?_
    refine rr_goto (tgt := 69) dX11_kind_131 (by decide) ?_
    refine rr_sub [1, 2, 0] rfl ?_
    exact hrec69 ((a8.1 + 1), S10)
def JM_kind_66 (x1 : Int32) (S2 : rr_T) (a3 : Int32) : Option (Int32 × rr_T) :=
  if inb (S2.1 0) 4 then
  rr_l (pA S2 2 ((S2.1 0)) a3) (fun S4 =>
    rr_loop FU (LM_kind_69 x1) (0, S4))
else none
set_option maxRecDepth 20000 in
theorem tM_kind_66 {l : Launch} {G : rr_G} (x1 : Int32) (S2 : rr_T) (a3 : Int32) : RR l G mX11_kind 1 22 fxA rvIS (fun q => mw q.2) z0 z0 0 0 66 [(0, .ref 0), (1, .int x1)] [.int a3, .int (S2.1 0), .ref 2] (mw S2) (JM_kind_66 x1 S2 a3) := by
  unfold JM_kind_66
  refine rr_if (fun z => ?_)
  refine rr_iast (len := 4) rfl (inb_in z) dX11_kind_66 (ma2 S2 ((S2.1 0)) a3) ?_
  refine rr_letS (W := mw) (fun S4 => ?_)
  refine rr_iconst (v := 0) dX11_kind_67 (by decide) ?_
  refine rr_istore_n (lv' := [(2, .int 0), (0, .ref 0), (1, .int x1)]) dX11_kind_68 rfl (by decide) rfl ?_
  refine rr_sub [1, 2, 0] rfl ?_
  exact tM_kind_69 x1 FU (0, S4)
def JM_kind_22 (S : rr_T) (x1 : Int32) (a1 : Unit) : Option (Int32 × rr_T) :=
  if (S.1 0) = 4 then
  some (((-104), S))
else
  if inb (S.1 0) 4 then
    rr_l (pA S 1 ((S.1 0)) x1) (fun S2 =>
      if x1 = (-1) then
      JM_kind_66 x1 S2 0
    else
      if inb x1 4 then
        JM_kind_66 x1 S2 ((S2.2.1 2 x1.toNatClampNeg))
      else none)
  else none
set_option maxRecDepth 20000 in
theorem tM_kind_22 {l : Launch} {G : rr_G} (S : rr_T) (x1 : Int32) (a1 : Unit) : RR l G mX11_kind 1 22 fxA rvIS (fun q => mw q.2) z0 z0 0 0 22 [(0, .ref 0), (1, .int x1)] [] (mw S) (JM_kind_22 S x1 a1) := by
  unfold JM_kind_22
  refine rr_aload_n dX11_kind_22 rfl 0 rfl ?_
  refine rr_get (v := .int (S.1 0)) cl11 k11_133 (Nat.le_of_ble_eq_true rfl) rfl rfl dX11_kind_23 ?_
  refine rr_iconst (v := 4) dX11_kind_26 (by decide) ?_
  refine rr_icmp_ne (tgt := 33) dX11_kind_27 (by decide) (fun _ => ?_) (fun _ => ?_)
  · refine rr_aload_n dX11_kind_33 rfl 0 rfl ?_
    refine rr_get (v := .ref 1) cl11 k11_7 (Nat.le_of_ble_eq_true rfl) rfl rfl dX11_kind_34 ?_
    refine rr_aload_n dX11_kind_37 rfl 0 rfl ?_
    refine rr_get (v := .int (S.1 0)) cl11 k11_133 (Nat.le_of_ble_eq_true rfl) rfl rfl dX11_kind_38 ?_
    refine rr_iload_n dX11_kind_41 rfl 1 rfl ?_
    refine rr_if (fun z => ?_)
    refine rr_iast (len := 4) rfl (inb_in z) dX11_kind_42 (ma1 S ((S.1 0)) x1) ?_
    refine rr_letS (W := mw) (fun S2 => ?_)
    refine rr_aload_n dX11_kind_43 rfl 0 rfl ?_
    refine rr_get (v := .ref 2) cl11 k11_13 (Nat.le_of_ble_eq_true rfl) rfl rfl dX11_kind_44 ?_
    refine rr_aload_n dX11_kind_47 rfl 0 rfl ?_
    refine rr_get (v := .int (S2.1 0)) cl11 k11_133 (Nat.le_of_ble_eq_true rfl) rfl rfl dX11_kind_48 ?_
    refine rr_iload_n dX11_kind_51 rfl 1 rfl ?_
    refine rr_iconst (v := (-1)) dX11_kind_52 (by decide) ?_
    refine rr_icmp_ne (tgt := 60) dX11_kind_53 (by decide) (fun _ => ?_) (fun _ => ?_)
    · refine rr_aload_n dX11_kind_60 rfl 0 rfl ?_
      refine rr_get (v := .ref 2) cl11 k11_13 (Nat.le_of_ble_eq_true rfl) rfl rfl dX11_kind_61 ?_
      refine rr_iload_n dX11_kind_64 rfl 1 rfl ?_
      refine rr_if (fun z => ?_)
      refine rr_iald (len := 4) rfl (inb_in z) dX11_kind_65 ?_
      exact tM_kind_66 x1 S2 ((S2.2.1 2 x1.toNatClampNeg))
    · refine rr_iconst (v := 0) dX11_kind_56 (by decide) ?_
      refine rr_goto (tgt := 66) dX11_kind_57 (by decide) ?_
      exact tM_kind_66 x1 S2 0
  · refine rr_bipush (v := (-104)) dX11_kind_30 (by decide) ?_
    exact rr_iret dX11_kind_32 rfl rfl rfl rfl rfl
def fM_kind (S : rr_T) (x1 : Int32) : Option (Int32 × rr_T) :=
  if x1 = (-1) then
  JM_kind_22 S x1 ()
else
  (fM_in x1 0 (((S.1 0) - 1))).bind (fun r11 =>
    if r11 = 0 then
    some (((-101), S))
  else
    JM_kind_22 S x1 ())
set_option maxRecDepth 20000 in
theorem tM_kind {l : Launch} {G : rr_G} (S : rr_T) (x1 : Int32) : TT l G mX11_kind 1 22 fxA rvIS (fun q => mw q.2) z0 z0 0 0 [.ref 0, .int x1] (mw S) (fM_kind S x1) := by
  refine TT.by (by decide) (Nat.le_of_ble_eq_true rfl) (lv := [(0, .ref 0), (1, .int x1)]) rfl ?_
  show RR l G mX11_kind 1 22 fxA rvIS (fun q => mw q.2) z0 z0 0 0 0 [(0, .ref 0), (1, .int x1)] [] (mw S) (fM_kind S x1)
  unfold fM_kind
  refine rr_iload_n dX11_kind_0 rfl 1 rfl ?_
  refine rr_iconst (v := (-1)) dX11_kind_1 (by decide) ?_
  refine rr_icmp_eq (tgt := 22) dX11_kind_2 (by decide) (fun _ => ?_) (fun _ => ?_)
  · exact tM_kind_22 S x1 ()
  · refine rr_iload_n dX11_kind_5 rfl 1 rfl ?_
    refine rr_iconst (v := 0) dX11_kind_6 (by decide) ?_
    refine rr_aload_n dX11_kind_7 rfl 0 rfl ?_
    refine rr_get (v := .int (S.1 0)) cl11 k11_133 (Nat.le_of_ble_eq_true rfl) rfl rfl dX11_kind_8 ?_
    refine rr_iconst (v := 1) dX11_kind_11 (by decide) ?_
    refine rr_isub dX11_kind_12 ?_
    refine rr_si (As := [.int x1, .int 0, .int ((S.1 0) - 1)]) (rest := []) (tM_in x1 0 (((S.1 0) - 1)) (mw S)) s11_136 rfl ⟨Nat.le_of_ble_eq_true rfl, Nat.le_of_ble_eq_true rfl⟩ rfl rfl (Nat.le_of_ble_eq_true rfl) rfl dX11_kind_13 (fun r11 => ?_)
    refine rr_if_ne (tgt := 22) dX11_kind_16 (by decide) (fun _ => ?_) (fun _ => ?_)
    · exact tM_kind_22 S x1 ()
    · refine rr_bipush (v := (-101)) dX11_kind_19 (by decide) ?_
      exact rr_iret dX11_kind_21 rfl rfl rfl rfl rfl
def JM_field_93 (S : rr_T) (x1 : Int32) (x2 : Int32) (x3 : Int32) (a5 : Unit) : Option (Int32 × rr_T) :=
  if inb x1 4 then
  if (S.2.1 2 x1.toNatClampNeg) = 4 then
    some (((-104), S))
  else
    if inb x1 4 then
      if inb ((4 * x1) + (S.2.1 2 x1.toNatClampNeg)) 16 then
        rr_l (pA S 3 (((4 * x1) + (S.2.1 2 x1.toNatClampNeg))) x2) (fun S6 =>
          if inb x1 4 then
          if inb ((4 * x1) + (S6.2.1 2 x1.toNatClampNeg)) 16 then
            rr_l (pA S6 4 (((4 * x1) + (S6.2.1 2 x1.toNatClampNeg))) x3) (fun S7 =>
              if inb x1 4 then
              if inb x1 4 then
                rr_l (pA S7 2 x1 (((S7.2.1 2 x1.toNatClampNeg) + 1))) (fun S8 =>
                  (fM_changed S8).bind (fun S9 =>
                  if inb x1 4 then
                  some ((((S9.2.1 2 x1.toNatClampNeg) - 1), S9))
                else none))
              else none
            else none)
          else none
        else none)
      else none
    else none
else none
set_option maxRecDepth 20000 in
theorem tM_field_93 {l : Launch} {G : rr_G} (S : rr_T) (x1 : Int32) (x2 : Int32) (x3 : Int32) (a5 : Unit) : RR l G mX11_field 1 22 fxA rvIS (fun q => mw q.2) z0 z0 0 0 93 [(0, .ref 0), (1, .int x1), (2, .int x2), (3, .int x3)] [] (mw S) (JM_field_93 S x1 x2 x3 a5) := by
  unfold JM_field_93
  refine rr_aload_n dX11_field_93 rfl 0 rfl ?_
  refine rr_get (v := .ref 2) cl11 k11_13 (Nat.le_of_ble_eq_true rfl) rfl rfl dX11_field_94 ?_
  refine rr_iload_n dX11_field_97 rfl 1 rfl ?_
  refine rr_if (fun z => ?_)
  refine rr_iald (len := 4) rfl (inb_in z) dX11_field_98 ?_
  refine rr_iconst (v := 4) dX11_field_99 (by decide) ?_
  refine rr_icmp_ne (tgt := 106) dX11_field_100 (by decide) (fun _ => ?_) (fun _ => ?_)
  · refine rr_aload_n dX11_field_106 rfl 0 rfl ?_
    refine rr_get (v := .ref 3) cl11 k11_16 (Nat.le_of_ble_eq_true rfl) rfl rfl dX11_field_107 ?_
    refine rr_iconst (v := 4) dX11_field_110 (by decide) ?_
    refine rr_iload_n dX11_field_111 rfl 1 rfl ?_
    refine rr_imul dX11_field_112 ?_
    refine rr_aload_n dX11_field_113 rfl 0 rfl ?_
    refine rr_get (v := .ref 2) cl11 k11_13 (Nat.le_of_ble_eq_true rfl) rfl rfl dX11_field_114 ?_
    refine rr_iload_n dX11_field_117 rfl 1 rfl ?_
    refine rr_if (fun z => ?_)
    refine rr_iald (len := 4) rfl (inb_in z) dX11_field_118 ?_
    refine rr_iadd dX11_field_119 ?_
    refine rr_iload_n dX11_field_120 rfl 2 rfl ?_
    refine rr_if (fun z => ?_)
    refine rr_iast (len := 16) rfl (inb_in z) dX11_field_121 (ma3 S (((4 * x1) + (S.2.1 2 x1.toNatClampNeg))) x2) ?_
    refine rr_letS (W := mw) (fun S6 => ?_)
    refine rr_aload_n dX11_field_122 rfl 0 rfl ?_
    refine rr_get (v := .ref 4) cl11 k11_19 (Nat.le_of_ble_eq_true rfl) rfl rfl dX11_field_123 ?_
    refine rr_iconst (v := 4) dX11_field_126 (by decide) ?_
    refine rr_iload_n dX11_field_127 rfl 1 rfl ?_
    refine rr_imul dX11_field_128 ?_
    refine rr_aload_n dX11_field_129 rfl 0 rfl ?_
    refine rr_get (v := .ref 2) cl11 k11_13 (Nat.le_of_ble_eq_true rfl) rfl rfl dX11_field_130 ?_
    refine rr_iload_n dX11_field_133 rfl 1 rfl ?_
    refine rr_if (fun z => ?_)
    refine rr_iald (len := 4) rfl (inb_in z) dX11_field_134 ?_
    refine rr_iadd dX11_field_135 ?_
    refine rr_iload_n dX11_field_136 rfl 3 rfl ?_
    refine rr_if (fun z => ?_)
    refine rr_iast (len := 16) rfl (inb_in z) dX11_field_137 (ma4 S6 (((4 * x1) + (S6.2.1 2 x1.toNatClampNeg))) x3) ?_
    refine rr_letS (W := mw) (fun S7 => ?_)
    refine rr_aload_n dX11_field_138 rfl 0 rfl ?_
    refine rr_get (v := .ref 2) cl11 k11_13 (Nat.le_of_ble_eq_true rfl) rfl rfl dX11_field_139 ?_
    refine rr_iload_n dX11_field_142 rfl 1 rfl ?_
    refine rr_dup2 dX11_field_143 rfl rfl ?_
    refine rr_if (fun z => ?_)
    refine rr_iald (len := 4) rfl (inb_in z) dX11_field_144 ?_
    refine rr_iconst (v := 1) dX11_field_145 (by decide) ?_
    refine rr_iadd dX11_field_146 ?_
    refine rr_if (fun z => ?_)
    refine rr_iast (len := 4) rfl (inb_in z) dX11_field_147 (ma2 S7 x1 (((S7.2.1 2 x1.toNatClampNeg) + 1))) ?_
    refine rr_letS (W := mw) (fun S8 => ?_)
    refine rr_aload_n dX11_field_148 rfl 0 rfl ?_
    refine rr_vs (W := mw) (As := []) (rest := []) (tM_changed S8 ) v11_140 rfl rfl ⟨Nat.le_of_ble_eq_true rfl, Nat.le_of_ble_eq_true rfl⟩ (fun _ z => z) rfl rfl (Nat.le_of_ble_eq_true rfl) rfl dX11_field_149 (fun S9 => ?_)
    refine rr_aload_n dX11_field_152 rfl 0 rfl ?_
    refine rr_get (v := .ref 2) cl11 k11_13 (Nat.le_of_ble_eq_true rfl) rfl rfl dX11_field_153 ?_
    refine rr_iload_n dX11_field_156 rfl 1 rfl ?_
    refine rr_if (fun z => ?_)
    refine rr_iald (len := 4) rfl (inb_in z) dX11_field_157 ?_
    refine rr_iconst (v := 1) dX11_field_158 (by decide) ?_
    refine rr_isub dX11_field_159 ?_
    exact rr_iret dX11_field_160 rfl rfl rfl rfl rfl
  · refine rr_bipush (v := (-104)) dX11_field_103 (by decide) ?_
    exact rr_iret dX11_field_105 rfl rfl rfl rfl rfl
def LM_field_64 (S : rr_T) (x1 : Int32) (x2 : Int32) (x3 : Int32) (rec64 : Int32 → Option (Int32 × rr_T)) (a10 : Int32) : Option (Int32 × rr_T) :=
  if (S.1 0) ≤ a10 then
  JM_field_93 S x1 x2 x3 ()
else
  if inb a10 4 then
    if (S.2.1 1 a10.toNatClampNeg) = x1 then
      some (((-103), S))
    else
      rec64 ((a10 + 1))
  else none
set_option maxRecDepth 20000 in
theorem tM_field_64 {l : Launch} {G : rr_G} (S : rr_T) (x1 : Int32) (x2 : Int32) (x3 : Int32) : ∀ (n : Nat) (a : Int32), RR l G mX11_field 1 22 fxA rvIS (fun q => mw q.2) z0 z0 0 0 64 [(0, .ref 0), (1, .int x1), (2, .int x2), (3, .int x3), (4, .int a)] [] (mw S) (rr_loop n (LM_field_64 S x1 x2 x3) a) := by
  refine rr_lp (α := Int32) 64 (fun a => [(0, .ref 0), (1, .int x1), (2, .int x2), (3, .int x3), (4, .int a)]) (fun a => (mw S)) (fun rec64 hrec64 a10 => ?_)
  show RR l G mX11_field 1 22 fxA rvIS (fun q => mw q.2) z0 z0 0 0 64 [(0, .ref 0), (1, .int x1), (2, .int x2), (3, .int x3), (4, .int a10)] [] (mw S) (LM_field_64 S x1 x2 x3 rec64 a10)
  unfold LM_field_64
  refine rr_iload dX11_field_64 4 rfl ?_
  refine rr_aload_n dX11_field_66 rfl 0 rfl ?_
  refine rr_get (v := .int (S.1 0)) cl11 k11_133 (Nat.le_of_ble_eq_true rfl) rfl rfl dX11_field_67 ?_
  refine rr_icmp_ge (tgt := 93) dX11_field_70 (by decide) (fun _ => ?_) (fun _ => ?_)
  · refine rr_sub [0, 1, 2, 3] rfl ?_
    exact tM_field_93 S x1 x2 x3 ()
  · refine rr_aload_n dX11_field_73 rfl 0 rfl ?_
    refine rr_get (v := .ref 1) cl11 k11_7 (Nat.le_of_ble_eq_true rfl) rfl rfl dX11_field_74 ?_
    refine rr_iload dX11_field_77 4 rfl ?_
    refine rr_if (fun z => ?_)
    refine rr_iald (len := 4) rfl (inb_in z) dX11_field_79 ?_
    refine rr_iload_n dX11_field_80 rfl 1 rfl ?_
    refine rr_icmp_ne (tgt := 87) dX11_field_81 (by decide) (fun _ => ?_) (fun _ => ?_)
    · refine rr_iinc (lv' := [(4, .int (a10 + 1)), (0, .ref 0), (1, .int x1), (2, .int x2), (3, .int x3)]) dX11_field_87 4 rfl (by decide) rfl ?_
      refine rr_goto (tgt := 64) dX11_field_90 (by decide) ?_
      refine rr_sub [1, 2, 3, 4, 0] rfl ?_
      exact hrec64 ((a10 + 1))
    · refine rr_bipush (v := (-103)) dX11_field_84 (by decide) ?_
      exact rr_iret dX11_field_86 rfl rfl rfl rfl rfl
def JM_field_61 (S : rr_T) (x1 : Int32) (x2 : Int32) (x3 : Int32) (a4 : Unit) : Option (Int32 × rr_T) :=
  rr_loop FU (LM_field_64 S x1 x2 x3) 0
set_option maxRecDepth 20000 in
theorem tM_field_61 {l : Launch} {G : rr_G} (S : rr_T) (x1 : Int32) (x2 : Int32) (x3 : Int32) (a4 : Unit) : RR l G mX11_field 1 22 fxA rvIS (fun q => mw q.2) z0 z0 0 0 61 [(0, .ref 0), (1, .int x1), (2, .int x2), (3, .int x3)] [] (mw S) (JM_field_61 S x1 x2 x3 a4) := by
  unfold JM_field_61
  refine rr_iconst (v := 0) dX11_field_61 (by decide) ?_
  refine rr_istore (lv' := [(4, .int 0), (0, .ref 0), (1, .int x1), (2, .int x2), (3, .int x3)]) dX11_field_62 (by decide) rfl ?_
  refine rr_sub [1, 2, 3, 4, 0] rfl ?_
  exact tM_field_64 S x1 x2 x3 FU 0
def JM_field_35 (S : rr_T) (x1 : Int32) (x2 : Int32) (x3 : Int32) (a2 : Unit) : Option (Int32 × rr_T) :=
  (fM_in x2 0 1).bind (fun r3 =>
  if r3 = 0 then
  some (((-102), S))
else
  if x2 = 1 then
    (fM_in x3 1 3).bind (fun r11 =>
      if r11 = 0 then
      some (((-102), S))
    else
      JM_field_61 S x1 x2 x3 ())
  else
    JM_field_61 S x1 x2 x3 ())
set_option maxRecDepth 20000 in
theorem tM_field_35 {l : Launch} {G : rr_G} (S : rr_T) (x1 : Int32) (x2 : Int32) (x3 : Int32) (a2 : Unit) : RR l G mX11_field 1 22 fxA rvIS (fun q => mw q.2) z0 z0 0 0 35 [(0, .ref 0), (1, .int x1), (2, .int x2), (3, .int x3)] [] (mw S) (JM_field_35 S x1 x2 x3 a2) := by
  unfold JM_field_35
  refine rr_iload_n dX11_field_35 rfl 2 rfl ?_
  refine rr_iconst (v := 0) dX11_field_36 (by decide) ?_
  refine rr_iconst (v := 1) dX11_field_37 (by decide) ?_
  refine rr_si (As := [.int x2, .int 0, .int 1]) (rest := []) (tM_in x2 0 1 (mw S)) s11_136 rfl ⟨Nat.le_of_ble_eq_true rfl, Nat.le_of_ble_eq_true rfl⟩ rfl rfl (Nat.le_of_ble_eq_true rfl) rfl dX11_field_38 (fun r3 => ?_)
  refine rr_if_eq (tgt := 58) dX11_field_41 (by decide) (fun _ => ?_) (fun _ => ?_)
  · refine rr_bipush (v := (-102)) dX11_field_58 (by decide) ?_
    exact rr_iret dX11_field_60 rfl rfl rfl rfl rfl
  · refine rr_iload_n dX11_field_44 rfl 2 rfl ?_
    refine rr_iconst (v := 1) dX11_field_45 (by decide) ?_
    refine rr_icmp_ne (tgt := 61) dX11_field_46 (by decide) (fun _ => ?_) (fun _ => ?_)
    · exact tM_field_61 S x1 x2 x3 ()
    · refine rr_iload_n dX11_field_49 rfl 3 rfl ?_
      refine rr_iconst (v := 1) dX11_field_50 (by decide) ?_
      refine rr_iconst (v := 3) dX11_field_51 (by decide) ?_
      refine rr_si (As := [.int x3, .int 1, .int 3]) (rest := []) (tM_in x3 1 3 (mw S)) s11_136 rfl ⟨Nat.le_of_ble_eq_true rfl, Nat.le_of_ble_eq_true rfl⟩ rfl rfl (Nat.le_of_ble_eq_true rfl) rfl dX11_field_52 (fun r11 => ?_)
      refine rr_if_ne (tgt := 61) dX11_field_55 (by decide) (fun _ => ?_) (fun _ => ?_)
      · exact tM_field_61 S x1 x2 x3 ()
      · refine rr_bipush (v := (-102)) dX11_field_58 (by decide) ?_
        exact rr_iret dX11_field_60 rfl rfl rfl rfl rfl
def fM_field (S : rr_T) (x1 : Int32) (x2 : Int32) (x3 : Int32) : Option (Int32 × rr_T) :=
  (fM_in x1 0 (((S.1 0) - 1))).bind (fun r1 =>
  if r1 = 0 then
  some (((-101), S))
else
  if x2 = 0 then
    (fM_in x3 0 (((S.1 0) - 1))).bind (fun r12 =>
      if r12 = 0 then
      some (((-101), S))
    else
      JM_field_35 S x1 x2 x3 ())
  else
    JM_field_35 S x1 x2 x3 ())
set_option maxRecDepth 20000 in
theorem tM_field {l : Launch} {G : rr_G} (S : rr_T) (x1 : Int32) (x2 : Int32) (x3 : Int32) : TT l G mX11_field 1 22 fxA rvIS (fun q => mw q.2) z0 z0 0 0 [.ref 0, .int x1, .int x2, .int x3] (mw S) (fM_field S x1 x2 x3) := by
  refine TT.by (by decide) (Nat.le_of_ble_eq_true rfl) (lv := [(0, .ref 0), (1, .int x1), (2, .int x2), (3, .int x3)]) rfl ?_
  show RR l G mX11_field 1 22 fxA rvIS (fun q => mw q.2) z0 z0 0 0 0 [(0, .ref 0), (1, .int x1), (2, .int x2), (3, .int x3)] [] (mw S) (fM_field S x1 x2 x3)
  unfold fM_field
  refine rr_iload_n dX11_field_0 rfl 1 rfl ?_
  refine rr_iconst (v := 0) dX11_field_1 (by decide) ?_
  refine rr_aload_n dX11_field_2 rfl 0 rfl ?_
  refine rr_get (v := .int (S.1 0)) cl11 k11_133 (Nat.le_of_ble_eq_true rfl) rfl rfl dX11_field_3 ?_
  refine rr_iconst (v := 1) dX11_field_6 (by decide) ?_
  refine rr_isub dX11_field_7 ?_
  refine rr_si (As := [.int x1, .int 0, .int ((S.1 0) - 1)]) (rest := []) (tM_in x1 0 (((S.1 0) - 1)) (mw S)) s11_136 rfl ⟨Nat.le_of_ble_eq_true rfl, Nat.le_of_ble_eq_true rfl⟩ rfl rfl (Nat.le_of_ble_eq_true rfl) rfl dX11_field_8 (fun r1 => ?_)
  refine rr_if_eq (tgt := 32) dX11_field_11 (by decide) (fun _ => ?_) (fun _ => ?_)
  · refine rr_bipush (v := (-101)) dX11_field_32 (by decide) ?_
    exact rr_iret dX11_field_34 rfl rfl rfl rfl rfl
  · refine rr_iload_n dX11_field_14 rfl 2 rfl ?_
    refine rr_if_ne (tgt := 35) dX11_field_15 (by decide) (fun _ => ?_) (fun _ => ?_)
    · exact tM_field_35 S x1 x2 x3 ()
    · refine rr_iload_n dX11_field_18 rfl 3 rfl ?_
      refine rr_iconst (v := 0) dX11_field_19 (by decide) ?_
      refine rr_aload_n dX11_field_20 rfl 0 rfl ?_
      refine rr_get (v := .int (S.1 0)) cl11 k11_133 (Nat.le_of_ble_eq_true rfl) rfl rfl dX11_field_21 ?_
      refine rr_iconst (v := 1) dX11_field_24 (by decide) ?_
      refine rr_isub dX11_field_25 ?_
      refine rr_si (As := [.int x3, .int 0, .int ((S.1 0) - 1)]) (rest := []) (tM_in x3 0 (((S.1 0) - 1)) (mw S)) s11_136 rfl ⟨Nat.le_of_ble_eq_true rfl, Nat.le_of_ble_eq_true rfl⟩ rfl rfl (Nat.le_of_ble_eq_true rfl) rfl dX11_field_26 (fun r12 => ?_)
      refine rr_if_ne (tgt := 35) dX11_field_29 (by decide) (fun _ => ?_) (fun _ => ?_)
      · exact tM_field_35 S x1 x2 x3 ()
      · refine rr_bipush (v := (-101)) dX11_field_32 (by decide) ?_
        exact rr_iret dX11_field_34 rfl rfl rfl rfl rfl
def fM_input (S : rr_T) (x1 : Int32) : Option (Int32 × rr_T) :=
  (fM_in x1 0 (((S.1 0) - 1))).bind (fun r1 =>
  if r1 = 0 then
  some (((-101), S))
else
  if (S.1 5) = 2 then
    some (((-104), S))
  else
    if inb (S.1 5) 2 then
      rr_l (pA S 5 ((S.1 5)) x1) (fun S2 =>
        rr_l (pI S2 5 (((S2.1 5) + 1))) (fun S3 =>
        (fM_changed S3).bind (fun S4 =>
        some ((((S4.1 5) - 1), S4)))))
    else none)
set_option maxRecDepth 20000 in
theorem tM_input {l : Launch} {G : rr_G} (S : rr_T) (x1 : Int32) : TT l G mX11_input 1 22 fxA rvIS (fun q => mw q.2) z0 z0 0 0 [.ref 0, .int x1] (mw S) (fM_input S x1) := by
  refine TT.by (by decide) (Nat.le_of_ble_eq_true rfl) (lv := [(0, .ref 0), (1, .int x1)]) rfl ?_
  show RR l G mX11_input 1 22 fxA rvIS (fun q => mw q.2) z0 z0 0 0 0 [(0, .ref 0), (1, .int x1)] [] (mw S) (fM_input S x1)
  unfold fM_input
  refine rr_iload_n dX11_input_0 rfl 1 rfl ?_
  refine rr_iconst (v := 0) dX11_input_1 (by decide) ?_
  refine rr_aload_n dX11_input_2 rfl 0 rfl ?_
  refine rr_get (v := .int (S.1 0)) cl11 k11_133 (Nat.le_of_ble_eq_true rfl) rfl rfl dX11_input_3 ?_
  refine rr_iconst (v := 1) dX11_input_6 (by decide) ?_
  refine rr_isub dX11_input_7 ?_
  refine rr_si (As := [.int x1, .int 0, .int ((S.1 0) - 1)]) (rest := []) (tM_in x1 0 (((S.1 0) - 1)) (mw S)) s11_136 rfl ⟨Nat.le_of_ble_eq_true rfl, Nat.le_of_ble_eq_true rfl⟩ rfl rfl (Nat.le_of_ble_eq_true rfl) rfl dX11_input_8 (fun r1 => ?_)
  refine rr_if_ne (tgt := 17) dX11_input_11 (by decide) (fun _ => ?_) (fun _ => ?_)
  · refine rr_aload_n dX11_input_17 rfl 0 rfl ?_
    refine rr_get (v := .int (S.1 5)) cl11 k11_143 (Nat.le_of_ble_eq_true rfl) rfl rfl dX11_input_18 ?_
    refine rr_iconst (v := 2) dX11_input_21 (by decide) ?_
    refine rr_icmp_ne (tgt := 28) dX11_input_22 (by decide) (fun _ => ?_) (fun _ => ?_)
    · refine rr_aload_n dX11_input_28 rfl 0 rfl ?_
      refine rr_get (v := .ref 5) cl11 k11_22 (Nat.le_of_ble_eq_true rfl) rfl rfl dX11_input_29 ?_
      refine rr_aload_n dX11_input_32 rfl 0 rfl ?_
      refine rr_get (v := .int (S.1 5)) cl11 k11_143 (Nat.le_of_ble_eq_true rfl) rfl rfl dX11_input_33 ?_
      refine rr_iload_n dX11_input_36 rfl 1 rfl ?_
      refine rr_if (fun z => ?_)
      refine rr_iast (len := 2) rfl (inb_in z) dX11_input_37 (ma5 S ((S.1 5)) x1) ?_
      refine rr_letS (W := mw) (fun S2 => ?_)
      refine rr_aload_n dX11_input_38 rfl 0 rfl ?_
      refine rr_dup dX11_input_39 rfl ?_
      refine rr_get (v := .int (S2.1 5)) cl11 k11_143 (Nat.le_of_ble_eq_true rfl) rfl rfl dX11_input_40 ?_
      refine rr_iconst (v := 1) dX11_input_43 (by decide) ?_
      refine rr_iadd dX11_input_44 ?_
      refine rr_put cl11 k11_143 (Nat.le_of_ble_eq_true rfl) rfl rfl rfl rfl (Nat.le_of_ble_eq_true rfl) dX11_input_45 (mp5 S2 (((S2.1 5) + 1))) ?_
      refine rr_letS (W := mw) (fun S3 => ?_)
      refine rr_aload_n dX11_input_48 rfl 0 rfl ?_
      refine rr_vs (W := mw) (As := []) (rest := []) (tM_changed S3 ) v11_140 rfl rfl ⟨Nat.le_of_ble_eq_true rfl, Nat.le_of_ble_eq_true rfl⟩ (fun _ z => z) rfl rfl (Nat.le_of_ble_eq_true rfl) rfl dX11_input_49 (fun S4 => ?_)
      refine rr_aload_n dX11_input_52 rfl 0 rfl ?_
      refine rr_get (v := .int (S4.1 5)) cl11 k11_143 (Nat.le_of_ble_eq_true rfl) rfl rfl dX11_input_53 ?_
      refine rr_iconst (v := 1) dX11_input_56 (by decide) ?_
      refine rr_isub dX11_input_57 ?_
      exact rr_iret dX11_input_58 rfl rfl rfl rfl rfl
    · refine rr_bipush (v := (-104)) dX11_input_25 (by decide) ?_
      exact rr_iret dX11_input_27 rfl rfl rfl rfl rfl
  · refine rr_bipush (v := (-101)) dX11_input_14 (by decide) ?_
    exact rr_iret dX11_input_16 rfl rfl rfl rfl rfl
def fM_bound (S : rr_T) (x1 : Int32) : Option (Int32 × rr_T) :=
  (fM_in x1 1 5).bind (fun r1 =>
  if r1 = 0 then
  some (((-102), S))
else
  rr_l ((S.1 7)) (fun v2 =>
    rr_l (pI S 7 x1) (fun S3 =>
    (fM_changed S3).bind (fun S4 =>
    some ((v2, S4))))))
set_option maxRecDepth 20000 in
theorem tM_bound {l : Launch} {G : rr_G} (S : rr_T) (x1 : Int32) : TT l G mX11_bound 1 22 fxA rvIS (fun q => mw q.2) z0 z0 0 0 [.ref 0, .int x1] (mw S) (fM_bound S x1) := by
  refine TT.by (by decide) (Nat.le_of_ble_eq_true rfl) (lv := [(0, .ref 0), (1, .int x1)]) rfl ?_
  show RR l G mX11_bound 1 22 fxA rvIS (fun q => mw q.2) z0 z0 0 0 0 [(0, .ref 0), (1, .int x1)] [] (mw S) (fM_bound S x1)
  unfold fM_bound
  refine rr_iload_n dX11_bound_0 rfl 1 rfl ?_
  refine rr_iconst (v := 1) dX11_bound_1 (by decide) ?_
  refine rr_iconst (v := 5) dX11_bound_2 (by decide) ?_
  refine rr_si (As := [.int x1, .int 1, .int 5]) (rest := []) (tM_in x1 1 5 (mw S)) s11_136 rfl ⟨Nat.le_of_ble_eq_true rfl, Nat.le_of_ble_eq_true rfl⟩ rfl rfl (Nat.le_of_ble_eq_true rfl) rfl dX11_bound_3 (fun r1 => ?_)
  refine rr_if_ne (tgt := 12) dX11_bound_6 (by decide) (fun _ => ?_) (fun _ => ?_)
  · refine rr_aload_n dX11_bound_12 rfl 0 rfl ?_
    refine rr_get (v := .int (S.1 7)) cl11 k11_25 (Nat.le_of_ble_eq_true rfl) rfl rfl dX11_bound_13 ?_
    refine rr_letI (fun v2 => ?_)
    refine rr_istore_n (lv' := [(2, .int v2), (0, .ref 0), (1, .int x1)]) dX11_bound_16 rfl (by decide) rfl ?_
    refine rr_aload_n dX11_bound_17 rfl 1 rfl ?_
    refine rr_iload_n dX11_bound_18 rfl 2 rfl ?_
    refine rr_put cl11 k11_25 (Nat.le_of_ble_eq_true rfl) rfl rfl rfl rfl (Nat.le_of_ble_eq_true rfl) dX11_bound_19 (mp7 S x1) ?_
    refine rr_letS (W := mw) (fun S3 => ?_)
    refine rr_aload_n dX11_bound_22 rfl 1 rfl ?_
    refine rr_vs (W := mw) (As := []) (rest := []) (tM_changed S3 ) v11_140 rfl rfl ⟨Nat.le_of_ble_eq_true rfl, Nat.le_of_ble_eq_true rfl⟩ (fun _ z => z) rfl rfl (Nat.le_of_ble_eq_true rfl) rfl dX11_bound_23 (fun S4 => ?_)
    refine rr_iload_n dX11_bound_26 rfl 0 rfl ?_
    exact rr_iret dX11_bound_27 rfl rfl rfl rfl rfl
  · refine rr_bipush (v := (-102)) dX11_bound_9 (by decide) ?_
    exact rr_iret dX11_bound_11 rfl rfl rfl rfl rfl
def fM_isField (S : rr_T) (x1 : Int32) (x2 : Int32) : Option Int32 :=
  if inb x1 4 then
  (fM_in x2 0 (((S.2.1 2 x1.toNatClampNeg) - 1))).bind (fun r1 =>
    if r1 &&& 1 = r1 then
    some r1
  else none)
else none
set_option maxRecDepth 20000 in
theorem tM_isField {l : Launch} {G : rr_G} (S : rr_T) (x1 : Int32) (x2 : Int32) : TT l G mX11_isField 1 22 fxA rvI (fun _ => mw S) z0 z0 0 0 [.ref 0, .int x1, .int x2] (mw S) (fM_isField S x1 x2) := by
  refine TT.by (by decide) (Nat.le_of_ble_eq_true rfl) (lv := [(0, .ref 0), (1, .int x1), (2, .int x2)]) rfl ?_
  show RR l G mX11_isField 1 22 fxA rvI (fun _ => mw S) z0 z0 0 0 0 [(0, .ref 0), (1, .int x1), (2, .int x2)] [] (mw S) (fM_isField S x1 x2)
  unfold fM_isField
  refine rr_iload_n dX11_isField_0 rfl 2 rfl ?_
  refine rr_iconst (v := 0) dX11_isField_1 (by decide) ?_
  refine rr_aload_n dX11_isField_2 rfl 0 rfl ?_
  refine rr_get (v := .ref 2) cl11 k11_13 (Nat.le_of_ble_eq_true rfl) rfl rfl dX11_isField_3 ?_
  refine rr_iload_n dX11_isField_6 rfl 1 rfl ?_
  refine rr_if (fun z => ?_)
  refine rr_iald (len := 4) rfl (inb_in z) dX11_isField_7 ?_
  refine rr_iconst (v := 1) dX11_isField_8 (by decide) ?_
  refine rr_isub dX11_isField_9 ?_
  refine rr_si (As := [.int x2, .int 0, .int ((S.2.1 2 x1.toNatClampNeg) - 1)]) (rest := []) (tM_in x2 0 (((S.2.1 2 x1.toNatClampNeg) - 1)) (mw S)) s11_136 rfl ⟨Nat.le_of_ble_eq_true rfl, Nat.le_of_ble_eq_true rfl⟩ rfl rfl (Nat.le_of_ble_eq_true rfl) rfl dX11_isField_10 (fun r1 => ?_)
  refine rr_if (fun z => ?_)
  exact rr_zret dX11_isField_13 rfl z rfl rfl rfl rfl
def fM_isSort (S : rr_T) (x1 : Int32) (x2 : Int32) (x3 : Int32) : Option Int32 :=
  if inb ((4 * x1) + x2) 16 then
  if (S.2.1 3 ((4 * x1) + x2).toNatClampNeg) = x3 then
    some 1
  else
    some 0
else none
set_option maxRecDepth 20000 in
theorem tM_isSort {l : Launch} {G : rr_G} (S : rr_T) (x1 : Int32) (x2 : Int32) (x3 : Int32) : TT l G mX11_isSort 0 0 fxA rvI (fun _ => mw S) z0 z0 0 0 [.ref 0, .int x1, .int x2, .int x3] (mw S) (fM_isSort S x1 x2 x3) := by
  refine TT.by (by decide) (Nat.le_of_ble_eq_true rfl) (lv := [(0, .ref 0), (1, .int x1), (2, .int x2), (3, .int x3)]) rfl ?_
  show RR l G mX11_isSort 0 0 fxA rvI (fun _ => mw S) z0 z0 0 0 0 [(0, .ref 0), (1, .int x1), (2, .int x2), (3, .int x3)] [] (mw S) (fM_isSort S x1 x2 x3)
  unfold fM_isSort
  refine rr_aload_n dX11_isSort_0 rfl 0 rfl ?_
  refine rr_get (v := .ref 3) cl11 k11_16 (Nat.le_of_ble_eq_true rfl) rfl rfl dX11_isSort_1 ?_
  refine rr_iconst (v := 4) dX11_isSort_4 (by decide) ?_
  refine rr_iload_n dX11_isSort_5 rfl 1 rfl ?_
  refine rr_imul dX11_isSort_6 ?_
  refine rr_iload_n dX11_isSort_7 rfl 2 rfl ?_
  refine rr_iadd dX11_isSort_8 ?_
  refine rr_if (fun z => ?_)
  refine rr_iald (len := 16) rfl (inb_in z) dX11_isSort_9 ?_
  refine rr_iload_n dX11_isSort_10 rfl 3 rfl ?_
  refine rr_icmp_ne (tgt := 18) dX11_isSort_11 (by decide) (fun _ => ?_) (fun _ => ?_)
  · refine rr_iconst (v := 0) dX11_isSort_18 (by decide) ?_
    exact rr_zret dX11_isSort_19 rfl (by decide) rfl rfl rfl rfl
  · refine rr_iconst (v := 1) dX11_isSort_14 (by decide) ?_
    refine rr_goto (tgt := 19) dX11_isSort_15 (by decide) ?_
    exact rr_zret dX11_isSort_19 rfl (by decide) rfl rfl rfl rfl
