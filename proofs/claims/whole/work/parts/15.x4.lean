/-! ===== the class's methods: change, leftOutBehind, run, compare_26, dropLast_26, merge, partOf, nameParts, replay, sizeOf, keptRow, keptIn, lookAt ===== -/
def fX3_change (P : rr_T) (S : rr_T) (x1 : Int32) (x2 : Int32) : Option rr_T :=
  (fX10_isVariable x1).bind (fun r1 =>
  if r1 = 0 then
  some S
else
  if inb x1 4 then
    rr_l (pA S 22 x1 x2) (fun S2 =>
      rr_l (pI S2 343 (((S2.1 343) &&& ((1 <<< (x1 &&& 31)) ^^^ (-1))))) (fun S3 =>
      some S3))
  else none)
set_option maxRecDepth 20000 in
theorem tX3_change {l : Launch} {G : rr_G} (P : rr_T) (S : rr_T) (x1 : Int32) (x2 : Int32) : TT l G mX3_change 1 20 fxA rvS (xw P) z0 z0 0 0 [.ref 21, .int x1, .int x2] (xw P S) (fX3_change P S x1 x2) := by
  refine TT.by (by decide) (Nat.le_of_ble_eq_true rfl) (lv := [(0, .ref 21), (1, .int x1), (2, .int x2)]) rfl ?_
  show RR l G mX3_change 1 20 fxA rvS (xw P) z0 z0 0 0 0 [(0, .ref 21), (1, .int x1), (2, .int x2)] [] (xw P S) (fX3_change P S x1 x2)
  unfold fX3_change
  refine rr_iload_n dX3_change_0 rfl 1 rfl ?_
  refine rr_si (As := [.int x1]) (rest := []) (tX10_isVariable x1 (xw P S)) s3_120 rfl ⟨Nat.le_of_ble_eq_true rfl, Nat.le_of_ble_eq_true rfl⟩ rfl rfl (Nat.le_of_ble_eq_true rfl) rfl dX3_change_1 (fun r1 => ?_)
  refine rr_if_eq (tgt := 28) dX3_change_4 (by decide) (fun _ => ?_) (fun _ => ?_)
  · exact rr_vret dX3_change_28 rfl rfl rfl rfl rfl
  · refine rr_aload_n dX3_change_7 rfl 0 rfl ?_
    refine rr_get (v := .ref 22) cl3 k3_9 (Nat.le_of_ble_eq_true rfl) rfl rfl dX3_change_8 ?_
    refine rr_iload_n dX3_change_11 rfl 1 rfl ?_
    refine rr_iload_n dX3_change_12 rfl 2 rfl ?_
    refine rr_if (fun z => ?_)
    refine rr_iast (len := 4) rfl (inb_in z) dX3_change_13 (xa22 P S x1 x2) ?_
    refine rr_letS (W := xw P) (fun S2 => ?_)
    refine rr_aload_n dX3_change_14 rfl 0 rfl ?_
    refine rr_dup dX3_change_15 rfl ?_
    refine rr_get (v := .int (S2.1 343)) cl3 k3_31 (Nat.le_of_ble_eq_true rfl) rfl rfl dX3_change_16 ?_
    refine rr_iconst (v := 1) dX3_change_19 (by decide) ?_
    refine rr_iload_n dX3_change_20 rfl 1 rfl ?_
    refine rr_ishl dX3_change_21 ?_
    refine rr_iconst (v := (-1)) dX3_change_22 (by decide) ?_
    refine rr_ixor dX3_change_23 ?_
    refine rr_iand dX3_change_24 ?_
    refine rr_put cl3 k3_31 (Nat.le_of_ble_eq_true rfl) rfl rfl rfl rfl (Nat.le_of_ble_eq_true rfl) dX3_change_25 (xp21_7 P S2 (((S2.1 343) &&& ((1 <<< (x1 &&& 31)) ^^^ (-1))))) ?_
    refine rr_letS (W := xw P) (fun S3 => ?_)
    exact rr_vret dX3_change_28 rfl rfl rfl rfl rfl
def JX3_leftOutBehind_111 (q2 : Int32 × rr_T) (a6 : Unit) : Option (Int32 × rr_T) :=
  rr_l (pI q2.2 345 2) (fun S7 =>
  some ((0, S7)))
set_option maxRecDepth 20000 in
theorem tX3_leftOutBehind_111 {l : Launch} {G : rr_G} (q2 : Int32 × rr_T) (P : rr_T) (r : Nat) (zz : 40 ≤ r ∧ r < 40 + P.2.2.2 40 ∧ r < 56) (a6 : Unit) : RR l G mX3_leftOutBehind 3 66 fxA rvIS (fun q => xw P q.2) z0 z0 0 0 111 [(0, .ref 21)] [] (xw P q2.2) (JX3_leftOutBehind_111 q2 a6) := by
  unfold JX3_leftOutBehind_111
  refine rr_aload_n dX3_leftOutBehind_111 rfl 0 rfl ?_
  refine rr_iconst (v := 2) dX3_leftOutBehind_112 (by decide) ?_
  refine rr_put cl3 k3_37 (Nat.le_of_ble_eq_true rfl) rfl rfl rfl rfl (Nat.le_of_ble_eq_true rfl) dX3_leftOutBehind_113 (xp21_9 P q2.2 2) ?_
  refine rr_letS (W := xw P) (fun S7 => ?_)
  refine rr_iconst (v := 0) dX3_leftOutBehind_116 (by decide) ?_
  exact rr_iret dX3_leftOutBehind_117 rfl rfl rfl rfl rfl
def JX3_leftOutBehind_108 (P : rr_T) (r : Nat) (q2 : Int32 × rr_T) (r5 : Int32) (a8 : Int32) : Option (Int32 × rr_T) :=
  if r5 = a8 then
  (fX2_fieldTells P q2.2 q2.1 ((P.1 (16 * r + 2)))).bind (fun r9 =>
    (fX3_note P q2.2 (((2 + (q2.1 * 4)) + (P.1 (16 * r + 2)))) r5 r9).bind (fun S10 =>
    if (P.1 (16 * r)) = 1 then
    if r9 = (P.1 (16 * r + 3)) then
      some (((P.1 (16 * r + 4)), S10))
    else
      some ((0, S10))
  else
    (fX3_change P S10 ((P.1 (16 * r + 3))) r9).bind (fun S11 =>
      some ((0, S11)))))
else
  JX3_leftOutBehind_111 q2 ()
set_option maxRecDepth 20000 in
theorem tX3_leftOutBehind_108 {l : Launch} {G : rr_G} (P : rr_T) (r : Nat) (q2 : Int32 × rr_T) (r5 : Int32) (zz : 40 ≤ r ∧ r < 40 + P.2.2.2 40 ∧ r < 56) (a8 : Int32) : RR l G mX3_leftOutBehind 3 66 fxA rvIS (fun q => xw P q.2) z0 z0 0 0 108 [(0, .ref 21), (1, .ref r), (2, .int q2.1), (4, .int r5)] [.int a8, .int r5] (xw P q2.2) (JX3_leftOutBehind_108 P r q2 r5 a8) := by
  unfold JX3_leftOutBehind_108
  refine rr_icmp_eq (tgt := 118) dX3_leftOutBehind_108 (by decide) (fun _ => ?_) (fun _ => ?_)
  · refine rr_aload_n dX3_leftOutBehind_118 rfl 0 rfl ?_
    refine rr_get (v := .ref 10) cl3 k3_40 (Nat.le_of_ble_eq_true rfl) rfl rfl dX3_leftOutBehind_119 ?_
    refine rr_iload_n dX3_leftOutBehind_122 rfl 2 rfl ?_
    refine rr_aload_n dX3_leftOutBehind_123 rfl 1 rfl ?_
    refine rr_get (v := .int (P.1 (16 * r + 2))) cl9 k3_89 (Nat.le_of_ble_eq_true rfl) (xS_at zz) rfl dX3_leftOutBehind_124 ?_
    refine rr_vi (As := [.int q2.1, .int (P.1 (16 * r + 2))]) (rest := []) (tX2_fieldTells P q2.2 q2.1 ((P.1 (16 * r + 2)))) v3_106 rfl rfl ⟨Nat.le_of_ble_eq_true rfl, Nat.le_of_ble_eq_true rfl⟩ rfl rfl (Nat.le_of_ble_eq_true rfl) rfl dX3_leftOutBehind_127 (fun r9 => ?_)
    refine rr_istore (lv' := [(5, .int r9), (0, .ref 21), (1, .ref r), (2, .int q2.1), (4, .int r5)]) dX3_leftOutBehind_130 (by decide) rfl ?_
    refine rr_aload_n dX3_leftOutBehind_132 rfl 1 rfl ?_
    refine rr_iconst (v := 2) dX3_leftOutBehind_133 (by decide) ?_
    refine rr_iload_n dX3_leftOutBehind_134 rfl 3 rfl ?_
    refine rr_iconst (v := 4) dX3_leftOutBehind_135 (by decide) ?_
    refine rr_imul dX3_leftOutBehind_136 ?_
    refine rr_iadd dX3_leftOutBehind_137 ?_
    refine rr_aload_n dX3_leftOutBehind_138 rfl 2 rfl ?_
    refine rr_get (v := .int (P.1 (16 * r + 2))) cl9 k3_89 (Nat.le_of_ble_eq_true rfl) (xS_at zz) rfl dX3_leftOutBehind_139 ?_
    refine rr_iadd dX3_leftOutBehind_142 ?_
    refine rr_iload dX3_leftOutBehind_143 4 rfl ?_
    refine rr_iload dX3_leftOutBehind_145 0 rfl ?_
    refine rr_vs (W := xw P) (As := [.int ((2 + (q2.1 * 4)) + (P.1 (16 * r + 2))), .int r5, .int r9]) (rest := []) (tX3_note P q2.2 (((2 + (q2.1 * 4)) + (P.1 (16 * r + 2)))) r5 r9) v3_109 rfl rfl ⟨Nat.le_of_ble_eq_true rfl, Nat.le_of_ble_eq_true rfl⟩ (fun _ _ => rfl) rfl rfl (Nat.le_of_ble_eq_true rfl) rfl dX3_leftOutBehind_147 (fun S10 => ?_)
    refine rr_aload_n dX3_leftOutBehind_150 rfl 2 rfl ?_
    refine rr_get (v := .int (P.1 (16 * r))) cl9 k3_86 (Nat.le_of_ble_eq_true rfl) (xS_at zz) rfl dX3_leftOutBehind_151 ?_
    refine rr_iconst (v := 1) dX3_leftOutBehind_154 (by decide) ?_
    refine rr_icmp_ne (tgt := 176) dX3_leftOutBehind_155 (by decide) (fun _ => ?_) (fun _ => ?_)
    · refine rr_aload_n dX3_leftOutBehind_176 rfl 1 rfl ?_
      refine rr_aload_n dX3_leftOutBehind_177 rfl 2 rfl ?_
      refine rr_get (v := .int (P.1 (16 * r + 3))) cl9 k3_113 (Nat.le_of_ble_eq_true rfl) (xS_at zz) rfl dX3_leftOutBehind_178 ?_
      refine rr_iload dX3_leftOutBehind_181 0 rfl ?_
      refine rr_vs (W := xw P) (As := [.int (P.1 (16 * r + 3)), .int r9]) (rest := []) (tX3_change P S10 ((P.1 (16 * r + 3))) r9) v3_116 rfl rfl ⟨Nat.le_of_ble_eq_true rfl, Nat.le_of_ble_eq_true rfl⟩ (fun _ _ => rfl) rfl rfl (Nat.le_of_ble_eq_true rfl) rfl dX3_leftOutBehind_183 (fun S11 => ?_)
      refine rr_iconst (v := 0) dX3_leftOutBehind_186 (by decide) ?_
      exact rr_iret dX3_leftOutBehind_187 rfl rfl rfl rfl rfl
    · refine rr_iload dX3_leftOutBehind_158 0 rfl ?_
      refine rr_aload_n dX3_leftOutBehind_160 rfl 2 rfl ?_
      refine rr_get (v := .int (P.1 (16 * r + 3))) cl9 k3_113 (Nat.le_of_ble_eq_true rfl) (xS_at zz) rfl dX3_leftOutBehind_161 ?_
      refine rr_icmp_ne (tgt := 174) dX3_leftOutBehind_164 (by decide) (fun _ => ?_) (fun _ => ?_)
      · refine rr_iconst (v := 0) dX3_leftOutBehind_174 (by decide) ?_
        exact rr_iret dX3_leftOutBehind_175 rfl rfl rfl rfl rfl
      · refine rr_aload_n dX3_leftOutBehind_167 rfl 2 rfl ?_
        refine rr_get (v := .int (P.1 (16 * r + 4))) cl9 k3_92 (Nat.le_of_ble_eq_true rfl) (xS_at zz) rfl dX3_leftOutBehind_168 ?_
        refine rr_goto (tgt := 175) dX3_leftOutBehind_171 (by decide) ?_
        exact rr_iret dX3_leftOutBehind_175 rfl rfl rfl rfl rfl
  · refine rr_sub [0] rfl ?_
    exact tX3_leftOutBehind_111 q2 P r zz ()
def fX3_leftOutBehind (P : rr_T) (S : rr_T) (r : Nat) : Option (Int32 × rr_T) :=
  if 40 ≤ r ∧ r < 40 + P.2.2.2 40 ∧ r < 56 then
  rr_l (pI S 344 (((S.1 344) + 1))) (fun S1 =>
    (fX3_asked P S1 ((P.1 (16 * r + 1)))).bind (fun q2 =>
    if (P.1 (16 * r)) = 2 then
    (fX3_asked P q2.2 ((P.1 (16 * r + 2)))).bind (fun q13 =>
      if q2.1 = q13.1 then
      some (((P.1 (16 * r + 4)), q13.2))
    else
      some ((0, q13.2)))
  else
    if q2.1 = (-1) then
      rr_l (pI q2.2 345 1) (fun S12 =>
        some ((0, S12)))
    else
      (fX2_kindOf P q2.2 q2.1).bind (fun r3 =>
        (fX8_typeOf P q2.2 r3 ((P.1 (16 * r + 2)))).bind (fun r4 =>
        (fX8_isRefType r4).bind (fun r5 =>
        if r4 = (-1) then
        JX3_leftOutBehind_111 q2 ()
      else
        if (P.1 (16 * r)) = 0 then
          JX3_leftOutBehind_108 P r q2 r5 1
        else
          JX3_leftOutBehind_108 P r q2 r5 0)))))
else none
set_option maxRecDepth 20000 in
theorem tX3_leftOutBehind {l : Launch} {G : rr_G} (P : rr_T) (S : rr_T) (r : Nat) : TT l G mX3_leftOutBehind 3 66 fxA rvIS (fun q => xw P q.2) z0 z0 0 0 [.ref 21, .ref r] (xw P S) (fX3_leftOutBehind P S r) := by
  refine TT.by (by decide) (Nat.le_of_ble_eq_true rfl) (lv := [(0, .ref 21), (1, .ref r)]) rfl ?_
  show RR l G mX3_leftOutBehind 3 66 fxA rvIS (fun q => xw P q.2) z0 z0 0 0 0 [(0, .ref 21), (1, .ref r)] [] (xw P S) (fX3_leftOutBehind P S r)
  unfold fX3_leftOutBehind
  refine rr_if (fun zz => ?_)
  refine rr_aload_n dX3_leftOutBehind_0 rfl 0 rfl ?_
  refine rr_dup dX3_leftOutBehind_1 rfl ?_
  refine rr_get (v := .int (S.1 344)) cl3 k3_34 (Nat.le_of_ble_eq_true rfl) rfl rfl dX3_leftOutBehind_2 ?_
  refine rr_iconst (v := 1) dX3_leftOutBehind_5 (by decide) ?_
  refine rr_iadd dX3_leftOutBehind_6 ?_
  refine rr_put cl3 k3_34 (Nat.le_of_ble_eq_true rfl) rfl rfl rfl rfl (Nat.le_of_ble_eq_true rfl) dX3_leftOutBehind_7 (xp21_8 P S (((S.1 344) + 1))) ?_
  refine rr_letS (W := xw P) (fun S1 => ?_)
  refine rr_aload_n dX3_leftOutBehind_10 rfl 0 rfl ?_
  refine rr_aload_n dX3_leftOutBehind_11 rfl 1 rfl ?_
  refine rr_get (v := .int (P.1 (16 * r + 1))) cl9 k3_78 (Nat.le_of_ble_eq_true rfl) (xS_at zz) rfl dX3_leftOutBehind_12 ?_
  refine rr_vis (W := xw P) (As := [.int (P.1 (16 * r + 1))]) (rest := []) (tX3_asked P S1 ((P.1 (16 * r + 1)))) v3_83 rfl rfl ⟨Nat.le_of_ble_eq_true rfl, Nat.le_of_ble_eq_true rfl⟩ (fun _ _ => rfl) rfl rfl (Nat.le_of_ble_eq_true rfl) rfl dX3_leftOutBehind_15 (fun q2 => ?_)
  refine rr_istore_n (lv' := [(2, .int q2.1), (0, .ref 21), (1, .ref r)]) dX3_leftOutBehind_18 rfl (by decide) rfl ?_
  refine rr_aload_n dX3_leftOutBehind_19 rfl 2 rfl ?_
  refine rr_get (v := .int (P.1 (16 * r))) cl9 k3_86 (Nat.le_of_ble_eq_true rfl) (xS_at zz) rfl dX3_leftOutBehind_20 ?_
  refine rr_iconst (v := 2) dX3_leftOutBehind_23 (by decide) ?_
  refine rr_icmp_ne (tgt := 48) dX3_leftOutBehind_24 (by decide) (fun _ => ?_) (fun _ => ?_)
  · refine rr_iload_n dX3_leftOutBehind_48 rfl 0 rfl ?_
    refine rr_iconst (v := (-1)) dX3_leftOutBehind_49 (by decide) ?_
    refine rr_icmp_ne (tgt := 60) dX3_leftOutBehind_50 (by decide) (fun _ => ?_) (fun _ => ?_)
    · refine rr_aload_n dX3_leftOutBehind_60 rfl 1 rfl ?_
      refine rr_get (v := .ref 10) cl3 k3_40 (Nat.le_of_ble_eq_true rfl) rfl rfl dX3_leftOutBehind_61 ?_
      refine rr_get (v := .ref 1) cl2 k3_69 (Nat.le_of_ble_eq_true rfl) rfl rfl dX3_leftOutBehind_64 ?_
      refine rr_aload_n dX3_leftOutBehind_67 rfl 1 rfl ?_
      refine rr_get (v := .ref 10) cl3 k3_40 (Nat.le_of_ble_eq_true rfl) rfl rfl dX3_leftOutBehind_68 ?_
      refine rr_iload_n dX3_leftOutBehind_71 rfl 0 rfl ?_
      refine rr_vi (As := [.int q2.1]) (rest := [.ref 1]) (tX2_kindOf P q2.2 q2.1) v3_95 rfl rfl ⟨Nat.le_of_ble_eq_true rfl, Nat.le_of_ble_eq_true rfl⟩ rfl rfl (Nat.le_of_ble_eq_true rfl) rfl dX3_leftOutBehind_72 (fun r3 => ?_)
      refine rr_aload_n dX3_leftOutBehind_75 rfl 2 rfl ?_
      refine rr_get (v := .int (P.1 (16 * r + 2))) cl9 k3_89 (Nat.le_of_ble_eq_true rfl) (xS_at zz) rfl dX3_leftOutBehind_76 ?_
      refine rr_vi (As := [.int r3, .int (P.1 (16 * r + 2))]) (rest := []) (tX8_typeOf P q2.2 r3 ((P.1 (16 * r + 2)))) v3_98 rfl rfl ⟨Nat.le_of_ble_eq_true rfl, Nat.le_of_ble_eq_true rfl⟩ rfl rfl (Nat.le_of_ble_eq_true rfl) rfl dX3_leftOutBehind_79 (fun r4 => ?_)
      refine rr_istore_n (lv' := [(3, .int r4), (2, .int q2.1), (0, .ref 21), (1, .ref r)]) dX3_leftOutBehind_82 rfl (by decide) rfl ?_
      refine rr_iload_n dX3_leftOutBehind_83 rfl 0 rfl ?_
      refine rr_si (As := [.int r4]) (rest := []) (tX8_isRefType r4 (xw P q2.2)) s3_102 rfl ⟨Nat.le_of_ble_eq_true rfl, Nat.le_of_ble_eq_true rfl⟩ rfl rfl (Nat.le_of_ble_eq_true rfl) rfl dX3_leftOutBehind_84 (fun r5 => ?_)
      refine rr_istore (lv' := [(4, .int r5), (3, .int r4), (2, .int q2.1), (0, .ref 21), (1, .ref r)]) dX3_leftOutBehind_87 (by decide) rfl ?_
      refine rr_iload_n dX3_leftOutBehind_89 rfl 1 rfl ?_
      refine rr_iconst (v := (-1)) dX3_leftOutBehind_90 (by decide) ?_
      refine rr_icmp_eq (tgt := 111) dX3_leftOutBehind_91 (by decide) (fun _ => ?_) (fun _ => ?_)
      · refine rr_sub [3] rfl ?_
        exact tX3_leftOutBehind_111 q2 P r zz ()
      · refine rr_iload dX3_leftOutBehind_94 0 rfl ?_
        refine rr_aload_n dX3_leftOutBehind_96 rfl 4 rfl ?_
        refine rr_get (v := .int (P.1 (16 * r))) cl9 k3_86 (Nat.le_of_ble_eq_true rfl) (xS_at zz) rfl dX3_leftOutBehind_97 ?_
        refine rr_if_ne (tgt := 107) dX3_leftOutBehind_100 (by decide) (fun _ => ?_) (fun _ => ?_)
        · refine rr_iconst (v := 0) dX3_leftOutBehind_107 (by decide) ?_
          refine rr_sub [3, 4, 2, 0] rfl ?_
          exact tX3_leftOutBehind_108 P r q2 r5 zz 0
        · refine rr_iconst (v := 1) dX3_leftOutBehind_103 (by decide) ?_
          refine rr_goto (tgt := 108) dX3_leftOutBehind_104 (by decide) ?_
          refine rr_sub [3, 4, 2, 0] rfl ?_
          exact tX3_leftOutBehind_108 P r q2 r5 zz 1
    · refine rr_aload_n dX3_leftOutBehind_53 rfl 1 rfl ?_
      refine rr_iconst (v := 1) dX3_leftOutBehind_54 (by decide) ?_
      refine rr_put cl3 k3_37 (Nat.le_of_ble_eq_true rfl) rfl rfl rfl rfl (Nat.le_of_ble_eq_true rfl) dX3_leftOutBehind_55 (xp21_9 P q2.2 1) ?_
      refine rr_letS (W := xw P) (fun S12 => ?_)
      refine rr_iconst (v := 0) dX3_leftOutBehind_58 (by decide) ?_
      exact rr_iret dX3_leftOutBehind_59 rfl rfl rfl rfl rfl
  · refine rr_iload_n dX3_leftOutBehind_27 rfl 0 rfl ?_
    refine rr_aload_n dX3_leftOutBehind_28 rfl 1 rfl ?_
    refine rr_aload_n dX3_leftOutBehind_29 rfl 2 rfl ?_
    refine rr_get (v := .int (P.1 (16 * r + 2))) cl9 k3_89 (Nat.le_of_ble_eq_true rfl) (xS_at zz) rfl dX3_leftOutBehind_30 ?_
    refine rr_vis (W := xw P) (As := [.int (P.1 (16 * r + 2))]) (rest := [.int q2.1]) (tX3_asked P q2.2 ((P.1 (16 * r + 2)))) v3_83 rfl rfl ⟨Nat.le_of_ble_eq_true rfl, Nat.le_of_ble_eq_true rfl⟩ (fun _ _ => rfl) rfl rfl (Nat.le_of_ble_eq_true rfl) rfl dX3_leftOutBehind_33 (fun q13 => ?_)
    refine rr_icmp_ne (tgt := 46) dX3_leftOutBehind_36 (by decide) (fun _ => ?_) (fun _ => ?_)
    · refine rr_iconst (v := 0) dX3_leftOutBehind_46 (by decide) ?_
      exact rr_iret dX3_leftOutBehind_47 rfl rfl rfl rfl rfl
    · refine rr_aload_n dX3_leftOutBehind_39 rfl 2 rfl ?_
      refine rr_get (v := .int (P.1 (16 * r + 4))) cl9 k3_92 (Nat.le_of_ble_eq_true rfl) (xS_at zz) rfl dX3_leftOutBehind_40 ?_
      refine rr_goto (tgt := 47) dX3_leftOutBehind_43 (by decide) ?_
      exact rr_iret dX3_leftOutBehind_47 rfl rfl rfl rfl rfl
def LX3_run_8 (P : rr_T) (rec8 : (Int32 × Int32 × rr_T) → Option rr_T) (a2 : Int32 × Int32 × rr_T) : Option rr_T :=
  if 16 ≤ a2.2.1 then
  some a2.2.2
else
  if (a2.2.2.1 345) = 0 then
    (fX4_stepAt P a2.2.2 a2.1).bind (fun r3 => rr_o r3 (some a2.2.2) (fun n4 =>
      (fX3_leftOutBehind P a2.2.2 n4).bind (fun q5 =>
      rr_l ((a2.1 + (1 + q5.1))) (fun v6 =>
      rec8 (v6, (a2.2.1 + 1), q5.2)))))
  else
    some a2.2.2
set_option maxRecDepth 20000 in
theorem tX3_run_8 {l : Launch} {G : rr_G} (P : rr_T) : ∀ (n : Nat) (a : Int32 × Int32 × rr_T), RR l G mX3_run 4 91 fxA rvS (xw P) z0 z0 0 0 8 [(0, .ref 21), (1, .ref 8), (2, .int a.1), (3, .int a.2.1)] [] (xw P a.2.2) (rr_loop n (LX3_run_8 P) a) := by
  refine rr_lp (α := Int32 × Int32 × rr_T) 8 (fun a => [(0, .ref 21), (1, .ref 8), (2, .int a.1), (3, .int a.2.1)]) (fun a => (xw P a.2.2)) (fun rec8 hrec8 a2 => ?_)
  show RR l G mX3_run 4 91 fxA rvS (xw P) z0 z0 0 0 8 [(0, .ref 21), (1, .ref 8), (2, .int a2.1), (3, .int a2.2.1)] [] (xw P a2.2.2) (LX3_run_8 P rec8 a2)
  unfold LX3_run_8
  refine rr_iload_n dX3_run_8 rfl 3 rfl ?_
  refine rr_bipush (v := 16) dX3_run_9 (by decide) ?_
  refine rr_icmp_ge (tgt := 51) dX3_run_11 (by decide) (fun _ => ?_) (fun _ => ?_)
  · exact rr_vret dX3_run_51 rfl rfl rfl rfl rfl
  · refine rr_aload_n dX3_run_14 rfl 0 rfl ?_
    refine rr_get (v := .int (a2.2.2.1 345)) cl3 k3_37 (Nat.le_of_ble_eq_true rfl) rfl rfl dX3_run_15 ?_
    refine rr_if_ne (tgt := 51) dX3_run_18 (by decide) (fun _ => ?_) (fun _ => ?_)
    · exact rr_vret dX3_run_51 rfl rfl rfl rfl rfl
    · refine rr_aload_n dX3_run_21 rfl 1 rfl ?_
      refine rr_iload_n dX3_run_22 rfl 2 rfl ?_
      refine rr_vo (As := [.int a2.1]) (rest := []) (tX4_stepAt P a2.2.2 a2.1) v3_47 rfl rfl ⟨Nat.le_of_ble_eq_true rfl, Nat.le_of_ble_eq_true rfl⟩ rfl rfl (Nat.le_of_ble_eq_true rfl) rfl dX3_run_23 (fun r3 => ?_)
      refine rr_oc ?_ (fun n4 => ?_)
      · refine rr_astoreN (lv' := [(4, .null), (0, .ref 21), (1, .ref 8), (2, .int a2.1), (3, .int a2.2.1)]) dX3_run_26 (by decide) rfl ?_
        refine rr_aloadN dX3_run_28 0 rfl ?_
        refine rr_ifnonnullN dX3_run_30 ?_
        exact rr_vret dX3_run_33 rfl rfl rfl rfl rfl
      · refine rr_astore (lv' := [(4, .ref n4), (0, .ref 21), (1, .ref 8), (2, .int a2.1), (3, .int a2.2.1)]) dX3_run_26 (by decide) rfl ?_
        refine rr_aload dX3_run_28 0 rfl ?_
        refine rr_ifnonnull (tgt := 34) dX3_run_30 (by decide) ?_
        refine rr_iload_n dX3_run_34 rfl 3 rfl ?_
        refine rr_iconst (v := 1) dX3_run_35 (by decide) ?_
        refine rr_aload_n dX3_run_36 rfl 1 rfl ?_
        refine rr_aload dX3_run_37 0 rfl ?_
        refine rr_vis (W := xw P) (As := [.ref n4]) (rest := [.int 1, .int a2.1]) (tX3_leftOutBehind P a2.2.2 n4) v3_53 rfl rfl ⟨Nat.le_of_ble_eq_true rfl, Nat.le_of_ble_eq_true rfl⟩ (fun _ _ => rfl) rfl rfl (Nat.le_of_ble_eq_true rfl) rfl dX3_run_39 (fun q5 => ?_)
        refine rr_iadd dX3_run_42 ?_
        refine rr_iadd dX3_run_43 ?_
        refine rr_letI (fun v6 => ?_)
        refine rr_istore_n (lv' := [(2, .int v6), (4, .ref n4), (0, .ref 21), (1, .ref 8), (3, .int a2.2.1)]) dX3_run_44 rfl (by decide) rfl ?_
        refine rr_iinc (lv' := [(3, .int (a2.2.1 + 1)), (2, .int v6), (4, .ref n4), (0, .ref 21), (1, .ref 8)]) dX3_run_45 4 rfl (by decide) rfl ?_
        refine rr_goto (tgt := 8) dX3_run_48 (by decide) ?_
        refine rr_sub [3, 4, 1, 0] rfl ?_
        exact hrec8 (v6, (a2.2.1 + 1), q5.2)
def fX3_run (P : rr_T) (S : rr_T) : Option rr_T :=
  (fX3_begin P S).bind (fun S1 =>
  rr_loop FU (LX3_run_8 P) (0, 0, S1))
set_option maxRecDepth 20000 in
theorem tX3_run {l : Launch} {G : rr_G} (P : rr_T) (S : rr_T) : TT l G mX3_run 4 91 fxA rvS (xw P) z0 z0 0 0 [.ref 21, .ref 8] (xw P S) (fX3_run P S) := by
  refine TT.by (by decide) (Nat.le_of_ble_eq_true rfl) (lv := [(0, .ref 21), (1, .ref 8)]) rfl ?_
  show RR l G mX3_run 4 91 fxA rvS (xw P) z0 z0 0 0 0 [(0, .ref 21), (1, .ref 8)] [] (xw P S) (fX3_run P S)
  unfold fX3_run
  refine rr_aload_n dX3_run_0 rfl 0 rfl ?_
  refine rr_vs (W := xw P) (As := []) (rest := []) (tX3_begin P S) v3_44 rfl rfl ⟨Nat.le_of_ble_eq_true rfl, Nat.le_of_ble_eq_true rfl⟩ (fun _ _ => rfl) rfl rfl (Nat.le_of_ble_eq_true rfl) rfl dX3_run_1 (fun S1 => ?_)
  refine rr_iconst (v := 0) dX3_run_4 (by decide) ?_
  refine rr_istore_n (lv' := [(2, .int 0), (0, .ref 21), (1, .ref 8)]) dX3_run_5 rfl (by decide) rfl ?_
  refine rr_iconst (v := 0) dX3_run_6 (by decide) ?_
  refine rr_istore_n (lv' := [(3, .int 0), (2, .int 0), (0, .ref 21), (1, .ref 8)]) dX3_run_7 rfl (by decide) rfl ?_
  refine rr_sub [2, 3, 1, 0] rfl ?_
  exact tX3_run_8 P FU (0, 0, S1)
def fX5_compare_26 (P : rr_T) (S : rr_T) (x1 : Int32) (x2 : Int32) : Option Int32 :=
  if x1 < 0 then
  some 0
else
  if (S.1 417) ≤ x1 then
    some 0
  else
    if x2 < 0 then
      some 0
    else
      if x2 < (S.1 417) then
        if inb (2 * x1) (S.2.2.2 27) then
          if inb (2 * x2) (S.2.2.2 27) then
            (fJ_compare ((S.2.2.1 27 (2 * x1).toNatClampNeg)) ((S.2.2.1 27 (2 * x2).toNatClampNeg))).bind (fun r1 =>
              if r1 = 0 then
              if inb ((2 * x1) + 1) (S.2.2.2 27) then
                if inb ((2 * x2) + 1) (S.2.2.2 27) then
                  (fJ_compare ((S.2.2.1 27 ((2 * x1) + 1).toNatClampNeg)) ((S.2.2.1 27 ((2 * x2) + 1).toNatClampNeg))).bind (fun r2 =>
                    some r2)
                else none
              else none
            else
              some r1)
          else none
        else none
      else
        some 0
set_option maxRecDepth 20000 in
theorem tX5_compare_26 {l : Launch} {G : rr_G} (P : rr_T) (S : rr_T) (x1 : Int32) (x2 : Int32) : TT l G mX5_compare 1 23 fxA rvI (fun _ => xw P S) z0 z0 0 0 [.ref 26, .int x1, .int x2] (xw P S) (fX5_compare_26 P S x1 x2) := by
  refine TT.by (by decide) (Nat.le_of_ble_eq_true rfl) (lv := [(0, .ref 26), (1, .int x1), (2, .int x2)]) rfl ?_
  show RR l G mX5_compare 1 23 fxA rvI (fun _ => xw P S) z0 z0 0 0 0 [(0, .ref 26), (1, .int x1), (2, .int x2)] [] (xw P S) (fX5_compare_26 P S x1 x2)
  unfold fX5_compare_26
  refine rr_iload_n dX5_compare_0 rfl 1 rfl ?_
  refine rr_if_lt (tgt := 24) dX5_compare_1 (by decide) (fun _ => ?_) (fun _ => ?_)
  · refine rr_iconst (v := 0) dX5_compare_24 (by decide) ?_
    exact rr_iret dX5_compare_25 rfl rfl rfl rfl rfl
  · refine rr_iload_n dX5_compare_4 rfl 1 rfl ?_
    refine rr_aload_n dX5_compare_5 rfl 0 rfl ?_
    refine rr_get (v := .int (S.1 417)) cl5 k5_15 (Nat.le_of_ble_eq_true rfl) rfl rfl dX5_compare_6 ?_
    refine rr_icmp_ge (tgt := 24) dX5_compare_9 (by decide) (fun _ => ?_) (fun _ => ?_)
    · refine rr_iconst (v := 0) dX5_compare_24 (by decide) ?_
      exact rr_iret dX5_compare_25 rfl rfl rfl rfl rfl
    · refine rr_iload_n dX5_compare_12 rfl 2 rfl ?_
      refine rr_if_lt (tgt := 24) dX5_compare_13 (by decide) (fun _ => ?_) (fun _ => ?_)
      · refine rr_iconst (v := 0) dX5_compare_24 (by decide) ?_
        exact rr_iret dX5_compare_25 rfl rfl rfl rfl rfl
      · refine rr_iload_n dX5_compare_16 rfl 2 rfl ?_
        refine rr_aload_n dX5_compare_17 rfl 0 rfl ?_
        refine rr_get (v := .int (S.1 417)) cl5 k5_15 (Nat.le_of_ble_eq_true rfl) rfl rfl dX5_compare_18 ?_
        refine rr_icmp_lt (tgt := 26) dX5_compare_21 (by decide) (fun _ => ?_) (fun _ => ?_)
        · refine rr_aload_n dX5_compare_26 rfl 0 rfl ?_
          refine rr_get (v := .ref 27) cl5 k5_9 (Nat.le_of_ble_eq_true rfl) rfl rfl dX5_compare_27 ?_
          refine rr_iconst (v := 2) dX5_compare_30 (by decide) ?_
          refine rr_iload_n dX5_compare_31 rfl 1 rfl ?_
          refine rr_imul dX5_compare_32 ?_
          refine rr_if (fun z => ?_)
          refine rr_lald (len := (S.2.2.2 27)) rfl (inb_in z) dX5_compare_33 ?_
          refine rr_aload_n dX5_compare_34 rfl 0 rfl ?_
          refine rr_get (v := .ref 27) cl5 k5_9 (Nat.le_of_ble_eq_true rfl) rfl rfl dX5_compare_35 ?_
          refine rr_iconst (v := 2) dX5_compare_38 (by decide) ?_
          refine rr_iload_n dX5_compare_39 rfl 2 rfl ?_
          refine rr_imul dX5_compare_40 ?_
          refine rr_if (fun z => ?_)
          refine rr_lald (len := (S.2.2.2 27)) rfl (inb_in z) dX5_compare_41 ?_
          refine rr_si (As := [.long (S.2.2.1 27 (2 * x1).toNatClampNeg), .long (S.2.2.1 27 (2 * x2).toNatClampNeg)]) (rest := []) (tJ_compare ((S.2.2.1 27 (2 * x1).toNatClampNeg)) ((S.2.2.1 27 (2 * x2).toNatClampNeg)) (xw P S)) s5_29 rfl ⟨Nat.le_of_ble_eq_true rfl, Nat.le_of_ble_eq_true rfl⟩ rfl rfl (Nat.le_of_ble_eq_true rfl) rfl dX5_compare_42 (fun r1 => ?_)
          refine rr_istore_n (lv' := [(3, .int r1), (0, .ref 26), (1, .int x1), (2, .int x2)]) dX5_compare_45 rfl (by decide) rfl ?_
          refine rr_iload_n dX5_compare_46 rfl 0 rfl ?_
          refine rr_if_eq (tgt := 54) dX5_compare_47 (by decide) (fun _ => ?_) (fun _ => ?_)
          · refine rr_aload_n dX5_compare_54 rfl 1 rfl ?_
            refine rr_get (v := .ref 27) cl5 k5_9 (Nat.le_of_ble_eq_true rfl) rfl rfl dX5_compare_55 ?_
            refine rr_iconst (v := 2) dX5_compare_58 (by decide) ?_
            refine rr_iload_n dX5_compare_59 rfl 2 rfl ?_
            refine rr_imul dX5_compare_60 ?_
            refine rr_iconst (v := 1) dX5_compare_61 (by decide) ?_
            refine rr_iadd dX5_compare_62 ?_
            refine rr_if (fun z => ?_)
            refine rr_lald (len := (S.2.2.2 27)) rfl (inb_in z) dX5_compare_63 ?_
            refine rr_aload_n dX5_compare_64 rfl 1 rfl ?_
            refine rr_get (v := .ref 27) cl5 k5_9 (Nat.le_of_ble_eq_true rfl) rfl rfl dX5_compare_65 ?_
            refine rr_iconst (v := 2) dX5_compare_68 (by decide) ?_
            refine rr_iload_n dX5_compare_69 rfl 3 rfl ?_
            refine rr_imul dX5_compare_70 ?_
            refine rr_iconst (v := 1) dX5_compare_71 (by decide) ?_
            refine rr_iadd dX5_compare_72 ?_
            refine rr_if (fun z => ?_)
            refine rr_lald (len := (S.2.2.2 27)) rfl (inb_in z) dX5_compare_73 ?_
            refine rr_si (As := [.long (S.2.2.1 27 ((2 * x1) + 1).toNatClampNeg), .long (S.2.2.1 27 ((2 * x2) + 1).toNatClampNeg)]) (rest := []) (tJ_compare ((S.2.2.1 27 ((2 * x1) + 1).toNatClampNeg)) ((S.2.2.1 27 ((2 * x2) + 1).toNatClampNeg)) (xw P S)) s5_29 rfl ⟨Nat.le_of_ble_eq_true rfl, Nat.le_of_ble_eq_true rfl⟩ rfl rfl (Nat.le_of_ble_eq_true rfl) rfl dX5_compare_74 (fun r2 => ?_)
            exact rr_iret dX5_compare_77 rfl rfl rfl rfl rfl
          · refine rr_iload_n dX5_compare_50 rfl 0 rfl ?_
            refine rr_goto (tgt := 77) dX5_compare_51 (by decide) ?_
            exact rr_iret dX5_compare_77 rfl rfl rfl rfl rfl
        · refine rr_iconst (v := 0) dX5_compare_24 (by decide) ?_
          exact rr_iret dX5_compare_25 rfl rfl rfl rfl rfl
def fX5_dropLast_26 (P : rr_T) (S : rr_T) : Option rr_T :=
  if (S.1 417) ≤ 0 then
  some S
else
  rr_l (pI S 417 (((S.1 417) - 1))) (fun S1 =>
    some S1)
set_option maxRecDepth 20000 in
theorem tX5_dropLast_26 {l : Launch} {G : rr_G} (P : rr_T) (S : rr_T) : TT l G mX5_dropLast 0 0 fxA rvS (xw P) z0 z0 0 0 [.ref 26] (xw P S) (fX5_dropLast_26 P S) := by
  refine TT.by (by decide) (Nat.le_of_ble_eq_true rfl) (lv := [(0, .ref 26)]) rfl ?_
  show RR l G mX5_dropLast 0 0 fxA rvS (xw P) z0 z0 0 0 0 [(0, .ref 26)] [] (xw P S) (fX5_dropLast_26 P S)
  unfold fX5_dropLast_26
  refine rr_aload_n dX5_dropLast_0 rfl 0 rfl ?_
  refine rr_get (v := .int (S.1 417)) cl5 k5_15 (Nat.le_of_ble_eq_true rfl) rfl rfl dX5_dropLast_1 ?_
  refine rr_if_le (tgt := 17) dX5_dropLast_4 (by decide) (fun _ => ?_) (fun _ => ?_)
  · exact rr_vret dX5_dropLast_17 rfl rfl rfl rfl rfl
  · refine rr_aload_n dX5_dropLast_7 rfl 0 rfl ?_
    refine rr_dup dX5_dropLast_8 rfl ?_
    refine rr_get (v := .int (S.1 417)) cl5 k5_15 (Nat.le_of_ble_eq_true rfl) rfl rfl dX5_dropLast_9 ?_
    refine rr_iconst (v := 1) dX5_dropLast_12 (by decide) ?_
    refine rr_isub dX5_dropLast_13 ?_
    refine rr_put cl5 k5_15 (Nat.le_of_ble_eq_true rfl) rfl rfl rfl rfl (Nat.le_of_ble_eq_true rfl) dX5_dropLast_14 (xp26_1 P S (((S.1 417) - 1))) ?_
    refine rr_letS (W := xw P) (fun S1 => ?_)
    exact rr_vret dX5_dropLast_17 rfl rfl rfl rfl rfl
def JX1_merge_66 (rec9 : (Int32 × Int32 × Int32 × rr_T) → Option rr_T) (a1 : Int32 × Int32 × Int32 × rr_T) (a2 : Int32) : Option rr_T :=
  if a2 = 0 then
  if inb a1.1 (a1.2.2.2.2.2.2 28) then
    if inb a1.2.2.1 (a1.2.2.2.2.2.2 29) then
      rr_l (pA a1.2.2.2 29 a1.2.2.1 ((a1.2.2.2.2.1 28 a1.1.toNatClampNeg))) (fun S3 =>
        rec9 ((a1.1 + 1), a1.2.1, (a1.2.2.1 + 1), S3))
    else none
  else none
else
  if inb a1.2.1 (a1.2.2.2.2.2.2 28) then
    if inb a1.2.2.1 (a1.2.2.2.2.2.2 29) then
      rr_l (pA a1.2.2.2 29 a1.2.2.1 ((a1.2.2.2.2.1 28 a1.2.1.toNatClampNeg))) (fun S4 =>
        rec9 (a1.1, (a1.2.1 + 1), (a1.2.2.1 + 1), S4))
    else none
  else none
set_option maxRecDepth 20000 in
theorem tX1_merge_66 {l : Launch} {G : rr_G} (rec9 : (Int32 × Int32 × Int32 × rr_T) → Option rr_T) (a1 : Int32 × Int32 × Int32 × rr_T) (P : rr_T) (x2 : Int32) (x3 : Int32) (hrec9 : ∀ a : Int32 × Int32 × Int32 × rr_T, RR l G mX1_merge 2 46 fxA rvS (xw P) z0 z0 0 0 9 [(0, .ref 25), (2, .int x2), (3, .int x3), (4, .int a.1), (5, .int a.2.1), (6, .int a.2.2.1)] [] (xw P a.2.2.2) (rec9 a)) (a2 : Int32) : RR l G mX1_merge 2 46 fxA rvS (xw P) z0 z0 0 0 66 [(0, .ref 25), (2, .int x2), (3, .int x3), (4, .int a1.1), (5, .int a1.2.1), (6, .int a1.2.2.1)] [.int a2] (xw P a1.2.2.2) (JX1_merge_66 rec9 a1 a2) := by
  unfold JX1_merge_66
  refine rr_istore (lv' := [(7, .int a2), (0, .ref 25), (2, .int x2), (3, .int x3), (4, .int a1.1), (5, .int a1.2.1), (6, .int a1.2.2.1)]) dX1_merge_66 (by decide) rfl ?_
  refine rr_iload dX1_merge_68 0 rfl ?_
  refine rr_if_eq (tgt := 93) dX1_merge_70 (by decide) (fun _ => ?_) (fun _ => ?_)
  · refine rr_aload_n dX1_merge_93 rfl 1 rfl ?_
    refine rr_get (v := .ref 29) cl1 k1_22 (Nat.le_of_ble_eq_true rfl) rfl rfl dX1_merge_94 ?_
    refine rr_iload dX1_merge_97 6 rfl ?_
    refine rr_aload_n dX1_merge_99 rfl 1 rfl ?_
    refine rr_get (v := .ref 28) cl1 k1_18 (Nat.le_of_ble_eq_true rfl) rfl rfl dX1_merge_100 ?_
    refine rr_iload dX1_merge_103 4 rfl ?_
    refine rr_if (fun z => ?_)
    refine rr_iald (len := (a1.2.2.2.2.2.2 28)) rfl (inb_in z) dX1_merge_105 ?_
    refine rr_if (fun z => ?_)
    refine rr_iast (len := (a1.2.2.2.2.2.2 29)) rfl (inb_in z) dX1_merge_106 (xa29 P a1.2.2.2 a1.2.2.1 ((a1.2.2.2.2.1 28 a1.1.toNatClampNeg))) ?_
    refine rr_letS (W := xw P) (fun S3 => ?_)
    refine rr_iinc (lv' := [(4, .int (a1.1 + 1)), (7, .int a2), (0, .ref 25), (2, .int x2), (3, .int x3), (5, .int a1.2.1), (6, .int a1.2.2.1)]) dX1_merge_107 4 rfl (by decide) rfl ?_
    refine rr_iinc (lv' := [(6, .int (a1.2.2.1 + 1)), (4, .int (a1.1 + 1)), (7, .int a2), (0, .ref 25), (2, .int x2), (3, .int x3), (5, .int a1.2.1)]) dX1_merge_110 6 rfl (by decide) rfl ?_
    refine rr_goto (tgt := 9) dX1_merge_113 (by decide) ?_
    refine rr_sub [3, 4, 5, 1, 6, 0] rfl ?_
    exact hrec9 ((a1.1 + 1), a1.2.1, (a1.2.2.1 + 1), S3)
  · refine rr_aload_n dX1_merge_73 rfl 1 rfl ?_
    refine rr_get (v := .ref 29) cl1 k1_22 (Nat.le_of_ble_eq_true rfl) rfl rfl dX1_merge_74 ?_
    refine rr_iload dX1_merge_77 6 rfl ?_
    refine rr_aload_n dX1_merge_79 rfl 1 rfl ?_
    refine rr_get (v := .ref 28) cl1 k1_18 (Nat.le_of_ble_eq_true rfl) rfl rfl dX1_merge_80 ?_
    refine rr_iload dX1_merge_83 5 rfl ?_
    refine rr_if (fun z => ?_)
    refine rr_iald (len := (a1.2.2.2.2.2.2 28)) rfl (inb_in z) dX1_merge_85 ?_
    refine rr_if (fun z => ?_)
    refine rr_iast (len := (a1.2.2.2.2.2.2 29)) rfl (inb_in z) dX1_merge_86 (xa29 P a1.2.2.2 a1.2.2.1 ((a1.2.2.2.2.1 28 a1.2.1.toNatClampNeg))) ?_
    refine rr_letS (W := xw P) (fun S4 => ?_)
    refine rr_iinc (lv' := [(5, .int (a1.2.1 + 1)), (7, .int a2), (0, .ref 25), (2, .int x2), (3, .int x3), (4, .int a1.1), (6, .int a1.2.2.1)]) dX1_merge_87 5 rfl (by decide) rfl ?_
    refine rr_goto (tgt := 110) dX1_merge_90 (by decide) ?_
    refine rr_iinc (lv' := [(6, .int (a1.2.2.1 + 1)), (5, .int (a1.2.1 + 1)), (7, .int a2), (0, .ref 25), (2, .int x2), (3, .int x3), (4, .int a1.1)]) dX1_merge_110 6 rfl (by decide) rfl ?_
    refine rr_goto (tgt := 9) dX1_merge_113 (by decide) ?_
    refine rr_sub [3, 4, 5, 6, 1, 0] rfl ?_
    exact hrec9 (a1.1, (a1.2.1 + 1), (a1.2.2.1 + 1), S4)
def LX1_merge_9 (P : rr_T) (x2 : Int32) (x3 : Int32) (rec9 : (Int32 × Int32 × Int32 × rr_T) → Option rr_T) (a1 : Int32 × Int32 × Int32 × rr_T) : Option rr_T :=
  if x3 ≤ a1.2.2.1 then
  some a1.2.2.2
else
  if (nI (a1.2.2.2.2.2.2 29)) ≤ a1.2.2.1 then
    some a1.2.2.2
  else
    if x2 ≤ a1.1 then
      JX1_merge_66 rec9 a1 1
    else
      if x3 ≤ a1.2.1 then
        JX1_merge_66 rec9 a1 0
      else
        if inb a1.2.1 (a1.2.2.2.2.2.2 28) then
          if inb a1.1 (a1.2.2.2.2.2.2 28) then
            (fX5_compare_26 P a1.2.2.2 ((a1.2.2.2.2.1 28 a1.2.1.toNatClampNeg)) ((a1.2.2.2.2.1 28 a1.1.toNatClampNeg))).bind (fun r5 =>
              if 0 ≤ r5 then
              JX1_merge_66 rec9 a1 0
            else
              JX1_merge_66 rec9 a1 1)
          else none
        else none
set_option maxRecDepth 20000 in
theorem tX1_merge_9 {l : Launch} {G : rr_G} (P : rr_T) (x2 : Int32) (x3 : Int32) : ∀ (n : Nat) (a : Int32 × Int32 × Int32 × rr_T), RR l G mX1_merge 2 46 fxA rvS (xw P) z0 z0 0 0 9 [(0, .ref 25), (2, .int x2), (3, .int x3), (4, .int a.1), (5, .int a.2.1), (6, .int a.2.2.1)] [] (xw P a.2.2.2) (rr_loop n (LX1_merge_9 P x2 x3) a) := by
  refine rr_lp (α := Int32 × Int32 × Int32 × rr_T) 9 (fun a => [(0, .ref 25), (2, .int x2), (3, .int x3), (4, .int a.1), (5, .int a.2.1), (6, .int a.2.2.1)]) (fun a => (xw P a.2.2.2)) (fun rec9 hrec9 a1 => ?_)
  show RR l G mX1_merge 2 46 fxA rvS (xw P) z0 z0 0 0 9 [(0, .ref 25), (2, .int x2), (3, .int x3), (4, .int a1.1), (5, .int a1.2.1), (6, .int a1.2.2.1)] [] (xw P a1.2.2.2) (LX1_merge_9 P x2 x3 rec9 a1)
  unfold LX1_merge_9
  refine rr_iload dX1_merge_9 5 rfl ?_
  refine rr_iload_n dX1_merge_11 rfl 2 rfl ?_
  refine rr_icmp_ge (tgt := 116) dX1_merge_12 (by decide) (fun _ => ?_) (fun _ => ?_)
  · exact rr_vret dX1_merge_116 rfl rfl rfl rfl rfl
  · refine rr_iload dX1_merge_15 5 rfl ?_
    refine rr_aload_n dX1_merge_17 rfl 0 rfl ?_
    refine rr_get (v := .ref 29) cl1 k1_22 (Nat.le_of_ble_eq_true rfl) rfl rfl dX1_merge_18 ?_
    refine rr_alen (by decide) rfl dX1_merge_21 ?_
    refine rr_icmp_ge (tgt := 116) dX1_merge_22 (by decide) (fun _ => ?_) (fun _ => ?_)
    · exact rr_vret dX1_merge_116 rfl rfl rfl rfl rfl
    · refine rr_iload dX1_merge_25 3 rfl ?_
      refine rr_iload_n dX1_merge_27 rfl 1 rfl ?_
      refine rr_icmp_ge (tgt := 61) dX1_merge_28 (by decide) (fun _ => ?_) (fun _ => ?_)
      · refine rr_iconst (v := 1) dX1_merge_61 (by decide) ?_
        refine rr_goto (tgt := 66) dX1_merge_62 (by decide) ?_
        exact tX1_merge_66 rec9 a1 P x2 x3 hrec9 1
      · refine rr_iload dX1_merge_31 4 rfl ?_
        refine rr_iload_n dX1_merge_33 rfl 2 rfl ?_
        refine rr_icmp_ge (tgt := 65) dX1_merge_34 (by decide) (fun _ => ?_) (fun _ => ?_)
        · refine rr_iconst (v := 0) dX1_merge_65 (by decide) ?_
          exact tX1_merge_66 rec9 a1 P x2 x3 hrec9 0
        · refine rr_aload_n dX1_merge_37 rfl 0 rfl ?_
          refine rr_get (v := .ref 26) cl1 k1_12 (Nat.le_of_ble_eq_true rfl) rfl rfl dX1_merge_38 ?_
          refine rr_aload_n dX1_merge_41 rfl 0 rfl ?_
          refine rr_get (v := .ref 28) cl1 k1_18 (Nat.le_of_ble_eq_true rfl) rfl rfl dX1_merge_42 ?_
          refine rr_iload dX1_merge_45 4 rfl ?_
          refine rr_if (fun z => ?_)
          refine rr_iald (len := (a1.2.2.2.2.2.2 28)) rfl (inb_in z) dX1_merge_47 ?_
          refine rr_aload_n dX1_merge_48 rfl 0 rfl ?_
          refine rr_get (v := .ref 28) cl1 k1_18 (Nat.le_of_ble_eq_true rfl) rfl rfl dX1_merge_49 ?_
          refine rr_iload dX1_merge_52 3 rfl ?_
          refine rr_if (fun z => ?_)
          refine rr_iald (len := (a1.2.2.2.2.2.2 28)) rfl (inb_in z) dX1_merge_54 ?_
          refine rr_vi (As := [.int (a1.2.2.2.2.1 28 a1.2.1.toNatClampNeg), .int (a1.2.2.2.2.1 28 a1.1.toNatClampNeg)]) (rest := []) (tX5_compare_26 P a1.2.2.2 ((a1.2.2.2.2.1 28 a1.2.1.toNatClampNeg)) ((a1.2.2.2.2.1 28 a1.1.toNatClampNeg))) v1_93 rfl rfl ⟨Nat.le_of_ble_eq_true rfl, Nat.le_of_ble_eq_true rfl⟩ rfl rfl (Nat.le_of_ble_eq_true rfl) rfl dX1_merge_55 (fun r5 => ?_)
          refine rr_if_ge (tgt := 65) dX1_merge_58 (by decide) (fun _ => ?_) (fun _ => ?_)
          · refine rr_iconst (v := 0) dX1_merge_65 (by decide) ?_
            exact tX1_merge_66 rec9 a1 P x2 x3 hrec9 0
          · refine rr_iconst (v := 1) dX1_merge_61 (by decide) ?_
            refine rr_goto (tgt := 66) dX1_merge_62 (by decide) ?_
            exact tX1_merge_66 rec9 a1 P x2 x3 hrec9 1
def fX1_merge (P : rr_T) (S : rr_T) (x1 : Int32) (x2 : Int32) (x3 : Int32) : Option rr_T :=
  rr_loop FU (LX1_merge_9 P x2 x3) (x1, x2, x1, S)
set_option maxRecDepth 20000 in
theorem tX1_merge {l : Launch} {G : rr_G} (P : rr_T) (S : rr_T) (x1 : Int32) (x2 : Int32) (x3 : Int32) : TT l G mX1_merge 2 46 fxA rvS (xw P) z0 z0 0 0 [.ref 25, .int x1, .int x2, .int x3] (xw P S) (fX1_merge P S x1 x2 x3) := by
  refine TT.by (by decide) (Nat.le_of_ble_eq_true rfl) (lv := [(0, .ref 25), (1, .int x1), (2, .int x2), (3, .int x3)]) rfl ?_
  show RR l G mX1_merge 2 46 fxA rvS (xw P) z0 z0 0 0 0 [(0, .ref 25), (1, .int x1), (2, .int x2), (3, .int x3)] [] (xw P S) (fX1_merge P S x1 x2 x3)
  unfold fX1_merge
  refine rr_iload_n dX1_merge_0 rfl 1 rfl ?_
  refine rr_istore (lv' := [(4, .int x1), (0, .ref 25), (1, .int x1), (2, .int x2), (3, .int x3)]) dX1_merge_1 (by decide) rfl ?_
  refine rr_iload_n dX1_merge_3 rfl 3 rfl ?_
  refine rr_istore (lv' := [(5, .int x2), (4, .int x1), (0, .ref 25), (1, .int x1), (2, .int x2), (3, .int x3)]) dX1_merge_4 (by decide) rfl ?_
  refine rr_iload_n dX1_merge_6 rfl 3 rfl ?_
  refine rr_istore (lv' := [(6, .int x1), (5, .int x2), (4, .int x1), (0, .ref 25), (1, .int x1), (2, .int x2), (3, .int x3)]) dX1_merge_7 (by decide) rfl ?_
  refine rr_sub [3, 5, 6, 2, 1, 0] rfl ?_
  exact tX1_merge_9 P x2 x3 FU (x1, x2, x1, S)
def fX1_partOf (P : rr_T) (S : rr_T) (x1 : Int32) : Option Int32 :=
  if x1 < 0 then
  some (-1)
else
  if x1 < (nI (S.2.2.2 30)) then
    if inb x1 (S.2.2.2 30) then
      rr_l ((S.2.1 30 x1.toNatClampNeg)) (fun v1 =>
        if v1 < 0 then
        some (-1)
      else
        if (nI (S.2.2.2 31)) ≤ v1 then
          some (-1)
        else
          if inb v1 (S.2.2.2 31) then
            some ((S.2.1 31 v1.toNatClampNeg))
          else none)
    else none
  else
    some (-1)
set_option maxRecDepth 20000 in
theorem tX1_partOf {l : Launch} {G : rr_G} (P : rr_T) (S : rr_T) (x1 : Int32) : TT l G mX1_partOf 0 0 fxA rvI (fun _ => xw P S) z0 z0 0 0 [.ref 25, .int x1] (xw P S) (fX1_partOf P S x1) := by
  refine TT.by (by decide) (Nat.le_of_ble_eq_true rfl) (lv := [(0, .ref 25), (1, .int x1)]) rfl ?_
  show RR l G mX1_partOf 0 0 fxA rvI (fun _ => xw P S) z0 z0 0 0 0 [(0, .ref 25), (1, .int x1)] [] (xw P S) (fX1_partOf P S x1)
  unfold fX1_partOf
  refine rr_iload_n dX1_partOf_0 rfl 1 rfl ?_
  refine rr_if_lt (tgt := 13) dX1_partOf_1 (by decide) (fun _ => ?_) (fun _ => ?_)
  · refine rr_iconst (v := (-1)) dX1_partOf_13 (by decide) ?_
    exact rr_iret dX1_partOf_14 rfl rfl rfl rfl rfl
  · refine rr_iload_n dX1_partOf_4 rfl 1 rfl ?_
    refine rr_aload_n dX1_partOf_5 rfl 0 rfl ?_
    refine rr_get (v := .ref 30) cl1 k1_25 (Nat.le_of_ble_eq_true rfl) rfl rfl dX1_partOf_6 ?_
    refine rr_alen (by decide) rfl dX1_partOf_9 ?_
    refine rr_icmp_lt (tgt := 15) dX1_partOf_10 (by decide) (fun _ => ?_) (fun _ => ?_)
    · refine rr_aload_n dX1_partOf_15 rfl 0 rfl ?_
      refine rr_get (v := .ref 30) cl1 k1_25 (Nat.le_of_ble_eq_true rfl) rfl rfl dX1_partOf_16 ?_
      refine rr_iload_n dX1_partOf_19 rfl 1 rfl ?_
      refine rr_if (fun z => ?_)
      refine rr_iald (len := (S.2.2.2 30)) rfl (inb_in z) dX1_partOf_20 ?_
      refine rr_letI (fun v1 => ?_)
      refine rr_istore_n (lv' := [(2, .int v1), (0, .ref 25), (1, .int x1)]) dX1_partOf_21 rfl (by decide) rfl ?_
      refine rr_iload_n dX1_partOf_22 rfl 0 rfl ?_
      refine rr_if_lt (tgt := 44) dX1_partOf_23 (by decide) (fun _ => ?_) (fun _ => ?_)
      · refine rr_iconst (v := (-1)) dX1_partOf_44 (by decide) ?_
        exact rr_iret dX1_partOf_45 rfl rfl rfl rfl rfl
      · refine rr_iload_n dX1_partOf_26 rfl 0 rfl ?_
        refine rr_aload_n dX1_partOf_27 rfl 1 rfl ?_
        refine rr_get (v := .ref 31) cl1 k1_28 (Nat.le_of_ble_eq_true rfl) rfl rfl dX1_partOf_28 ?_
        refine rr_alen (by decide) rfl dX1_partOf_31 ?_
        refine rr_icmp_ge (tgt := 44) dX1_partOf_32 (by decide) (fun _ => ?_) (fun _ => ?_)
        · refine rr_iconst (v := (-1)) dX1_partOf_44 (by decide) ?_
          exact rr_iret dX1_partOf_45 rfl rfl rfl rfl rfl
        · refine rr_aload_n dX1_partOf_35 rfl 1 rfl ?_
          refine rr_get (v := .ref 31) cl1 k1_28 (Nat.le_of_ble_eq_true rfl) rfl rfl dX1_partOf_36 ?_
          refine rr_iload_n dX1_partOf_39 rfl 0 rfl ?_
          refine rr_if (fun z => ?_)
          refine rr_iald (len := (S.2.2.2 31)) rfl (inb_in z) dX1_partOf_40 ?_
          refine rr_goto (tgt := 45) dX1_partOf_41 (by decide) ?_
          exact rr_iret dX1_partOf_45 rfl rfl rfl rfl rfl
    · refine rr_iconst (v := (-1)) dX1_partOf_13 (by decide) ?_
      exact rr_iret dX1_partOf_14 rfl rfl rfl rfl rfl
def LX1_nameParts_111 (P : rr_T) (rec111 : (Int32 × rr_T) → Option rr_T) (a4 : Int32 × rr_T) : Option rr_T :=
  if a4.1 < 0 then
  some a4.2
else
  (fX1_partOf P a4.2 a4.1).bind (fun r5 =>
    if r5 < 0 then
    rec111 ((a4.1 + (-1)), a4.2)
  else
    if (nI (a4.2.2.2.2 32)) ≤ r5 then
      rec111 ((a4.1 + (-1)), a4.2)
    else
      if inb r5 (a4.2.2.2.2 32) then
        rr_l (pA a4.2 32 r5 a4.1) (fun S6 =>
          rec111 ((a4.1 + (-1)), S6))
      else none)
set_option maxRecDepth 20000 in
theorem tX1_nameParts_111 {l : Launch} {G : rr_G} (P : rr_T) : ∀ (n : Nat) (a : Int32 × rr_T), RR l G mX1_nameParts 2 46 fxA rvS (xw P) z0 z0 0 0 111 [(0, .ref 25), (1, .int a.1)] [] (xw P a.2) (rr_loop n (LX1_nameParts_111 P) a) := by
  refine rr_lp (α := Int32 × rr_T) 111 (fun a => [(0, .ref 25), (1, .int a.1)]) (fun a => (xw P a.2)) (fun rec111 hrec111 a4 => ?_)
  show RR l G mX1_nameParts 2 46 fxA rvS (xw P) z0 z0 0 0 111 [(0, .ref 25), (1, .int a4.1)] [] (xw P a4.2) (LX1_nameParts_111 P rec111 a4)
  unfold LX1_nameParts_111
  refine rr_iload_n dX1_nameParts_111 rfl 1 rfl ?_
  refine rr_if_lt (tgt := 147) dX1_nameParts_112 (by decide) (fun _ => ?_) (fun _ => ?_)
  · exact rr_vret dX1_nameParts_147 rfl rfl rfl rfl rfl
  · refine rr_aload_n dX1_nameParts_115 rfl 0 rfl ?_
    refine rr_iload_n dX1_nameParts_116 rfl 1 rfl ?_
    refine rr_vi (As := [.int a4.1]) (rest := []) (tX1_partOf P a4.2 a4.1) v1_106 rfl rfl ⟨Nat.le_of_ble_eq_true rfl, Nat.le_of_ble_eq_true rfl⟩ rfl rfl (Nat.le_of_ble_eq_true rfl) rfl dX1_nameParts_117 (fun r5 => ?_)
    refine rr_istore_n (lv' := [(2, .int r5), (0, .ref 25), (1, .int a4.1)]) dX1_nameParts_120 rfl (by decide) rfl ?_
    refine rr_iload_n dX1_nameParts_121 rfl 0 rfl ?_
    refine rr_if_lt (tgt := 141) dX1_nameParts_122 (by decide) (fun _ => ?_) (fun _ => ?_)
    · refine rr_iinc (lv' := [(1, .int (a4.1 + (-1))), (2, .int r5), (0, .ref 25)]) dX1_nameParts_141 2 rfl (by decide) rfl ?_
      refine rr_goto (tgt := 111) dX1_nameParts_144 (by decide) ?_
      refine rr_sub [2, 0] rfl ?_
      exact hrec111 ((a4.1 + (-1)), a4.2)
    · refine rr_iload_n dX1_nameParts_125 rfl 0 rfl ?_
      refine rr_aload_n dX1_nameParts_126 rfl 1 rfl ?_
      refine rr_get (v := .ref 32) cl1 k1_31 (Nat.le_of_ble_eq_true rfl) rfl rfl dX1_nameParts_127 ?_
      refine rr_alen (by decide) rfl dX1_nameParts_130 ?_
      refine rr_icmp_ge (tgt := 141) dX1_nameParts_131 (by decide) (fun _ => ?_) (fun _ => ?_)
      · refine rr_iinc (lv' := [(1, .int (a4.1 + (-1))), (2, .int r5), (0, .ref 25)]) dX1_nameParts_141 2 rfl (by decide) rfl ?_
        refine rr_goto (tgt := 111) dX1_nameParts_144 (by decide) ?_
        refine rr_sub [2, 0] rfl ?_
        exact hrec111 ((a4.1 + (-1)), a4.2)
      · refine rr_aload_n dX1_nameParts_134 rfl 1 rfl ?_
        refine rr_get (v := .ref 32) cl1 k1_31 (Nat.le_of_ble_eq_true rfl) rfl rfl dX1_nameParts_135 ?_
        refine rr_iload_n dX1_nameParts_138 rfl 0 rfl ?_
        refine rr_iload_n dX1_nameParts_139 rfl 2 rfl ?_
        refine rr_if (fun z => ?_)
        refine rr_iast (len := (a4.2.2.2.2 32)) rfl (inb_in z) dX1_nameParts_140 (xa32 P a4.2 r5 a4.1) ?_
        refine rr_letS (W := xw P) (fun S6 => ?_)
        refine rr_iinc (lv' := [(1, .int (a4.1 + (-1))), (2, .int r5), (0, .ref 25)]) dX1_nameParts_141 2 rfl (by decide) rfl ?_
        refine rr_goto (tgt := 111) dX1_nameParts_144 (by decide) ?_
        refine rr_sub [2, 0] rfl ?_
        exact hrec111 ((a4.1 + (-1)), S6)
def JX1_nameParts_98 (P : rr_T) (a2 : rr_T) : Option rr_T :=
  rr_l (((a2.1 289) - 1)) (fun v3 =>
  rr_loop FU (LX1_nameParts_111 P) (v3, a2))
set_option maxRecDepth 20000 in
theorem tX1_nameParts_98 {l : Launch} {G : rr_G} (P : rr_T) (a2 : rr_T) : RR l G mX1_nameParts 2 46 fxA rvS (xw P) z0 z0 0 0 98 [(0, .ref 25)] [] (xw P a2) (JX1_nameParts_98 P a2) := by
  unfold JX1_nameParts_98
  refine rr_aload_n dX1_nameParts_98 rfl 0 rfl ?_
  refine rr_get (v := .ref 17) cl1 k1_42 (Nat.le_of_ble_eq_true rfl) rfl rfl dX1_nameParts_99 ?_
  refine rr_get (v := .ref 18) cl0 k1_56 (Nat.le_of_ble_eq_true rfl) rfl rfl dX1_nameParts_102 ?_
  refine rr_get (v := .int (a2.1 289)) cl5 k1_59 (Nat.le_of_ble_eq_true rfl) rfl rfl dX1_nameParts_105 ?_
  refine rr_iconst (v := 1) dX1_nameParts_108 (by decide) ?_
  refine rr_isub dX1_nameParts_109 ?_
  refine rr_letI (fun v3 => ?_)
  refine rr_istore_n (lv' := [(1, .int v3), (0, .ref 25)]) dX1_nameParts_110 rfl (by decide) rfl ?_
  refine rr_sub [1, 0] rfl ?_
  exact tX1_nameParts_111 P FU (v3, a2)
def JX1_nameParts_67 (rec7 : (Int32 × rr_T) → Option rr_T) (a7 : Int32 × rr_T) (v8 : Int32) (a9 : rr_T) : Option rr_T :=
  if v8 < 0 then
  rec7 ((a7.1 + 1), a9)
else
  if (nI (a9.2.2.2 31)) ≤ v8 then
    rec7 ((a7.1 + 1), a9)
  else
    if inb v8 (a9.2.2.2 31) then
      rr_l (pA a9 31 v8 (((a9.1 409) - 1))) (fun S10 =>
        rec7 ((a7.1 + 1), S10))
    else none
set_option maxRecDepth 20000 in
theorem tX1_nameParts_67 {l : Launch} {G : rr_G} (rec7 : (Int32 × rr_T) → Option rr_T) (a7 : Int32 × rr_T) (v8 : Int32) (P : rr_T) (hrec7 : ∀ a : Int32 × rr_T, RR l G mX1_nameParts 2 46 fxA rvS (xw P) z0 z0 0 0 7 [(0, .ref 25), (1, .int a.1)] [] (xw P a.2) (rec7 a)) (a9 : rr_T) : RR l G mX1_nameParts 2 46 fxA rvS (xw P) z0 z0 0 0 67 [(0, .ref 25), (1, .int a7.1), (2, .int v8)] [] (xw P a9) (JX1_nameParts_67 rec7 a7 v8 a9) := by
  unfold JX1_nameParts_67
  refine rr_iload_n dX1_nameParts_67 rfl 2 rfl ?_
  refine rr_if_lt (tgt := 92) dX1_nameParts_68 (by decide) (fun _ => ?_) (fun _ => ?_)
  · refine rr_iinc (lv' := [(1, .int (a7.1 + 1)), (0, .ref 25), (2, .int v8)]) dX1_nameParts_92 1 rfl (by decide) rfl ?_
    refine rr_goto (tgt := 7) dX1_nameParts_95 (by decide) ?_
    refine rr_sub [1, 0] rfl ?_
    exact hrec7 ((a7.1 + 1), a9)
  · refine rr_iload_n dX1_nameParts_71 rfl 2 rfl ?_
    refine rr_aload_n dX1_nameParts_72 rfl 0 rfl ?_
    refine rr_get (v := .ref 31) cl1 k1_28 (Nat.le_of_ble_eq_true rfl) rfl rfl dX1_nameParts_73 ?_
    refine rr_alen (by decide) rfl dX1_nameParts_76 ?_
    refine rr_icmp_ge (tgt := 92) dX1_nameParts_77 (by decide) (fun _ => ?_) (fun _ => ?_)
    · refine rr_iinc (lv' := [(1, .int (a7.1 + 1)), (0, .ref 25), (2, .int v8)]) dX1_nameParts_92 1 rfl (by decide) rfl ?_
      refine rr_goto (tgt := 7) dX1_nameParts_95 (by decide) ?_
      refine rr_sub [1, 0] rfl ?_
      exact hrec7 ((a7.1 + 1), a9)
    · refine rr_aload_n dX1_nameParts_80 rfl 0 rfl ?_
      refine rr_get (v := .ref 31) cl1 k1_28 (Nat.le_of_ble_eq_true rfl) rfl rfl dX1_nameParts_81 ?_
      refine rr_iload_n dX1_nameParts_84 rfl 2 rfl ?_
      refine rr_aload_n dX1_nameParts_85 rfl 0 rfl ?_
      refine rr_get (v := .int (a9.1 409)) cl1 k1_38 (Nat.le_of_ble_eq_true rfl) rfl rfl dX1_nameParts_86 ?_
      refine rr_iconst (v := 1) dX1_nameParts_89 (by decide) ?_
      refine rr_isub dX1_nameParts_90 ?_
      refine rr_if (fun z => ?_)
      refine rr_iast (len := (a9.2.2.2 31)) rfl (inb_in z) dX1_nameParts_91 (xa31 P a9 v8 (((a9.1 409) - 1))) ?_
      refine rr_letS (W := xw P) (fun S10 => ?_)
      refine rr_iinc (lv' := [(1, .int (a7.1 + 1)), (0, .ref 25), (2, .int v8)]) dX1_nameParts_92 1 rfl (by decide) rfl ?_
      refine rr_goto (tgt := 7) dX1_nameParts_95 (by decide) ?_
      refine rr_sub [1, 0] rfl ?_
      exact hrec7 ((a7.1 + 1), S10)
def JX1_nameParts_57 (rec7 : (Int32 × rr_T) → Option rr_T) (a7 : Int32 × rr_T) (v8 : Int32) (a11 : Unit) : Option rr_T :=
  rr_l (pI a7.2 409 (((a7.2.1 409) + 1))) (fun S12 =>
  JX1_nameParts_67 rec7 a7 v8 S12)
set_option maxRecDepth 20000 in
theorem tX1_nameParts_57 {l : Launch} {G : rr_G} (rec7 : (Int32 × rr_T) → Option rr_T) (a7 : Int32 × rr_T) (v8 : Int32) (P : rr_T) (hrec7 : ∀ a : Int32 × rr_T, RR l G mX1_nameParts 2 46 fxA rvS (xw P) z0 z0 0 0 7 [(0, .ref 25), (1, .int a.1)] [] (xw P a.2) (rec7 a)) (a11 : Unit) : RR l G mX1_nameParts 2 46 fxA rvS (xw P) z0 z0 0 0 57 [(0, .ref 25), (1, .int a7.1), (2, .int v8)] [] (xw P a7.2) (JX1_nameParts_57 rec7 a7 v8 a11) := by
  unfold JX1_nameParts_57
  refine rr_aload_n dX1_nameParts_57 rfl 0 rfl ?_
  refine rr_dup dX1_nameParts_58 rfl ?_
  refine rr_get (v := .int (a7.2.1 409)) cl1 k1_38 (Nat.le_of_ble_eq_true rfl) rfl rfl dX1_nameParts_59 ?_
  refine rr_iconst (v := 1) dX1_nameParts_62 (by decide) ?_
  refine rr_iadd dX1_nameParts_63 ?_
  refine rr_put cl1 k1_38 (Nat.le_of_ble_eq_true rfl) rfl rfl rfl rfl (Nat.le_of_ble_eq_true rfl) dX1_nameParts_64 (xp25_9 P a7.2 (((a7.2.1 409) + 1))) ?_
  refine rr_letS (W := xw P) (fun S12 => ?_)
  exact tX1_nameParts_67 rec7 a7 v8 P hrec7 S12
def LX1_nameParts_7 (P : rr_T) (rec7 : (Int32 × rr_T) → Option rr_T) (a7 : Int32 × rr_T) : Option rr_T :=
  if (a7.2.1 417) ≤ a7.1 then
  JX1_nameParts_98 P a7.2
else
  if (nI (a7.2.2.2.2 28)) ≤ a7.1 then
    JX1_nameParts_98 P a7.2
  else
    if inb a7.1 (a7.2.2.2.2 28) then
      rr_l ((a7.2.2.1 28 a7.1.toNatClampNeg)) (fun v8 =>
        if a7.1 = 0 then
        JX1_nameParts_57 rec7 a7 v8 ()
      else
        if inb (a7.1 - 1) (a7.2.2.2.2 28) then
          (fX5_compare_26 P a7.2 ((a7.2.2.1 28 (a7.1 - 1).toNatClampNeg)) v8).bind (fun r13 =>
            if r13 = 0 then
            JX1_nameParts_67 rec7 a7 v8 a7.2
          else
            JX1_nameParts_57 rec7 a7 v8 ())
        else none)
    else none
set_option maxRecDepth 20000 in
theorem tX1_nameParts_7 {l : Launch} {G : rr_G} (P : rr_T) : ∀ (n : Nat) (a : Int32 × rr_T), RR l G mX1_nameParts 2 46 fxA rvS (xw P) z0 z0 0 0 7 [(0, .ref 25), (1, .int a.1)] [] (xw P a.2) (rr_loop n (LX1_nameParts_7 P) a) := by
  refine rr_lp (α := Int32 × rr_T) 7 (fun a => [(0, .ref 25), (1, .int a.1)]) (fun a => (xw P a.2)) (fun rec7 hrec7 a7 => ?_)
  show RR l G mX1_nameParts 2 46 fxA rvS (xw P) z0 z0 0 0 7 [(0, .ref 25), (1, .int a7.1)] [] (xw P a7.2) (LX1_nameParts_7 P rec7 a7)
  unfold LX1_nameParts_7
  refine rr_iload_n dX1_nameParts_7 rfl 1 rfl ?_
  refine rr_aload_n dX1_nameParts_8 rfl 0 rfl ?_
  refine rr_get (v := .ref 26) cl1 k1_12 (Nat.le_of_ble_eq_true rfl) rfl rfl dX1_nameParts_9 ?_
  refine rr_get (v := .int (a7.2.1 417)) cl5 k1_59 (Nat.le_of_ble_eq_true rfl) rfl rfl dX1_nameParts_12 ?_
  refine rr_icmp_ge (tgt := 98) dX1_nameParts_15 (by decide) (fun _ => ?_) (fun _ => ?_)
  · refine rr_sub [0] rfl ?_
    exact tX1_nameParts_98 P a7.2
  · refine rr_iload_n dX1_nameParts_18 rfl 1 rfl ?_
    refine rr_aload_n dX1_nameParts_19 rfl 0 rfl ?_
    refine rr_get (v := .ref 28) cl1 k1_18 (Nat.le_of_ble_eq_true rfl) rfl rfl dX1_nameParts_20 ?_
    refine rr_alen (by decide) rfl dX1_nameParts_23 ?_
    refine rr_icmp_ge (tgt := 98) dX1_nameParts_24 (by decide) (fun _ => ?_) (fun _ => ?_)
    · refine rr_sub [0] rfl ?_
      exact tX1_nameParts_98 P a7.2
    · refine rr_aload_n dX1_nameParts_27 rfl 0 rfl ?_
      refine rr_get (v := .ref 28) cl1 k1_18 (Nat.le_of_ble_eq_true rfl) rfl rfl dX1_nameParts_28 ?_
      refine rr_iload_n dX1_nameParts_31 rfl 1 rfl ?_
      refine rr_if (fun z => ?_)
      refine rr_iald (len := (a7.2.2.2.2 28)) rfl (inb_in z) dX1_nameParts_32 ?_
      refine rr_letI (fun v8 => ?_)
      refine rr_istore_n (lv' := [(2, .int v8), (0, .ref 25), (1, .int a7.1)]) dX1_nameParts_33 rfl (by decide) rfl ?_
      refine rr_iload_n dX1_nameParts_34 rfl 2 rfl ?_
      refine rr_if_eq (tgt := 57) dX1_nameParts_35 (by decide) (fun _ => ?_) (fun _ => ?_)
      · refine rr_sub [1, 2, 0] rfl ?_
        exact tX1_nameParts_57 rec7 a7 v8 P hrec7 ()
      · refine rr_aload_n dX1_nameParts_38 rfl 1 rfl ?_
        refine rr_get (v := .ref 26) cl1 k1_12 (Nat.le_of_ble_eq_true rfl) rfl rfl dX1_nameParts_39 ?_
        refine rr_aload_n dX1_nameParts_42 rfl 1 rfl ?_
        refine rr_get (v := .ref 28) cl1 k1_18 (Nat.le_of_ble_eq_true rfl) rfl rfl dX1_nameParts_43 ?_
        refine rr_iload_n dX1_nameParts_46 rfl 2 rfl ?_
        refine rr_iconst (v := 1) dX1_nameParts_47 (by decide) ?_
        refine rr_isub dX1_nameParts_48 ?_
        refine rr_if (fun z => ?_)
        refine rr_iald (len := (a7.2.2.2.2 28)) rfl (inb_in z) dX1_nameParts_49 ?_
        refine rr_iload_n dX1_nameParts_50 rfl 0 rfl ?_
        refine rr_vi (As := [.int (a7.2.2.1 28 (a7.1 - 1).toNatClampNeg), .int v8]) (rest := []) (tX5_compare_26 P a7.2 ((a7.2.2.1 28 (a7.1 - 1).toNatClampNeg)) v8) v1_93 rfl rfl ⟨Nat.le_of_ble_eq_true rfl, Nat.le_of_ble_eq_true rfl⟩ rfl rfl (Nat.le_of_ble_eq_true rfl) rfl dX1_nameParts_51 (fun r13 => ?_)
        refine rr_if_eq (tgt := 67) dX1_nameParts_54 (by decide) (fun _ => ?_) (fun _ => ?_)
        · refine rr_sub [1, 2, 0] rfl ?_
          exact tX1_nameParts_67 rec7 a7 v8 P hrec7 a7.2
        · refine rr_sub [1, 2, 0] rfl ?_
          exact tX1_nameParts_57 rec7 a7 v8 P hrec7 ()
def fX1_nameParts (P : rr_T) (S : rr_T) : Option rr_T :=
  rr_l (pI S 409 0) (fun S1 =>
  rr_loop FU (LX1_nameParts_7 P) (0, S1))
set_option maxRecDepth 20000 in
theorem tX1_nameParts {l : Launch} {G : rr_G} (P : rr_T) (S : rr_T) : TT l G mX1_nameParts 2 46 fxA rvS (xw P) z0 z0 0 0 [.ref 25] (xw P S) (fX1_nameParts P S) := by
  refine TT.by (by decide) (Nat.le_of_ble_eq_true rfl) (lv := [(0, .ref 25)]) rfl ?_
  show RR l G mX1_nameParts 2 46 fxA rvS (xw P) z0 z0 0 0 0 [(0, .ref 25)] [] (xw P S) (fX1_nameParts P S)
  unfold fX1_nameParts
  refine rr_aload_n dX1_nameParts_0 rfl 0 rfl ?_
  refine rr_iconst (v := 0) dX1_nameParts_1 (by decide) ?_
  refine rr_put cl1 k1_38 (Nat.le_of_ble_eq_true rfl) rfl rfl rfl rfl (Nat.le_of_ble_eq_true rfl) dX1_nameParts_2 (xp25_9 P S 0) ?_
  refine rr_letS (W := xw P) (fun S1 => ?_)
  refine rr_iconst (v := 0) dX1_nameParts_5 (by decide) ?_
  refine rr_istore_n (lv' := [(1, .int 0), (0, .ref 25)]) dX1_nameParts_6 rfl (by decide) rfl ?_
  refine rr_sub [1, 0] rfl ?_
  exact tX1_nameParts_7 P FU (0, S1)
def fX1_replay (P : rr_T) (S : rr_T) (x1 : Int32) : Option (Int32 × rr_T) :=
  if x1 < 0 then
  some ((0, S))
else
  if x1 < (S.1 409) then
    if inb x1 (S.2.2.2 32) then
      (fX2_load P S ((S.2.1 32 x1.toNatClampNeg))).bind (fun S1 =>
        (fX3_run P S1).bind (fun S2 =>
        some ((1, S2))))
    else none
  else
    some ((0, S))
set_option maxRecDepth 20000 in
theorem tX1_replay {l : Launch} {G : rr_G} (P : rr_T) (S : rr_T) (x1 : Int32) : TT l G mX1_replay 5 115 fxA rvIS (fun q => xw P q.2) z0 z0 0 0 [.ref 25, .int x1, .ref 8] (xw P S) (fX1_replay P S x1) := by
  refine TT.by (by decide) (Nat.le_of_ble_eq_true rfl) (lv := [(0, .ref 25), (1, .int x1), (2, .ref 8)]) rfl ?_
  show RR l G mX1_replay 5 115 fxA rvIS (fun q => xw P q.2) z0 z0 0 0 0 [(0, .ref 25), (1, .int x1), (2, .ref 8)] [] (xw P S) (fX1_replay P S x1)
  unfold fX1_replay
  refine rr_iload_n dX1_replay_0 rfl 1 rfl ?_
  refine rr_if_lt (tgt := 12) dX1_replay_1 (by decide) (fun _ => ?_) (fun _ => ?_)
  · refine rr_iconst (v := 0) dX1_replay_12 (by decide) ?_
    exact rr_zret dX1_replay_13 rfl (by decide) rfl rfl rfl rfl
  · refine rr_iload_n dX1_replay_4 rfl 1 rfl ?_
    refine rr_aload_n dX1_replay_5 rfl 0 rfl ?_
    refine rr_get (v := .int (S.1 409)) cl1 k1_38 (Nat.le_of_ble_eq_true rfl) rfl rfl dX1_replay_6 ?_
    refine rr_icmp_lt (tgt := 14) dX1_replay_9 (by decide) (fun _ => ?_) (fun _ => ?_)
    · refine rr_aload_n dX1_replay_14 rfl 0 rfl ?_
      refine rr_get (v := .ref 17) cl1 k1_42 (Nat.le_of_ble_eq_true rfl) rfl rfl dX1_replay_15 ?_
      refine rr_get (v := .ref 10) cl0 k1_67 (Nat.le_of_ble_eq_true rfl) rfl rfl dX1_replay_18 ?_
      refine rr_aload_n dX1_replay_21 rfl 0 rfl ?_
      refine rr_get (v := .ref 17) cl1 k1_42 (Nat.le_of_ble_eq_true rfl) rfl rfl dX1_replay_22 ?_
      refine rr_get (v := .ref 18) cl0 k1_56 (Nat.le_of_ble_eq_true rfl) rfl rfl dX1_replay_25 ?_
      refine rr_aload_n dX1_replay_28 rfl 0 rfl ?_
      refine rr_get (v := .ref 32) cl1 k1_31 (Nat.le_of_ble_eq_true rfl) rfl rfl dX1_replay_29 ?_
      refine rr_iload_n dX1_replay_32 rfl 1 rfl ?_
      refine rr_if (fun z => ?_)
      refine rr_iald (len := (S.2.2.2 32)) rfl (inb_in z) dX1_replay_33 ?_
      refine rr_vs (W := xw P) (As := [.ref 18, .int (S.2.1 32 x1.toNatClampNeg)]) (rest := []) (tX2_load P S ((S.2.1 32 x1.toNatClampNeg))) v1_71 rfl rfl ⟨Nat.le_of_ble_eq_true rfl, Nat.le_of_ble_eq_true rfl⟩ (fun _ _ => rfl) rfl rfl (Nat.le_of_ble_eq_true rfl) rfl dX1_replay_34 (fun S1 => ?_)
      refine rr_aload_n dX1_replay_37 rfl 0 rfl ?_
      refine rr_get (v := .ref 21) cl1 k1_46 (Nat.le_of_ble_eq_true rfl) rfl rfl dX1_replay_38 ?_
      refine rr_aload_n dX1_replay_41 rfl 2 rfl ?_
      refine rr_vs (W := xw P) (As := [.ref 8]) (rest := []) (tX3_run P S1) v1_77 rfl rfl ⟨Nat.le_of_ble_eq_true rfl, Nat.le_of_ble_eq_true rfl⟩ (fun _ _ => rfl) rfl rfl (Nat.le_of_ble_eq_true rfl) rfl dX1_replay_42 (fun S2 => ?_)
      refine rr_iconst (v := 1) dX1_replay_45 (by decide) ?_
      exact rr_zret dX1_replay_46 rfl (by decide) rfl rfl rfl rfl
    · refine rr_iconst (v := 0) dX1_replay_12 (by decide) ?_
      exact rr_zret dX1_replay_13 rfl (by decide) rfl rfl rfl rfl
def LX1_sizeOf_4 (P : rr_T) (S : rr_T) (x1 : Int32) (rec4 : (Int32 × Int32) → Option Int32) (a1 : Int32 × Int32) : Option Int32 :=
  if (S.1 289) ≤ a1.2 then
  some a1.1
else
  (fX1_partOf P S a1.2).bind (fun r2 =>
    if r2 = x1 then
    rec4 ((a1.1 + 1), (a1.2 + 1))
  else
    rec4 (a1.1, (a1.2 + 1)))
set_option maxRecDepth 20000 in
theorem tX1_sizeOf_4 {l : Launch} {G : rr_G} (P : rr_T) (S : rr_T) (x1 : Int32) : ∀ (n : Nat) (a : Int32 × Int32), RR l G mX1_sizeOf 1 22 fxA rvI (fun _ => xw P S) z0 z0 0 0 4 [(0, .ref 25), (1, .int x1), (2, .int a.1), (3, .int a.2)] [] (xw P S) (rr_loop n (LX1_sizeOf_4 P S x1) a) := by
  refine rr_lp (α := Int32 × Int32) 4 (fun a => [(0, .ref 25), (1, .int x1), (2, .int a.1), (3, .int a.2)]) (fun a => (xw P S)) (fun rec4 hrec4 a1 => ?_)
  show RR l G mX1_sizeOf 1 22 fxA rvI (fun _ => xw P S) z0 z0 0 0 4 [(0, .ref 25), (1, .int x1), (2, .int a1.1), (3, .int a1.2)] [] (xw P S) (LX1_sizeOf_4 P S x1 rec4 a1)
  unfold LX1_sizeOf_4
  refine rr_iload_n dX1_sizeOf_4 rfl 3 rfl ?_
  refine rr_aload_n dX1_sizeOf_5 rfl 0 rfl ?_
  refine rr_get (v := .ref 17) cl1 k1_42 (Nat.le_of_ble_eq_true rfl) rfl rfl dX1_sizeOf_6 ?_
  refine rr_get (v := .ref 18) cl0 k1_56 (Nat.le_of_ble_eq_true rfl) rfl rfl dX1_sizeOf_9 ?_
  refine rr_get (v := .int (S.1 289)) cl5 k1_59 (Nat.le_of_ble_eq_true rfl) rfl rfl dX1_sizeOf_12 ?_
  refine rr_icmp_ge (tgt := 36) dX1_sizeOf_15 (by decide) (fun _ => ?_) (fun _ => ?_)
  · refine rr_iload_n dX1_sizeOf_36 rfl 2 rfl ?_
    exact rr_iret dX1_sizeOf_37 rfl rfl rfl rfl rfl
  · refine rr_aload_n dX1_sizeOf_18 rfl 0 rfl ?_
    refine rr_iload_n dX1_sizeOf_19 rfl 3 rfl ?_
    refine rr_vi (As := [.int a1.2]) (rest := []) (tX1_partOf P S a1.2) v1_106 rfl rfl ⟨Nat.le_of_ble_eq_true rfl, Nat.le_of_ble_eq_true rfl⟩ rfl rfl (Nat.le_of_ble_eq_true rfl) rfl dX1_sizeOf_20 (fun r2 => ?_)
    refine rr_iload_n dX1_sizeOf_23 rfl 1 rfl ?_
    refine rr_icmp_ne (tgt := 30) dX1_sizeOf_24 (by decide) (fun _ => ?_) (fun _ => ?_)
    · refine rr_iinc (lv' := [(3, .int (a1.2 + 1)), (0, .ref 25), (1, .int x1), (2, .int a1.1)]) dX1_sizeOf_30 3 rfl (by decide) rfl ?_
      refine rr_goto (tgt := 4) dX1_sizeOf_33 (by decide) ?_
      refine rr_sub [1, 2, 3, 0] rfl ?_
      exact hrec4 (a1.1, (a1.2 + 1))
    · refine rr_iinc (lv' := [(2, .int (a1.1 + 1)), (0, .ref 25), (1, .int x1), (3, .int a1.2)]) dX1_sizeOf_27 2 rfl (by decide) rfl ?_
      refine rr_iinc (lv' := [(3, .int (a1.2 + 1)), (2, .int (a1.1 + 1)), (0, .ref 25), (1, .int x1)]) dX1_sizeOf_30 3 rfl (by decide) rfl ?_
      refine rr_goto (tgt := 4) dX1_sizeOf_33 (by decide) ?_
      refine rr_sub [2, 3, 1, 0] rfl ?_
      exact hrec4 ((a1.1 + 1), (a1.2 + 1))
def fX1_sizeOf (P : rr_T) (S : rr_T) (x1 : Int32) : Option Int32 :=
  rr_loop FU (LX1_sizeOf_4 P S x1) (0, 0)
set_option maxRecDepth 20000 in
theorem tX1_sizeOf {l : Launch} {G : rr_G} (P : rr_T) (S : rr_T) (x1 : Int32) : TT l G mX1_sizeOf 1 22 fxA rvI (fun _ => xw P S) z0 z0 0 0 [.ref 25, .int x1] (xw P S) (fX1_sizeOf P S x1) := by
  refine TT.by (by decide) (Nat.le_of_ble_eq_true rfl) (lv := [(0, .ref 25), (1, .int x1)]) rfl ?_
  show RR l G mX1_sizeOf 1 22 fxA rvI (fun _ => xw P S) z0 z0 0 0 0 [(0, .ref 25), (1, .int x1)] [] (xw P S) (fX1_sizeOf P S x1)
  unfold fX1_sizeOf
  refine rr_iconst (v := 0) dX1_sizeOf_0 (by decide) ?_
  refine rr_istore_n (lv' := [(2, .int 0), (0, .ref 25), (1, .int x1)]) dX1_sizeOf_1 rfl (by decide) rfl ?_
  refine rr_iconst (v := 0) dX1_sizeOf_2 (by decide) ?_
  refine rr_istore_n (lv' := [(3, .int 0), (2, .int 0), (0, .ref 25), (1, .int x1)]) dX1_sizeOf_3 rfl (by decide) rfl ?_
  refine rr_sub [2, 3, 1, 0] rfl ?_
  exact tX1_sizeOf_4 P S x1 FU (0, 0)
def fX0_keptRow (P : rr_T) (S : rr_T) (x1 : Int32) : Option Int32 :=
  (fX0_isKeptNumber P S x1).bind (fun r1 =>
  if r1 = 0 then
  some (-1)
else
  if inb x1 (S.2.2.2 20) then
    some ((S.2.1 20 x1.toNatClampNeg))
  else none)
set_option maxRecDepth 20000 in
theorem tX0_keptRow {l : Launch} {G : rr_G} (P : rr_T) (S : rr_T) (x1 : Int32) : TT l G mX0_keptRow 1 21 fxA rvI (fun _ => xw P S) z0 z0 0 0 [.ref 17, .int x1] (xw P S) (fX0_keptRow P S x1) := by
  refine TT.by (by decide) (Nat.le_of_ble_eq_true rfl) (lv := [(0, .ref 17), (1, .int x1)]) rfl ?_
  show RR l G mX0_keptRow 1 21 fxA rvI (fun _ => xw P S) z0 z0 0 0 0 [(0, .ref 17), (1, .int x1)] [] (xw P S) (fX0_keptRow P S x1)
  unfold fX0_keptRow
  refine rr_aload_n dX0_keptRow_0 rfl 0 rfl ?_
  refine rr_iload_n dX0_keptRow_1 rfl 1 rfl ?_
  refine rr_vi (As := [.int x1]) (rest := []) (tX0_isKeptNumber P S x1) v0_90 rfl rfl ⟨Nat.le_of_ble_eq_true rfl, Nat.le_of_ble_eq_true rfl⟩ rfl rfl (Nat.le_of_ble_eq_true rfl) rfl dX0_keptRow_2 (fun r1 => ?_)
  refine rr_if_eq (tgt := 17) dX0_keptRow_5 (by decide) (fun _ => ?_) (fun _ => ?_)
  · refine rr_iconst (v := (-1)) dX0_keptRow_17 (by decide) ?_
    exact rr_iret dX0_keptRow_18 rfl rfl rfl rfl rfl
  · refine rr_aload_n dX0_keptRow_8 rfl 0 rfl ?_
    refine rr_get (v := .ref 20) cl0 k0_22 (Nat.le_of_ble_eq_true rfl) rfl rfl dX0_keptRow_9 ?_
    refine rr_iload_n dX0_keptRow_12 rfl 1 rfl ?_
    refine rr_if (fun z => ?_)
    refine rr_iald (len := (S.2.2.2 20)) rfl (inb_in z) dX0_keptRow_13 ?_
    refine rr_goto (tgt := 18) dX0_keptRow_14 (by decide) ?_
    exact rr_iret dX0_keptRow_18 rfl rfl rfl rfl rfl
def LX1_keptIn_4 (P : rr_T) (S : rr_T) (x1 : Int32) (rec4 : (Int32 × Int32) → Option Int32) (a1 : Int32 × Int32) : Option Int32 :=
  if (S.1 277) ≤ a1.2 then
  some a1.1
else
  (fX0_keptRow P S a1.2).bind (fun r2 =>
    (fX1_partOf P S r2).bind (fun r3 =>
    if r3 = x1 then
    rec4 ((a1.1 + 1), (a1.2 + 1))
  else
    rec4 (a1.1, (a1.2 + 1))))
set_option maxRecDepth 20000 in
theorem tX1_keptIn_4 {l : Launch} {G : rr_G} (P : rr_T) (S : rr_T) (x1 : Int32) : ∀ (n : Nat) (a : Int32 × Int32), RR l G mX1_keptIn 2 42 fxA rvI (fun _ => xw P S) z0 z0 0 0 4 [(0, .ref 25), (1, .int x1), (2, .int a.1), (3, .int a.2)] [] (xw P S) (rr_loop n (LX1_keptIn_4 P S x1) a) := by
  refine rr_lp (α := Int32 × Int32) 4 (fun a => [(0, .ref 25), (1, .int x1), (2, .int a.1), (3, .int a.2)]) (fun a => (xw P S)) (fun rec4 hrec4 a1 => ?_)
  show RR l G mX1_keptIn 2 42 fxA rvI (fun _ => xw P S) z0 z0 0 0 4 [(0, .ref 25), (1, .int x1), (2, .int a1.1), (3, .int a1.2)] [] (xw P S) (LX1_keptIn_4 P S x1 rec4 a1)
  unfold LX1_keptIn_4
  refine rr_iload_n dX1_keptIn_4 rfl 3 rfl ?_
  refine rr_aload_n dX1_keptIn_5 rfl 0 rfl ?_
  refine rr_get (v := .ref 17) cl1 k1_42 (Nat.le_of_ble_eq_true rfl) rfl rfl dX1_keptIn_6 ?_
  refine rr_get (v := .int (S.1 277)) cl0 k1_110 (Nat.le_of_ble_eq_true rfl) rfl rfl dX1_keptIn_9 ?_
  refine rr_icmp_ge (tgt := 40) dX1_keptIn_12 (by decide) (fun _ => ?_) (fun _ => ?_)
  · refine rr_iload_n dX1_keptIn_40 rfl 2 rfl ?_
    exact rr_iret dX1_keptIn_41 rfl rfl rfl rfl rfl
  · refine rr_aload_n dX1_keptIn_15 rfl 0 rfl ?_
    refine rr_aload_n dX1_keptIn_16 rfl 0 rfl ?_
    refine rr_get (v := .ref 17) cl1 k1_42 (Nat.le_of_ble_eq_true rfl) rfl rfl dX1_keptIn_17 ?_
    refine rr_iload_n dX1_keptIn_20 rfl 3 rfl ?_
    refine rr_vi (As := [.int a1.2]) (rest := [.ref 25]) (tX0_keptRow P S a1.2) v1_113 rfl rfl ⟨Nat.le_of_ble_eq_true rfl, Nat.le_of_ble_eq_true rfl⟩ rfl rfl (Nat.le_of_ble_eq_true rfl) rfl dX1_keptIn_21 (fun r2 => ?_)
    refine rr_vi (As := [.int r2]) (rest := []) (tX1_partOf P S r2) v1_106 rfl rfl ⟨Nat.le_of_ble_eq_true rfl, Nat.le_of_ble_eq_true rfl⟩ rfl rfl (Nat.le_of_ble_eq_true rfl) rfl dX1_keptIn_24 (fun r3 => ?_)
    refine rr_iload_n dX1_keptIn_27 rfl 1 rfl ?_
    refine rr_icmp_ne (tgt := 34) dX1_keptIn_28 (by decide) (fun _ => ?_) (fun _ => ?_)
    · refine rr_iinc (lv' := [(3, .int (a1.2 + 1)), (0, .ref 25), (1, .int x1), (2, .int a1.1)]) dX1_keptIn_34 3 rfl (by decide) rfl ?_
      refine rr_goto (tgt := 4) dX1_keptIn_37 (by decide) ?_
      refine rr_sub [1, 2, 3, 0] rfl ?_
      exact hrec4 (a1.1, (a1.2 + 1))
    · refine rr_iinc (lv' := [(2, .int (a1.1 + 1)), (0, .ref 25), (1, .int x1), (3, .int a1.2)]) dX1_keptIn_31 2 rfl (by decide) rfl ?_
      refine rr_iinc (lv' := [(3, .int (a1.2 + 1)), (2, .int (a1.1 + 1)), (0, .ref 25), (1, .int x1)]) dX1_keptIn_34 3 rfl (by decide) rfl ?_
      refine rr_goto (tgt := 4) dX1_keptIn_37 (by decide) ?_
      refine rr_sub [2, 3, 1, 0] rfl ?_
      exact hrec4 ((a1.1 + 1), (a1.2 + 1))
def fX1_keptIn (P : rr_T) (S : rr_T) (x1 : Int32) : Option Int32 :=
  rr_loop FU (LX1_keptIn_4 P S x1) (0, 0)
set_option maxRecDepth 20000 in
theorem tX1_keptIn {l : Launch} {G : rr_G} (P : rr_T) (S : rr_T) (x1 : Int32) : TT l G mX1_keptIn 2 42 fxA rvI (fun _ => xw P S) z0 z0 0 0 [.ref 25, .int x1] (xw P S) (fX1_keptIn P S x1) := by
  refine TT.by (by decide) (Nat.le_of_ble_eq_true rfl) (lv := [(0, .ref 25), (1, .int x1)]) rfl ?_
  show RR l G mX1_keptIn 2 42 fxA rvI (fun _ => xw P S) z0 z0 0 0 0 [(0, .ref 25), (1, .int x1)] [] (xw P S) (fX1_keptIn P S x1)
  unfold fX1_keptIn
  refine rr_iconst (v := 0) dX1_keptIn_0 (by decide) ?_
  refine rr_istore_n (lv' := [(2, .int 0), (0, .ref 25), (1, .int x1)]) dX1_keptIn_1 rfl (by decide) rfl ?_
  refine rr_iconst (v := 0) dX1_keptIn_2 (by decide) ?_
  refine rr_istore_n (lv' := [(3, .int 0), (2, .int 0), (0, .ref 25), (1, .int x1)]) dX1_keptIn_3 rfl (by decide) rfl ?_
  refine rr_sub [2, 3, 1, 0] rfl ?_
  exact tX1_keptIn_4 P S x1 FU (0, 0)
def fX3_lookAt (P : rr_T) (S : rr_T) (x1 : Int32) : Option Int32 :=
  if x1 < 0 then
  some (-1)
else
  if (S.1 340) ≤ x1 then
    some (-1)
  else
    if inb x1 22 then
      some ((S.2.1 24 x1.toNatClampNeg))
    else none
set_option maxRecDepth 20000 in
theorem tX3_lookAt {l : Launch} {G : rr_G} (P : rr_T) (S : rr_T) (x1 : Int32) : TT l G mX3_lookAt 0 0 fxA rvI (fun _ => xw P S) z0 z0 0 0 [.ref 21, .int x1] (xw P S) (fX3_lookAt P S x1) := by
  refine TT.by (by decide) (Nat.le_of_ble_eq_true rfl) (lv := [(0, .ref 21), (1, .int x1)]) rfl ?_
  show RR l G mX3_lookAt 0 0 fxA rvI (fun _ => xw P S) z0 z0 0 0 0 [(0, .ref 21), (1, .int x1)] [] (xw P S) (fX3_lookAt P S x1)
  unfold fX3_lookAt
  refine rr_iload_n dX3_lookAt_0 rfl 1 rfl ?_
  refine rr_if_lt (tgt := 21) dX3_lookAt_1 (by decide) (fun _ => ?_) (fun _ => ?_)
  · refine rr_iconst (v := (-1)) dX3_lookAt_21 (by decide) ?_
    exact rr_iret dX3_lookAt_22 rfl rfl rfl rfl rfl
  · refine rr_iload_n dX3_lookAt_4 rfl 1 rfl ?_
    refine rr_aload_n dX3_lookAt_5 rfl 0 rfl ?_
    refine rr_get (v := .int (S.1 340)) cl3 k3_21 (Nat.le_of_ble_eq_true rfl) rfl rfl dX3_lookAt_6 ?_
    refine rr_icmp_ge (tgt := 21) dX3_lookAt_9 (by decide) (fun _ => ?_) (fun _ => ?_)
    · refine rr_iconst (v := (-1)) dX3_lookAt_21 (by decide) ?_
      exact rr_iret dX3_lookAt_22 rfl rfl rfl rfl rfl
    · refine rr_aload_n dX3_lookAt_12 rfl 0 rfl ?_
      refine rr_get (v := .ref 24) cl3 k3_18 (Nat.le_of_ble_eq_true rfl) rfl rfl dX3_lookAt_13 ?_
      refine rr_iload_n dX3_lookAt_16 rfl 1 rfl ?_
      refine rr_if (fun z => ?_)
      refine rr_iald (len := 22) rfl (inb_in z) dX3_lookAt_17 ?_
      refine rr_goto (tgt := 22) dX3_lookAt_18 (by decide) ?_
      exact rr_iret dX3_lookAt_22 rfl rfl rfl rfl rfl
