/-! ===== the reference's methods: rank, step, erase, lookRef, ask, askField, doStep, playHeap ===== -/
def JM_rank_178 (S3 : rr_T) (rec95 : Int32 → Option (Int32 × rr_T)) (a4 : Int32) (a6 : Int32) : Option (Int32 × rr_T) :=
  if a6 = 0 then
  rec95 ((a4 + 1))
else
  some ((a4, S3))
set_option maxRecDepth 20000 in
theorem tM_rank_178 {l : Launch} {G : rr_G} (S3 : rr_T) (rec95 : Int32 → Option (Int32 × rr_T)) (a4 : Int32) (hrec95 : ∀ a : Int32, RR l G mX11_rank 6 134 fxA rvIS (fun q => mw q.2) z0 z0 0 0 95 [(0, .ref 0), (1, .int a)] [] (mw S3) (rec95 a)) (a6 : Int32) : RR l G mX11_rank 6 134 fxA rvIS (fun q => mw q.2) z0 z0 0 0 178 [(0, .ref 0), (1, .int a4), (2, .int a6)] [] (mw S3) (JM_rank_178 S3 rec95 a4 a6) := by
  unfold JM_rank_178
  refine rr_iload_n dX11_rank_178 rfl 2 rfl ?_
  refine rr_if_eq (tgt := 184) dX11_rank_179 (by decide) (fun _ => ?_) (fun _ => ?_)
  · refine rr_iinc (lv' := [(1, .int (a4 + 1)), (0, .ref 0), (2, .int a6)]) dX11_rank_184 1 rfl (by decide) rfl ?_
    refine rr_goto (tgt := 95) dX11_rank_187 (by decide) ?_
    refine rr_sub [1, 0] rfl ?_
    exact hrec95 ((a4 + 1))
  · refine rr_iload_n dX11_rank_182 rfl 1 rfl ?_
    exact rr_iret dX11_rank_183 rfl rfl rfl rfl rfl
def LM_rank_129 (S3 : rr_T) (rec95 : Int32 → Option (Int32 × rr_T)) (a4 : Int32) (rec129 : (Int32 × Int32) → Option (Int32 × rr_T)) (a7 : Int32 × Int32) : Option (Int32 × rr_T) :=
  if (S3.1 19) ≤ a7.2 then
  JM_rank_178 S3 rec95 a4 a7.1
else
  if a7.1 = 0 then
    JM_rank_178 S3 rec95 a4 a7.1
  else
    if inb a4 4000 then
      if inb ((22 * (S3.2.1 18 a4.toNatClampNeg)) + a7.2) 88000 then
        if inb a7.2 40 then
          if (S3.2.1 16 ((22 * (S3.2.1 18 a4.toNatClampNeg)) + a7.2).toNatClampNeg) = (S3.2.1 15 a7.2.toNatClampNeg) then
            rec129 (1, (a7.2 + 1))
          else
            rec129 (0, (a7.2 + 1))
        else none
      else none
    else none
set_option maxRecDepth 20000 in
theorem tM_rank_129 {l : Launch} {G : rr_G} (S3 : rr_T) (rec95 : Int32 → Option (Int32 × rr_T)) (a4 : Int32) (hrec95 : ∀ a : Int32, RR l G mX11_rank 6 134 fxA rvIS (fun q => mw q.2) z0 z0 0 0 95 [(0, .ref 0), (1, .int a)] [] (mw S3) (rec95 a)) : ∀ (n : Nat) (a : Int32 × Int32), RR l G mX11_rank 6 134 fxA rvIS (fun q => mw q.2) z0 z0 0 0 129 [(0, .ref 0), (1, .int a4), (2, .int a.1), (3, .int a.2)] [] (mw S3) (rr_loop n (LM_rank_129 S3 rec95 a4) a) := by
  refine rr_lp (α := Int32 × Int32) 129 (fun a => [(0, .ref 0), (1, .int a4), (2, .int a.1), (3, .int a.2)]) (fun a => (mw S3)) (fun rec129 hrec129 a7 => ?_)
  show RR l G mX11_rank 6 134 fxA rvIS (fun q => mw q.2) z0 z0 0 0 129 [(0, .ref 0), (1, .int a4), (2, .int a7.1), (3, .int a7.2)] [] (mw S3) (LM_rank_129 S3 rec95 a4 rec129 a7)
  unfold LM_rank_129
  refine rr_iload_n dX11_rank_129 rfl 3 rfl ?_
  refine rr_aload_n dX11_rank_130 rfl 0 rfl ?_
  refine rr_get (v := .int (S3.1 19)) cl11 k11_159 (Nat.le_of_ble_eq_true rfl) rfl rfl dX11_rank_131 ?_
  refine rr_icmp_ge (tgt := 178) dX11_rank_134 (by decide) (fun _ => ?_) (fun _ => ?_)
  · refine rr_sub [0, 1, 2] rfl ?_
    exact tM_rank_178 S3 rec95 a4 hrec95 a7.1
  · refine rr_iload_n dX11_rank_137 rfl 2 rfl ?_
    refine rr_if_eq (tgt := 178) dX11_rank_138 (by decide) (fun _ => ?_) (fun _ => ?_)
    · refine rr_sub [0, 1, 2] rfl ?_
      exact tM_rank_178 S3 rec95 a4 hrec95 a7.1
    · refine rr_aload_n dX11_rank_141 rfl 0 rfl ?_
      refine rr_get (v := .ref 16) cl11 k11_60 (Nat.le_of_ble_eq_true rfl) rfl rfl dX11_rank_142 ?_
      refine rr_bipush (v := 22) dX11_rank_145 (by decide) ?_
      refine rr_aload_n dX11_rank_147 rfl 0 rfl ?_
      refine rr_get (v := .ref 18) cl11 k11_67 (Nat.le_of_ble_eq_true rfl) rfl rfl dX11_rank_148 ?_
      refine rr_iload_n dX11_rank_151 rfl 1 rfl ?_
      refine rr_if (fun z => ?_)
      refine rr_iald (len := 4000) rfl (inb_in z) dX11_rank_152 ?_
      refine rr_imul dX11_rank_153 ?_
      refine rr_iload_n dX11_rank_154 rfl 3 rfl ?_
      refine rr_iadd dX11_rank_155 ?_
      refine rr_if (fun z => ?_)
      refine rr_bald (len := 88000) rfl (inb_in z) dX11_rank_156 ?_
      refine rr_aload_n dX11_rank_157 rfl 0 rfl ?_
      refine rr_get (v := .ref 15) cl11 k11_56 (Nat.le_of_ble_eq_true rfl) rfl rfl dX11_rank_158 ?_
      refine rr_iload_n dX11_rank_161 rfl 3 rfl ?_
      refine rr_if (fun z => ?_)
      refine rr_iald (len := 40) rfl (inb_in z) dX11_rank_162 ?_
      refine rr_icmp_ne (tgt := 170) dX11_rank_163 (by decide) (fun _ => ?_) (fun _ => ?_)
      · refine rr_iconst (v := 0) dX11_rank_170 (by decide) ?_
        refine rr_istore_n (lv' := [(2, .int 0), (0, .ref 0), (1, .int a4), (3, .int a7.2)]) dX11_rank_171 rfl (by decide) rfl ?_
        refine rr_iinc (lv' := [(3, .int (a7.2 + 1)), (2, .int 0), (0, .ref 0), (1, .int a4)]) dX11_rank_172 3 rfl (by decide) rfl ?_
        refine rr_goto (tgt := 129) dX11_rank_175 (by decide) ?_
        refine rr_sub [2, 3, 1, 0] rfl ?_
        exact hrec129 (0, (a7.2 + 1))
      · refine rr_iconst (v := 1) dX11_rank_166 (by decide) ?_
        refine rr_goto (tgt := 171) dX11_rank_167 (by decide) ?_
        refine rr_istore_n (lv' := [(2, .int 1), (0, .ref 0), (1, .int a4), (3, .int a7.2)]) dX11_rank_171 rfl (by decide) rfl ?_
        refine rr_iinc (lv' := [(3, .int (a7.2 + 1)), (2, .int 1), (0, .ref 0), (1, .int a4)]) dX11_rank_172 3 rfl (by decide) rfl ?_
        refine rr_goto (tgt := 129) dX11_rank_175 (by decide) ?_
        refine rr_sub [2, 3, 1, 0] rfl ?_
        exact hrec129 (1, (a7.2 + 1))
def JM_rank_126 (S3 : rr_T) (rec95 : Int32 → Option (Int32 × rr_T)) (a4 : Int32) (a5 : Int32) : Option (Int32 × rr_T) :=
  rr_loop FU (LM_rank_129 S3 rec95 a4) (a5, 0)
set_option maxRecDepth 20000 in
theorem tM_rank_126 {l : Launch} {G : rr_G} (S3 : rr_T) (rec95 : Int32 → Option (Int32 × rr_T)) (a4 : Int32) (hrec95 : ∀ a : Int32, RR l G mX11_rank 6 134 fxA rvIS (fun q => mw q.2) z0 z0 0 0 95 [(0, .ref 0), (1, .int a)] [] (mw S3) (rec95 a)) (a5 : Int32) : RR l G mX11_rank 6 134 fxA rvIS (fun q => mw q.2) z0 z0 0 0 126 [(0, .ref 0), (1, .int a4)] [.int a5] (mw S3) (JM_rank_126 S3 rec95 a4 a5) := by
  unfold JM_rank_126
  refine rr_istore_n (lv' := [(2, .int a5), (0, .ref 0), (1, .int a4)]) dX11_rank_126 rfl (by decide) rfl ?_
  refine rr_iconst (v := 0) dX11_rank_127 (by decide) ?_
  refine rr_istore_n (lv' := [(3, .int 0), (2, .int a5), (0, .ref 0), (1, .int a4)]) dX11_rank_128 rfl (by decide) rfl ?_
  refine rr_sub [2, 3, 1, 0] rfl ?_
  exact tM_rank_129 S3 rec95 a4 hrec95 FU (a5, 0)
def LM_rank_95 (S3 : rr_T) (rec95 : Int32 → Option (Int32 × rr_T)) (a4 : Int32) : Option (Int32 × rr_T) :=
  if (S3.1 25) ≤ a4 then
  some (((-1), S3))
else
  if inb a4 4000 then
    if inb (S3.2.1 18 a4.toNatClampNeg) 4000 then
      if (S3.2.1 17 (S3.2.1 18 a4.toNatClampNeg).toNatClampNeg) = (S3.1 19) then
        JM_rank_126 S3 rec95 a4 1
      else
        JM_rank_126 S3 rec95 a4 0
    else none
  else none
set_option maxRecDepth 20000 in
theorem tM_rank_95 {l : Launch} {G : rr_G} (S3 : rr_T) : ∀ (n : Nat) (a : Int32), RR l G mX11_rank 6 134 fxA rvIS (fun q => mw q.2) z0 z0 0 0 95 [(0, .ref 0), (1, .int a)] [] (mw S3) (rr_loop n (LM_rank_95 S3) a) := by
  refine rr_lp (α := Int32) 95 (fun a => [(0, .ref 0), (1, .int a)]) (fun a => (mw S3)) (fun rec95 hrec95 a4 => ?_)
  show RR l G mX11_rank 6 134 fxA rvIS (fun q => mw q.2) z0 z0 0 0 95 [(0, .ref 0), (1, .int a4)] [] (mw S3) (LM_rank_95 S3 rec95 a4)
  unfold LM_rank_95
  refine rr_iload_n dX11_rank_95 rfl 1 rfl ?_
  refine rr_aload_n dX11_rank_96 rfl 0 rfl ?_
  refine rr_get (v := .int (S3.1 25)) cl11 k11_208 (Nat.le_of_ble_eq_true rfl) rfl rfl dX11_rank_97 ?_
  refine rr_icmp_ge (tgt := 190) dX11_rank_100 (by decide) (fun _ => ?_) (fun _ => ?_)
  · refine rr_iconst (v := (-1)) dX11_rank_190 (by decide) ?_
    exact rr_iret dX11_rank_191 rfl rfl rfl rfl rfl
  · refine rr_aload_n dX11_rank_103 rfl 0 rfl ?_
    refine rr_get (v := .ref 17) cl11 k11_64 (Nat.le_of_ble_eq_true rfl) rfl rfl dX11_rank_104 ?_
    refine rr_aload_n dX11_rank_107 rfl 0 rfl ?_
    refine rr_get (v := .ref 18) cl11 k11_67 (Nat.le_of_ble_eq_true rfl) rfl rfl dX11_rank_108 ?_
    refine rr_iload_n dX11_rank_111 rfl 1 rfl ?_
    refine rr_if (fun z => ?_)
    refine rr_iald (len := 4000) rfl (inb_in z) dX11_rank_112 ?_
    refine rr_if (fun z => ?_)
    refine rr_bald (len := 4000) rfl (inb_in z) dX11_rank_113 ?_
    refine rr_aload_n dX11_rank_114 rfl 0 rfl ?_
    refine rr_get (v := .int (S3.1 19)) cl11 k11_159 (Nat.le_of_ble_eq_true rfl) rfl rfl dX11_rank_115 ?_
    refine rr_icmp_ne (tgt := 125) dX11_rank_118 (by decide) (fun _ => ?_) (fun _ => ?_)
    · refine rr_iconst (v := 0) dX11_rank_125 (by decide) ?_
      exact tM_rank_126 S3 rec95 a4 hrec95 0
    · refine rr_iconst (v := 1) dX11_rank_121 (by decide) ?_
      refine rr_goto (tgt := 126) dX11_rank_122 (by decide) ?_
      exact tM_rank_126 S3 rec95 a4 hrec95 1
def JM_rank_69 (a2 : rr_T) : Option (Int32 × rr_T) :=
  (fM_goThrough a2 ((a2.1 19))).bind (fun S3 =>
  if (S3.1 41) = (-1) then
  rr_loop FU (LM_rank_95 S3) 0
else
  some ((((-10) - (S3.1 19)), S3)))
set_option maxRecDepth 20000 in
theorem tM_rank_69 {l : Launch} {G : rr_G} (a2 : rr_T) : RR l G mX11_rank 6 134 fxA rvIS (fun q => mw q.2) z0 z0 0 0 69 [(0, .ref 0)] [] (mw a2) (JM_rank_69 a2) := by
  unfold JM_rank_69
  refine rr_aload_n dX11_rank_69 rfl 0 rfl ?_
  refine rr_aload_n dX11_rank_70 rfl 0 rfl ?_
  refine rr_get (v := .int (a2.1 19)) cl11 k11_159 (Nat.le_of_ble_eq_true rfl) rfl rfl dX11_rank_71 ?_
  refine rr_vs (W := mw) (As := [.int (a2.1 19)]) (rest := []) (tM_goThrough a2 ((a2.1 19))) v11_182 rfl rfl ⟨Nat.le_of_ble_eq_true rfl, Nat.le_of_ble_eq_true rfl⟩ (fun _ z => z) rfl rfl (Nat.le_of_ble_eq_true rfl) rfl dX11_rank_74 (fun S3 => ?_)
  refine rr_aload_n dX11_rank_77 rfl 0 rfl ?_
  refine rr_get (v := .int (S3.1 41)) cl11 k11_165 (Nat.le_of_ble_eq_true rfl) rfl rfl dX11_rank_78 ?_
  refine rr_iconst (v := (-1)) dX11_rank_81 (by decide) ?_
  refine rr_icmp_eq (tgt := 93) dX11_rank_82 (by decide) (fun _ => ?_) (fun _ => ?_)
  · refine rr_iconst (v := 0) dX11_rank_93 (by decide) ?_
    refine rr_istore_n (lv' := [(1, .int 0), (0, .ref 0)]) dX11_rank_94 rfl (by decide) rfl ?_
    refine rr_sub [1, 0] rfl ?_
    exact tM_rank_95 S3 FU 0
  · refine rr_bipush (v := (-10)) dX11_rank_85 (by decide) ?_
    refine rr_aload_n dX11_rank_87 rfl 0 rfl ?_
    refine rr_get (v := .int (S3.1 19)) cl11 k11_159 (Nat.le_of_ble_eq_true rfl) rfl rfl dX11_rank_88 ?_
    refine rr_isub dX11_rank_91 ?_
    exact rr_iret dX11_rank_92 rfl rfl rfl rfl rfl
def LM_rank_12 (rec12 : (Int32 × rr_T) → Option (Int32 × rr_T)) (a8 : Int32 × rr_T) : Option (Int32 × rr_T) :=
  if (a8.2.1 19) ≤ a8.1 then
  JM_rank_69 a8.2
else
  (fM_goThrough a8.2 a8.1).bind (fun S9 =>
    if (S9.1 41) = (-1) then
    some ((((-10) - a8.1), S9))
  else
    if inb a8.1 40 then
      (fM_canBe S9 ((S9.2.1 15 a8.1.toNatClampNeg))).bind (fun r10 =>
        if r10 = 0 then
        some ((((-10) - a8.1), S9))
      else
        if inb a8.1 40 then
          if inb a8.1 41 then
            rr_l (pA S9 26 a8.1 ((S9.2.1 15 a8.1.toNatClampNeg))) (fun S11 =>
              rec12 ((a8.1 + 1), S11))
          else none
        else none)
    else none)
set_option maxRecDepth 20000 in
theorem tM_rank_12 {l : Launch} {G : rr_G} : ∀ (n : Nat) (a : Int32 × rr_T), RR l G mX11_rank 6 134 fxA rvIS (fun q => mw q.2) z0 z0 0 0 12 [(0, .ref 0), (1, .int a.1)] [] (mw a.2) (rr_loop n (LM_rank_12) a) := by
  refine rr_lp (α := Int32 × rr_T) 12 (fun a => [(0, .ref 0), (1, .int a.1)]) (fun a => (mw a.2)) (fun rec12 hrec12 a8 => ?_)
  show RR l G mX11_rank 6 134 fxA rvIS (fun q => mw q.2) z0 z0 0 0 12 [(0, .ref 0), (1, .int a8.1)] [] (mw a8.2) (LM_rank_12 rec12 a8)
  unfold LM_rank_12
  refine rr_iload_n dX11_rank_12 rfl 1 rfl ?_
  refine rr_aload_n dX11_rank_13 rfl 0 rfl ?_
  refine rr_get (v := .int (a8.2.1 19)) cl11 k11_159 (Nat.le_of_ble_eq_true rfl) rfl rfl dX11_rank_14 ?_
  refine rr_icmp_ge (tgt := 69) dX11_rank_17 (by decide) (fun _ => ?_) (fun _ => ?_)
  · refine rr_sub [0] rfl ?_
    exact tM_rank_69 a8.2
  · refine rr_aload_n dX11_rank_20 rfl 0 rfl ?_
    refine rr_iload_n dX11_rank_21 rfl 1 rfl ?_
    refine rr_vs (W := mw) (As := [.int a8.1]) (rest := []) (tM_goThrough a8.2 a8.1) v11_182 rfl rfl ⟨Nat.le_of_ble_eq_true rfl, Nat.le_of_ble_eq_true rfl⟩ (fun _ z => z) rfl rfl (Nat.le_of_ble_eq_true rfl) rfl dX11_rank_22 (fun S9 => ?_)
    refine rr_aload_n dX11_rank_25 rfl 0 rfl ?_
    refine rr_get (v := .int (S9.1 41)) cl11 k11_165 (Nat.le_of_ble_eq_true rfl) rfl rfl dX11_rank_26 ?_
    refine rr_iconst (v := (-1)) dX11_rank_29 (by decide) ?_
    refine rr_icmp_eq (tgt := 46) dX11_rank_30 (by decide) (fun _ => ?_) (fun _ => ?_)
    · refine rr_bipush (v := (-10)) dX11_rank_46 (by decide) ?_
      refine rr_iload_n dX11_rank_48 rfl 1 rfl ?_
      refine rr_isub dX11_rank_49 ?_
      exact rr_iret dX11_rank_50 rfl rfl rfl rfl rfl
    · refine rr_aload_n dX11_rank_33 rfl 0 rfl ?_
      refine rr_aload_n dX11_rank_34 rfl 0 rfl ?_
      refine rr_get (v := .ref 15) cl11 k11_56 (Nat.le_of_ble_eq_true rfl) rfl rfl dX11_rank_35 ?_
      refine rr_iload_n dX11_rank_38 rfl 1 rfl ?_
      refine rr_if (fun z => ?_)
      refine rr_iald (len := 40) rfl (inb_in z) dX11_rank_39 ?_
      refine rr_vi (As := [.int (S9.2.1 15 a8.1.toNatClampNeg)]) (rest := []) (tM_canBe S9 ((S9.2.1 15 a8.1.toNatClampNeg))) v11_178 rfl rfl ⟨Nat.le_of_ble_eq_true rfl, Nat.le_of_ble_eq_true rfl⟩ rfl rfl (Nat.le_of_ble_eq_true rfl) rfl dX11_rank_40 (fun r10 => ?_)
      refine rr_if_ne (tgt := 51) dX11_rank_43 (by decide) (fun _ => ?_) (fun _ => ?_)
      · refine rr_aload_n dX11_rank_51 rfl 0 rfl ?_
        refine rr_get (v := .ref 26) cl11 k11_93 (Nat.le_of_ble_eq_true rfl) rfl rfl dX11_rank_52 ?_
        refine rr_iload_n dX11_rank_55 rfl 1 rfl ?_
        refine rr_aload_n dX11_rank_56 rfl 0 rfl ?_
        refine rr_get (v := .ref 15) cl11 k11_56 (Nat.le_of_ble_eq_true rfl) rfl rfl dX11_rank_57 ?_
        refine rr_iload_n dX11_rank_60 rfl 1 rfl ?_
        refine rr_if (fun z => ?_)
        refine rr_iald (len := 40) rfl (inb_in z) dX11_rank_61 ?_
        refine rr_if (fun z => ?_)
        refine rr_iast (len := 41) rfl (inb_in z) dX11_rank_62 (ma26 S9 a8.1 ((S9.2.1 15 a8.1.toNatClampNeg))) ?_
        refine rr_letS (W := mw) (fun S11 => ?_)
        refine rr_iinc (lv' := [(1, .int (a8.1 + 1)), (0, .ref 0)]) dX11_rank_63 1 rfl (by decide) rfl ?_
        refine rr_goto (tgt := 12) dX11_rank_66 (by decide) ?_
        refine rr_sub [1, 0] rfl ?_
        exact hrec12 ((a8.1 + 1), S11)
      · refine rr_bipush (v := (-10)) dX11_rank_46 (by decide) ?_
        refine rr_iload_n dX11_rank_48 rfl 1 rfl ?_
        refine rr_isub dX11_rank_49 ?_
        exact rr_iret dX11_rank_50 rfl rfl rfl rfl rfl
def fM_rank (S : rr_T) : Option (Int32 × rr_T) :=
  (fM_freshen S).bind (fun q1 =>
  if q1.1 = 0 then
  some (((-104), q1.2))
else
  rr_loop FU (LM_rank_12) (0, q1.2))
set_option maxRecDepth 20000 in
theorem tM_rank {l : Launch} {G : rr_G} (S : rr_T) : TT l G mX11_rank 6 134 fxA rvIS (fun q => mw q.2) z0 z0 0 0 [.ref 0] (mw S) (fM_rank S) := by
  refine TT.by (by decide) (Nat.le_of_ble_eq_true rfl) (lv := [(0, .ref 0)]) rfl ?_
  show RR l G mX11_rank 6 134 fxA rvIS (fun q => mw q.2) z0 z0 0 0 0 [(0, .ref 0)] [] (mw S) (fM_rank S)
  unfold fM_rank
  refine rr_aload_n dX11_rank_0 rfl 0 rfl ?_
  refine rr_vis (W := mw) (As := []) (rest := []) (tM_freshen S ) v11_217 rfl rfl ⟨Nat.le_of_ble_eq_true rfl, Nat.le_of_ble_eq_true rfl⟩ (fun _ z => z) rfl rfl (Nat.le_of_ble_eq_true rfl) rfl dX11_rank_1 (fun q1 => ?_)
  refine rr_if_ne (tgt := 10) dX11_rank_4 (by decide) (fun _ => ?_) (fun _ => ?_)
  · refine rr_iconst (v := 0) dX11_rank_10 (by decide) ?_
    refine rr_istore_n (lv' := [(1, .int 0), (0, .ref 0)]) dX11_rank_11 rfl (by decide) rfl ?_
    refine rr_sub [1, 0] rfl ?_
    exact tM_rank_12 FU (0, q1.2)
  · refine rr_bipush (v := (-104)) dX11_rank_7 (by decide) ?_
    exact rr_iret dX11_rank_9 rfl rfl rfl rfl rfl
def JM_step_62 (S : rr_T) (x1 : Int32) (x2 : Int32) (x3 : Int32) (x4 : Int32) (x5 : Int32) (a2 : Int32) : Option (Int32 × rr_T) :=
  if a2 = 0 then
  some (((-102), S))
else
  if (S.1 13) = 16 then
    some (((-104), S))
  else
    if inb (S.1 13) 16 then
      rr_l (pA S 10 ((S.1 13)) x1) (fun S3 =>
        if inb (S3.1 13) 16 then
        rr_l (pA S3 11 ((S3.1 13)) x2) (fun S4 =>
          if inb (S4.1 13) 16 then
          rr_l (pA S4 12 ((S4.1 13)) x3) (fun S5 =>
            if inb (S5.1 13) 16 then
            rr_l (pA S5 13 ((S5.1 13)) x4) (fun S6 =>
              if inb (S6.1 13) 16 then
              rr_l (pA S6 14 ((S6.1 13)) x5) (fun S7 =>
                rr_l (pI S7 13 (((S7.1 13) + 1))) (fun S8 =>
                rr_l (pI S8 28 0) (fun S9 =>
                some ((((S9.1 13) - 1), S9)))))
            else none)
          else none)
        else none)
      else none)
    else none
set_option maxRecDepth 20000 in
theorem tM_step_62 {l : Launch} {G : rr_G} (S : rr_T) (x1 : Int32) (x2 : Int32) (x3 : Int32) (x4 : Int32) (x5 : Int32) (a2 : Int32) : RR l G mX11_step 1 22 fxA rvIS (fun q => mw q.2) z0 z0 0 0 62 [(0, .ref 0), (1, .int x1), (2, .int x2), (3, .int x3), (4, .int x4), (5, .int x5)] [.int a2] (mw S) (JM_step_62 S x1 x2 x3 x4 x5 a2) := by
  unfold JM_step_62
  refine rr_istore (lv' := [(6, .int a2), (0, .ref 0), (1, .int x1), (2, .int x2), (3, .int x3), (4, .int x4), (5, .int x5)]) dX11_step_62 (by decide) rfl ?_
  refine rr_iload dX11_step_64 0 rfl ?_
  refine rr_if_ne (tgt := 72) dX11_step_66 (by decide) (fun _ => ?_) (fun _ => ?_)
  · refine rr_aload_n dX11_step_72 rfl 1 rfl ?_
    refine rr_get (v := .int (S.1 13)) cl11 k11_156 (Nat.le_of_ble_eq_true rfl) rfl rfl dX11_step_73 ?_
    refine rr_bipush (v := 16) dX11_step_76 (by decide) ?_
    refine rr_icmp_ne (tgt := 84) dX11_step_78 (by decide) (fun _ => ?_) (fun _ => ?_)
    · refine rr_aload_n dX11_step_84 rfl 1 rfl ?_
      refine rr_get (v := .ref 10) cl11 k11_41 (Nat.le_of_ble_eq_true rfl) rfl rfl dX11_step_85 ?_
      refine rr_aload_n dX11_step_88 rfl 1 rfl ?_
      refine rr_get (v := .int (S.1 13)) cl11 k11_156 (Nat.le_of_ble_eq_true rfl) rfl rfl dX11_step_89 ?_
      refine rr_iload_n dX11_step_92 rfl 2 rfl ?_
      refine rr_if (fun z => ?_)
      refine rr_iast (len := 16) rfl (inb_in z) dX11_step_93 (ma10 S ((S.1 13)) x1) ?_
      refine rr_letS (W := mw) (fun S3 => ?_)
      refine rr_aload_n dX11_step_94 rfl 1 rfl ?_
      refine rr_get (v := .ref 11) cl11 k11_44 (Nat.le_of_ble_eq_true rfl) rfl rfl dX11_step_95 ?_
      refine rr_aload_n dX11_step_98 rfl 1 rfl ?_
      refine rr_get (v := .int (S3.1 13)) cl11 k11_156 (Nat.le_of_ble_eq_true rfl) rfl rfl dX11_step_99 ?_
      refine rr_iload_n dX11_step_102 rfl 3 rfl ?_
      refine rr_if (fun z => ?_)
      refine rr_iast (len := 16) rfl (inb_in z) dX11_step_103 (ma11 S3 ((S3.1 13)) x2) ?_
      refine rr_letS (W := mw) (fun S4 => ?_)
      refine rr_aload_n dX11_step_104 rfl 1 rfl ?_
      refine rr_get (v := .ref 12) cl11 k11_47 (Nat.le_of_ble_eq_true rfl) rfl rfl dX11_step_105 ?_
      refine rr_aload_n dX11_step_108 rfl 1 rfl ?_
      refine rr_get (v := .int (S4.1 13)) cl11 k11_156 (Nat.le_of_ble_eq_true rfl) rfl rfl dX11_step_109 ?_
      refine rr_iload_n dX11_step_112 rfl 4 rfl ?_
      refine rr_if (fun z => ?_)
      refine rr_iast (len := 16) rfl (inb_in z) dX11_step_113 (ma12 S4 ((S4.1 13)) x3) ?_
      refine rr_letS (W := mw) (fun S5 => ?_)
      refine rr_aload_n dX11_step_114 rfl 1 rfl ?_
      refine rr_get (v := .ref 13) cl11 k11_50 (Nat.le_of_ble_eq_true rfl) rfl rfl dX11_step_115 ?_
      refine rr_aload_n dX11_step_118 rfl 1 rfl ?_
      refine rr_get (v := .int (S5.1 13)) cl11 k11_156 (Nat.le_of_ble_eq_true rfl) rfl rfl dX11_step_119 ?_
      refine rr_iload dX11_step_122 5 rfl ?_
      refine rr_if (fun z => ?_)
      refine rr_iast (len := 16) rfl (inb_in z) dX11_step_124 (ma13 S5 ((S5.1 13)) x4) ?_
      refine rr_letS (W := mw) (fun S6 => ?_)
      refine rr_aload_n dX11_step_125 rfl 1 rfl ?_
      refine rr_get (v := .ref 14) cl11 k11_53 (Nat.le_of_ble_eq_true rfl) rfl rfl dX11_step_126 ?_
      refine rr_aload_n dX11_step_129 rfl 1 rfl ?_
      refine rr_get (v := .int (S6.1 13)) cl11 k11_156 (Nat.le_of_ble_eq_true rfl) rfl rfl dX11_step_130 ?_
      refine rr_iload dX11_step_133 6 rfl ?_
      refine rr_if (fun z => ?_)
      refine rr_iast (len := 16) rfl (inb_in z) dX11_step_135 (ma14 S6 ((S6.1 13)) x5) ?_
      refine rr_letS (W := mw) (fun S7 => ?_)
      refine rr_aload_n dX11_step_136 rfl 1 rfl ?_
      refine rr_dup dX11_step_137 rfl ?_
      refine rr_get (v := .int (S7.1 13)) cl11 k11_156 (Nat.le_of_ble_eq_true rfl) rfl rfl dX11_step_138 ?_
      refine rr_iconst (v := 1) dX11_step_141 (by decide) ?_
      refine rr_iadd dX11_step_142 ?_
      refine rr_put cl11 k11_156 (Nat.le_of_ble_eq_true rfl) rfl rfl rfl rfl (Nat.le_of_ble_eq_true rfl) dX11_step_143 (mp13 S7 (((S7.1 13) + 1))) ?_
      refine rr_letS (W := mw) (fun S8 => ?_)
      refine rr_aload_n dX11_step_146 rfl 1 rfl ?_
      refine rr_iconst (v := 0) dX11_step_147 (by decide) ?_
      refine rr_put cl11 k11_130 (Nat.le_of_ble_eq_true rfl) rfl rfl (by decide) rfl (Nat.le_of_ble_eq_true rfl) dX11_step_148 (mp28 S8 0) ?_
      refine rr_letS (W := mw) (fun S9 => ?_)
      refine rr_aload_n dX11_step_151 rfl 1 rfl ?_
      refine rr_get (v := .int (S9.1 13)) cl11 k11_156 (Nat.le_of_ble_eq_true rfl) rfl rfl dX11_step_152 ?_
      refine rr_iconst (v := 1) dX11_step_155 (by decide) ?_
      refine rr_isub dX11_step_156 ?_
      exact rr_iret dX11_step_157 rfl rfl rfl rfl rfl
    · refine rr_bipush (v := (-104)) dX11_step_81 (by decide) ?_
      exact rr_iret dX11_step_83 rfl rfl rfl rfl rfl
  · refine rr_bipush (v := (-102)) dX11_step_69 (by decide) ?_
    exact rr_iret dX11_step_71 rfl rfl rfl rfl rfl
def JM_step_42 (S : rr_T) (x1 : Int32) (x2 : Int32) (x3 : Int32) (x4 : Int32) (x5 : Int32) (a12 : Unit) : Option (Int32 × rr_T) :=
  if x1 = 0 then
  JM_step_62 S x1 x2 x3 x4 x5 1
else
  (fM_in x5 0 16).bind (fun r13 =>
    if r13 = 0 then
    JM_step_62 S x1 x2 x3 x4 x5 0
  else
    JM_step_62 S x1 x2 x3 x4 x5 1)
set_option maxRecDepth 20000 in
theorem tM_step_42 {l : Launch} {G : rr_G} (S : rr_T) (x1 : Int32) (x2 : Int32) (x3 : Int32) (x4 : Int32) (x5 : Int32) (a12 : Unit) : RR l G mX11_step 1 22 fxA rvIS (fun q => mw q.2) z0 z0 0 0 42 [(0, .ref 0), (1, .int x1), (2, .int x2), (3, .int x3), (4, .int x4), (5, .int x5)] [] (mw S) (JM_step_42 S x1 x2 x3 x4 x5 a12) := by
  unfold JM_step_42
  refine rr_iload_n dX11_step_42 rfl 1 rfl ?_
  refine rr_if_eq (tgt := 57) dX11_step_43 (by decide) (fun _ => ?_) (fun _ => ?_)
  · refine rr_iconst (v := 1) dX11_step_57 (by decide) ?_
    refine rr_goto (tgt := 62) dX11_step_58 (by decide) ?_
    exact tM_step_62 S x1 x2 x3 x4 x5 1
  · refine rr_iload dX11_step_46 5 rfl ?_
    refine rr_iconst (v := 0) dX11_step_48 (by decide) ?_
    refine rr_bipush (v := 16) dX11_step_49 (by decide) ?_
    refine rr_si (As := [.int x5, .int 0, .int 16]) (rest := []) (tM_in x5 0 16 (mw S)) s11_136 rfl ⟨Nat.le_of_ble_eq_true rfl, Nat.le_of_ble_eq_true rfl⟩ rfl rfl (Nat.le_of_ble_eq_true rfl) rfl dX11_step_51 (fun r13 => ?_)
    refine rr_if_eq (tgt := 61) dX11_step_54 (by decide) (fun _ => ?_) (fun _ => ?_)
    · refine rr_iconst (v := 0) dX11_step_61 (by decide) ?_
      exact tM_step_62 S x1 x2 x3 x4 x5 0
    · refine rr_iconst (v := 1) dX11_step_57 (by decide) ?_
      refine rr_goto (tgt := 62) dX11_step_58 (by decide) ?_
      exact tM_step_62 S x1 x2 x3 x4 x5 1
def fM_step (S : rr_T) (x1 : Int32) (x2 : Int32) (x3 : Int32) (x4 : Int32) (x5 : Int32) : Option (Int32 × rr_T) :=
  (fM_in x1 0 2).bind (fun r1 =>
  if r1 = 0 then
  JM_step_62 S x1 x2 x3 x4 x5 0
else
  (fM_in x2 0 3).bind (fun r10 =>
    if r10 = 0 then
    JM_step_62 S x1 x2 x3 x4 x5 0
  else
    (fM_in x3 0 3).bind (fun r11 =>
      if r11 = 0 then
      JM_step_62 S x1 x2 x3 x4 x5 0
    else
      if x1 = 2 then
        JM_step_42 S x1 x2 x3 x4 x5 ()
      else
        (fM_in x4 0 3).bind (fun r14 =>
          if r14 = 0 then
          JM_step_62 S x1 x2 x3 x4 x5 0
        else
          JM_step_42 S x1 x2 x3 x4 x5 ()))))
set_option maxRecDepth 20000 in
theorem tM_step {l : Launch} {G : rr_G} (S : rr_T) (x1 : Int32) (x2 : Int32) (x3 : Int32) (x4 : Int32) (x5 : Int32) : TT l G mX11_step 1 22 fxA rvIS (fun q => mw q.2) z0 z0 0 0 [.ref 0, .int x1, .int x2, .int x3, .int x4, .int x5] (mw S) (fM_step S x1 x2 x3 x4 x5) := by
  refine TT.by (by decide) (Nat.le_of_ble_eq_true rfl) (lv := [(0, .ref 0), (1, .int x1), (2, .int x2), (3, .int x3), (4, .int x4), (5, .int x5)]) rfl ?_
  show RR l G mX11_step 1 22 fxA rvIS (fun q => mw q.2) z0 z0 0 0 0 [(0, .ref 0), (1, .int x1), (2, .int x2), (3, .int x3), (4, .int x4), (5, .int x5)] [] (mw S) (fM_step S x1 x2 x3 x4 x5)
  unfold fM_step
  refine rr_iload_n dX11_step_0 rfl 1 rfl ?_
  refine rr_iconst (v := 0) dX11_step_1 (by decide) ?_
  refine rr_iconst (v := 2) dX11_step_2 (by decide) ?_
  refine rr_si (As := [.int x1, .int 0, .int 2]) (rest := []) (tM_in x1 0 2 (mw S)) s11_136 rfl ⟨Nat.le_of_ble_eq_true rfl, Nat.le_of_ble_eq_true rfl⟩ rfl rfl (Nat.le_of_ble_eq_true rfl) rfl dX11_step_3 (fun r1 => ?_)
  refine rr_if_eq (tgt := 61) dX11_step_6 (by decide) (fun _ => ?_) (fun _ => ?_)
  · refine rr_iconst (v := 0) dX11_step_61 (by decide) ?_
    exact tM_step_62 S x1 x2 x3 x4 x5 0
  · refine rr_iload_n dX11_step_9 rfl 2 rfl ?_
    refine rr_iconst (v := 0) dX11_step_10 (by decide) ?_
    refine rr_iconst (v := 3) dX11_step_11 (by decide) ?_
    refine rr_si (As := [.int x2, .int 0, .int 3]) (rest := []) (tM_in x2 0 3 (mw S)) s11_136 rfl ⟨Nat.le_of_ble_eq_true rfl, Nat.le_of_ble_eq_true rfl⟩ rfl rfl (Nat.le_of_ble_eq_true rfl) rfl dX11_step_12 (fun r10 => ?_)
    refine rr_if_eq (tgt := 61) dX11_step_15 (by decide) (fun _ => ?_) (fun _ => ?_)
    · refine rr_iconst (v := 0) dX11_step_61 (by decide) ?_
      exact tM_step_62 S x1 x2 x3 x4 x5 0
    · refine rr_iload_n dX11_step_18 rfl 3 rfl ?_
      refine rr_iconst (v := 0) dX11_step_19 (by decide) ?_
      refine rr_iconst (v := 3) dX11_step_20 (by decide) ?_
      refine rr_si (As := [.int x3, .int 0, .int 3]) (rest := []) (tM_in x3 0 3 (mw S)) s11_136 rfl ⟨Nat.le_of_ble_eq_true rfl, Nat.le_of_ble_eq_true rfl⟩ rfl rfl (Nat.le_of_ble_eq_true rfl) rfl dX11_step_21 (fun r11 => ?_)
      refine rr_if_eq (tgt := 61) dX11_step_24 (by decide) (fun _ => ?_) (fun _ => ?_)
      · refine rr_iconst (v := 0) dX11_step_61 (by decide) ?_
        exact tM_step_62 S x1 x2 x3 x4 x5 0
      · refine rr_iload_n dX11_step_27 rfl 1 rfl ?_
        refine rr_iconst (v := 2) dX11_step_28 (by decide) ?_
        refine rr_icmp_eq (tgt := 42) dX11_step_29 (by decide) (fun _ => ?_) (fun _ => ?_)
        · exact tM_step_42 S x1 x2 x3 x4 x5 ()
        · refine rr_iload dX11_step_32 4 rfl ?_
          refine rr_iconst (v := 0) dX11_step_34 (by decide) ?_
          refine rr_iconst (v := 3) dX11_step_35 (by decide) ?_
          refine rr_si (As := [.int x4, .int 0, .int 3]) (rest := []) (tM_in x4 0 3 (mw S)) s11_136 rfl ⟨Nat.le_of_ble_eq_true rfl, Nat.le_of_ble_eq_true rfl⟩ rfl rfl (Nat.le_of_ble_eq_true rfl) rfl dX11_step_36 (fun r14 => ?_)
          refine rr_if_eq (tgt := 61) dX11_step_39 (by decide) (fun _ => ?_) (fun _ => ?_)
          · refine rr_iconst (v := 0) dX11_step_61 (by decide) ?_
            exact tM_step_62 S x1 x2 x3 x4 x5 0
          · exact tM_step_42 S x1 x2 x3 x4 x5 ()
def fM_erase (S : rr_T) : Option (Int32 × rr_T) :=
  rr_l ((S.1 13)) (fun v1 =>
  rr_l (pI S 13 0) (fun S2 =>
  rr_l (pI S2 28 0) (fun S3 =>
  some ((v1, S3)))))
set_option maxRecDepth 20000 in
theorem tM_erase {l : Launch} {G : rr_G} (S : rr_T) : TT l G mX11_erase 0 0 fxA rvIS (fun q => mw q.2) z0 z0 0 0 [.ref 0] (mw S) (fM_erase S) := by
  refine TT.by (by decide) (Nat.le_of_ble_eq_true rfl) (lv := [(0, .ref 0)]) rfl ?_
  show RR l G mX11_erase 0 0 fxA rvIS (fun q => mw q.2) z0 z0 0 0 0 [(0, .ref 0)] [] (mw S) (fM_erase S)
  unfold fM_erase
  refine rr_aload_n dX11_erase_0 rfl 0 rfl ?_
  refine rr_get (v := .int (S.1 13)) cl11 k11_156 (Nat.le_of_ble_eq_true rfl) rfl rfl dX11_erase_1 ?_
  refine rr_letI (fun v1 => ?_)
  refine rr_istore_n (lv' := [(1, .int v1), (0, .ref 0)]) dX11_erase_4 rfl (by decide) rfl ?_
  refine rr_aload_n dX11_erase_5 rfl 1 rfl ?_
  refine rr_iconst (v := 0) dX11_erase_6 (by decide) ?_
  refine rr_put cl11 k11_156 (Nat.le_of_ble_eq_true rfl) rfl rfl rfl rfl (Nat.le_of_ble_eq_true rfl) dX11_erase_7 (mp13 S 0) ?_
  refine rr_letS (W := mw) (fun S2 => ?_)
  refine rr_aload_n dX11_erase_10 rfl 1 rfl ?_
  refine rr_iconst (v := 0) dX11_erase_11 (by decide) ?_
  refine rr_put cl11 k11_130 (Nat.le_of_ble_eq_true rfl) rfl rfl (by decide) rfl (Nat.le_of_ble_eq_true rfl) dX11_erase_12 (mp28 S2 0) ?_
  refine rr_letS (W := mw) (fun S3 => ?_)
  refine rr_iload_n dX11_erase_15 rfl 0 rfl ?_
  exact rr_iret dX11_erase_16 rfl rfl rfl rfl rfl
def JM_lookRef_68 (a1 : Int32 × rr_T) : Option rr_T :=
  if inb (a1.2.1 50) 20 then
  rr_l (pA a1.2 36 ((a1.2.1 50)) a1.1) (fun S2 =>
    rr_l (pI S2 50 (((S2.1 50) + 1))) (fun S3 =>
    some S3))
else none
set_option maxRecDepth 20000 in
theorem tM_lookRef_68 {l : Launch} {G : rr_G} (a1 : Int32 × rr_T) : RR l G mX11_lookRef 0 0 fxA rvS mw z0 z0 0 0 68 [(0, .ref 0), (2, .int a1.1)] [] (mw a1.2) (JM_lookRef_68 a1) := by
  unfold JM_lookRef_68
  refine rr_aload_n dX11_lookRef_68 rfl 0 rfl ?_
  refine rr_get (v := .ref 36) cl11 k11_123 (Nat.le_of_ble_eq_true rfl) rfl rfl dX11_lookRef_69 ?_
  refine rr_aload_n dX11_lookRef_72 rfl 0 rfl ?_
  refine rr_get (v := .int (a1.2.1 50)) cl11 k11_227 (Nat.le_of_ble_eq_true rfl) rfl rfl dX11_lookRef_73 ?_
  refine rr_iload_n dX11_lookRef_76 rfl 1 rfl ?_
  refine rr_if (fun z => ?_)
  refine rr_iast (len := 20) rfl (inb_in z) dX11_lookRef_77 (ma36 a1.2 ((a1.2.1 50)) a1.1) ?_
  refine rr_letS (W := mw) (fun S2 => ?_)
  refine rr_aload_n dX11_lookRef_78 rfl 0 rfl ?_
  refine rr_dup dX11_lookRef_79 rfl ?_
  refine rr_get (v := .int (S2.1 50)) cl11 k11_227 (Nat.le_of_ble_eq_true rfl) rfl rfl dX11_lookRef_80 ?_
  refine rr_iconst (v := 1) dX11_lookRef_83 (by decide) ?_
  refine rr_iadd dX11_lookRef_84 ?_
  refine rr_put cl11 k11_227 (Nat.le_of_ble_eq_true rfl) rfl rfl rfl rfl (Nat.le_of_ble_eq_true rfl) dX11_lookRef_85 (mp50 S2 (((S2.1 50) + 1))) ?_
  refine rr_letS (W := mw) (fun S3 => ?_)
  exact rr_vret dX11_lookRef_88 rfl rfl rfl rfl rfl
def JM_lookRef_37 (S : rr_T) (x1 : Int32) (a4 : Int32) : Option rr_T :=
  if inb x1 5 then
  if (S.2.1 35 x1.toNatClampNeg) = (-1) then
    if inb x1 5 then
      rr_l (pA S 35 x1 ((S.1 49))) (fun S5 =>
        rr_l (pI S5 49 (((S5.1 49) + 1))) (fun S6 =>
        JM_lookRef_68 (a4, S6)))
    else none
  else
    JM_lookRef_68 (a4, S)
else none
set_option maxRecDepth 20000 in
theorem tM_lookRef_37 {l : Launch} {G : rr_G} (S : rr_T) (x1 : Int32) (a4 : Int32) : RR l G mX11_lookRef 0 0 fxA rvS mw z0 z0 0 0 37 [(0, .ref 0), (1, .int x1)] [.int a4] (mw S) (JM_lookRef_37 S x1 a4) := by
  unfold JM_lookRef_37
  refine rr_istore_n (lv' := [(2, .int a4), (0, .ref 0), (1, .int x1)]) dX11_lookRef_37 rfl (by decide) rfl ?_
  refine rr_aload_n dX11_lookRef_38 rfl 1 rfl ?_
  refine rr_get (v := .ref 35) cl11 k11_120 (Nat.le_of_ble_eq_true rfl) rfl rfl dX11_lookRef_39 ?_
  refine rr_iload_n dX11_lookRef_42 rfl 2 rfl ?_
  refine rr_if (fun z => ?_)
  refine rr_iald (len := 5) rfl (inb_in z) dX11_lookRef_43 ?_
  refine rr_iconst (v := (-1)) dX11_lookRef_44 (by decide) ?_
  refine rr_icmp_ne (tgt := 68) dX11_lookRef_45 (by decide) (fun _ => ?_) (fun _ => ?_)
  · refine rr_sub [1, 0] rfl ?_
    exact tM_lookRef_68 (a4, S)
  · refine rr_aload_n dX11_lookRef_48 rfl 1 rfl ?_
    refine rr_get (v := .ref 35) cl11 k11_120 (Nat.le_of_ble_eq_true rfl) rfl rfl dX11_lookRef_49 ?_
    refine rr_iload_n dX11_lookRef_52 rfl 2 rfl ?_
    refine rr_aload_n dX11_lookRef_53 rfl 1 rfl ?_
    refine rr_get (v := .int (S.1 49)) cl11 k11_224 (Nat.le_of_ble_eq_true rfl) rfl rfl dX11_lookRef_54 ?_
    refine rr_if (fun z => ?_)
    refine rr_iast (len := 5) rfl (inb_in z) dX11_lookRef_57 (ma35 S x1 ((S.1 49))) ?_
    refine rr_letS (W := mw) (fun S5 => ?_)
    refine rr_aload_n dX11_lookRef_58 rfl 1 rfl ?_
    refine rr_dup dX11_lookRef_59 rfl ?_
    refine rr_get (v := .int (S5.1 49)) cl11 k11_224 (Nat.le_of_ble_eq_true rfl) rfl rfl dX11_lookRef_60 ?_
    refine rr_iconst (v := 1) dX11_lookRef_63 (by decide) ?_
    refine rr_iadd dX11_lookRef_64 ?_
    refine rr_put cl11 k11_224 (Nat.le_of_ble_eq_true rfl) rfl rfl rfl rfl (Nat.le_of_ble_eq_true rfl) dX11_lookRef_65 (mp49 S5 (((S5.1 49) + 1))) ?_
    refine rr_letS (W := mw) (fun S6 => ?_)
    refine rr_sub [1, 0] rfl ?_
    exact tM_lookRef_68 (a4, S6)
def fM_lookRef (S : rr_T) (x1 : Int32) : Option rr_T :=
  if x1 = (-1) then
  JM_lookRef_68 (0, S)
else
  if inb x1 5 then
    if (S.2.1 35 x1.toNatClampNeg) = (-1) then
      if inb x1 5 then
        JM_lookRef_37 S x1 ((10 + (S.2.1 27 x1.toNatClampNeg)))
      else none
    else
      if inb x1 5 then
        JM_lookRef_37 S x1 ((1 + (S.2.1 35 x1.toNatClampNeg)))
      else none
  else none
set_option maxRecDepth 20000 in
theorem tM_lookRef {l : Launch} {G : rr_G} (S : rr_T) (x1 : Int32) : TT l G mX11_lookRef 0 0 fxA rvS mw z0 z0 0 0 [.ref 0, .int x1] (mw S) (fM_lookRef S x1) := by
  refine TT.by (by decide) (Nat.le_of_ble_eq_true rfl) (lv := [(0, .ref 0), (1, .int x1)]) rfl ?_
  show RR l G mX11_lookRef 0 0 fxA rvS mw z0 z0 0 0 0 [(0, .ref 0), (1, .int x1)] [] (mw S) (fM_lookRef S x1)
  unfold fM_lookRef
  refine rr_iconst (v := 0) dX11_lookRef_0 (by decide) ?_
  refine rr_istore_n (lv' := [(2, .int 0), (0, .ref 0), (1, .int x1)]) dX11_lookRef_1 rfl (by decide) rfl ?_
  refine rr_iload_n dX11_lookRef_2 rfl 2 rfl ?_
  refine rr_iconst (v := (-1)) dX11_lookRef_3 (by decide) ?_
  refine rr_icmp_eq (tgt := 68) dX11_lookRef_4 (by decide) (fun _ => ?_) (fun _ => ?_)
  · refine rr_sub [1, 0] rfl ?_
    exact tM_lookRef_68 (0, S)
  · refine rr_aload_n dX11_lookRef_7 rfl 1 rfl ?_
    refine rr_get (v := .ref 35) cl11 k11_120 (Nat.le_of_ble_eq_true rfl) rfl rfl dX11_lookRef_8 ?_
    refine rr_iload_n dX11_lookRef_11 rfl 2 rfl ?_
    refine rr_if (fun z => ?_)
    refine rr_iald (len := 5) rfl (inb_in z) dX11_lookRef_12 ?_
    refine rr_iconst (v := (-1)) dX11_lookRef_13 (by decide) ?_
    refine rr_icmp_ne (tgt := 29) dX11_lookRef_14 (by decide) (fun _ => ?_) (fun _ => ?_)
    · refine rr_iconst (v := 1) dX11_lookRef_29 (by decide) ?_
      refine rr_aload_n dX11_lookRef_30 rfl 1 rfl ?_
      refine rr_get (v := .ref 35) cl11 k11_120 (Nat.le_of_ble_eq_true rfl) rfl rfl dX11_lookRef_31 ?_
      refine rr_iload_n dX11_lookRef_34 rfl 2 rfl ?_
      refine rr_if (fun z => ?_)
      refine rr_iald (len := 5) rfl (inb_in z) dX11_lookRef_35 ?_
      refine rr_iadd dX11_lookRef_36 ?_
      refine rr_sub [1, 2] rfl ?_
      exact tM_lookRef_37 S x1 ((1 + (S.2.1 35 x1.toNatClampNeg)))
    · refine rr_bipush (v := 10) dX11_lookRef_17 (by decide) ?_
      refine rr_aload_n dX11_lookRef_19 rfl 1 rfl ?_
      refine rr_get (v := .ref 27) cl11 k11_96 (Nat.le_of_ble_eq_true rfl) rfl rfl dX11_lookRef_20 ?_
      refine rr_iload_n dX11_lookRef_23 rfl 2 rfl ?_
      refine rr_if (fun z => ?_)
      refine rr_iald (len := 5) rfl (inb_in z) dX11_lookRef_24 ?_
      refine rr_iadd dX11_lookRef_25 ?_
      refine rr_goto (tgt := 37) dX11_lookRef_26 (by decide) ?_
      refine rr_sub [1, 2] rfl ?_
      exact tM_lookRef_37 S x1 ((10 + (S.2.1 27 x1.toNatClampNeg)))
def fM_ask (S : rr_T) (x1 : Int32) : Option rr_T :=
  if inb x1 4 then
  if (S.2.1 32 x1.toNatClampNeg) = 0 then
    some S
  else
    if inb x1 2 then
      if (S.2.1 33 x1.toNatClampNeg) = 0 then
        if inb x1 2 then
          rr_l (pA S 33 x1 (vp_nar .boolean 1)) (fun S1 =>
            if inb x1 2 then
            (fM_lookRef S1 ((S1.2.1 28 x1.toNatClampNeg))).bind (fun S2 =>
              some S2)
          else none)
        else none
      else
        some S
    else none
else none
set_option maxRecDepth 20000 in
theorem tM_ask {l : Launch} {G : rr_G} (S : rr_T) (x1 : Int32) : TT l G mX11_ask 1 22 fxA rvS mw z0 z0 0 0 [.ref 0, .int x1] (mw S) (fM_ask S x1) := by
  refine TT.by (by decide) (Nat.le_of_ble_eq_true rfl) (lv := [(0, .ref 0), (1, .int x1)]) rfl ?_
  show RR l G mX11_ask 1 22 fxA rvS mw z0 z0 0 0 0 [(0, .ref 0), (1, .int x1)] [] (mw S) (fM_ask S x1)
  unfold fM_ask
  refine rr_aload_n dX11_ask_0 rfl 0 rfl ?_
  refine rr_get (v := .ref 32) cl11 k11_111 (Nat.le_of_ble_eq_true rfl) rfl rfl dX11_ask_1 ?_
  refine rr_iload_n dX11_ask_4 rfl 1 rfl ?_
  refine rr_if (fun z => ?_)
  refine rr_zald (len := 4) rfl (inb_in z) dX11_ask_5 ?_
  refine rr_if_eq (tgt := 35) dX11_ask_6 (by decide) (fun _ => ?_) (fun _ => ?_)
  · exact rr_vret dX11_ask_35 rfl rfl rfl rfl rfl
  · refine rr_aload_n dX11_ask_9 rfl 0 rfl ?_
    refine rr_get (v := .ref 33) cl11 k11_114 (Nat.le_of_ble_eq_true rfl) rfl rfl dX11_ask_10 ?_
    refine rr_iload_n dX11_ask_13 rfl 1 rfl ?_
    refine rr_if (fun z => ?_)
    refine rr_zald (len := 2) rfl (inb_in z) dX11_ask_14 ?_
    refine rr_if_ne (tgt := 35) dX11_ask_15 (by decide) (fun _ => ?_) (fun _ => ?_)
    · exact rr_vret dX11_ask_35 rfl rfl rfl rfl rfl
    · refine rr_aload_n dX11_ask_18 rfl 0 rfl ?_
      refine rr_get (v := .ref 33) cl11 k11_114 (Nat.le_of_ble_eq_true rfl) rfl rfl dX11_ask_19 ?_
      refine rr_iload_n dX11_ask_22 rfl 1 rfl ?_
      refine rr_iconst (v := 1) dX11_ask_23 (by decide) ?_
      refine rr_if (fun z => ?_)
      refine rr_zast (len := 2) rfl (inb_in z) dX11_ask_24 (ma33 S x1 1) ?_
      refine rr_letS (W := mw) (fun S1 => ?_)
      refine rr_aload_n dX11_ask_25 rfl 0 rfl ?_
      refine rr_aload_n dX11_ask_26 rfl 0 rfl ?_
      refine rr_get (v := .ref 28) cl11 k11_99 (Nat.le_of_ble_eq_true rfl) rfl rfl dX11_ask_27 ?_
      refine rr_iload_n dX11_ask_30 rfl 1 rfl ?_
      refine rr_if (fun z => ?_)
      refine rr_iald (len := 2) rfl (inb_in z) dX11_ask_31 ?_
      refine rr_vs (W := mw) (As := [.int (S1.2.1 28 x1.toNatClampNeg)]) (rest := []) (tM_lookRef S1 ((S1.2.1 28 x1.toNatClampNeg))) v11_230 rfl rfl ⟨Nat.le_of_ble_eq_true rfl, Nat.le_of_ble_eq_true rfl⟩ (fun _ z => z) rfl rfl (Nat.le_of_ble_eq_true rfl) rfl dX11_ask_32 (fun S2 => ?_)
      exact rr_vret dX11_ask_35 rfl rfl rfl rfl rfl
def fM_askField (S : rr_T) (x1 : Int32) (x2 : Int32) (x3 : Int32) : Option rr_T :=
  if inb ((4 * x1) + x2) 20 then
  if (S.2.1 34 ((4 * x1) + x2).toNatClampNeg) = 0 then
    if inb ((4 * x1) + x2) 20 then
      rr_l (pA S 34 (((4 * x1) + x2)) (vp_nar .boolean 1)) (fun S1 =>
        if x3 = 0 then
        if inb ((4 * x1) + x2) 20 then
          (fM_lookRef S1 ((S1.2.1 29 ((4 * x1) + x2).toNatClampNeg))).bind (fun S4 =>
            some S4)
        else none
      else
        if inb ((4 * x1) + x2) 20 then
          if inb (S1.1 50) 20 then
            rr_l (pA S1 36 ((S1.1 50)) ((S1.2.1 29 ((4 * x1) + x2).toNatClampNeg))) (fun S2 =>
              rr_l (pI S2 50 (((S2.1 50) + 1))) (fun S3 =>
              some S3))
          else none
        else none)
    else none
  else
    some S
else none
set_option maxRecDepth 20000 in
theorem tM_askField {l : Launch} {G : rr_G} (S : rr_T) (x1 : Int32) (x2 : Int32) (x3 : Int32) : TT l G mX11_askField 1 22 fxA rvS mw z0 z0 0 0 [.ref 0, .int x1, .int x2, .int x3] (mw S) (fM_askField S x1 x2 x3) := by
  refine TT.by (by decide) (Nat.le_of_ble_eq_true rfl) (lv := [(0, .ref 0), (1, .int x1), (2, .int x2), (3, .int x3)]) rfl ?_
  show RR l G mX11_askField 1 22 fxA rvS mw z0 z0 0 0 0 [(0, .ref 0), (1, .int x1), (2, .int x2), (3, .int x3)] [] (mw S) (fM_askField S x1 x2 x3)
  unfold fM_askField
  refine rr_aload_n dX11_askField_0 rfl 0 rfl ?_
  refine rr_get (v := .ref 34) cl11 k11_117 (Nat.le_of_ble_eq_true rfl) rfl rfl dX11_askField_1 ?_
  refine rr_iconst (v := 4) dX11_askField_4 (by decide) ?_
  refine rr_iload_n dX11_askField_5 rfl 1 rfl ?_
  refine rr_imul dX11_askField_6 ?_
  refine rr_iload_n dX11_askField_7 rfl 2 rfl ?_
  refine rr_iadd dX11_askField_8 ?_
  refine rr_if (fun z => ?_)
  refine rr_zald (len := 20) rfl (inb_in z) dX11_askField_9 ?_
  refine rr_if_ne (tgt := 74) dX11_askField_10 (by decide) (fun _ => ?_) (fun _ => ?_)
  · exact rr_vret dX11_askField_74 rfl rfl rfl rfl rfl
  · refine rr_aload_n dX11_askField_13 rfl 0 rfl ?_
    refine rr_get (v := .ref 34) cl11 k11_117 (Nat.le_of_ble_eq_true rfl) rfl rfl dX11_askField_14 ?_
    refine rr_iconst (v := 4) dX11_askField_17 (by decide) ?_
    refine rr_iload_n dX11_askField_18 rfl 1 rfl ?_
    refine rr_imul dX11_askField_19 ?_
    refine rr_iload_n dX11_askField_20 rfl 2 rfl ?_
    refine rr_iadd dX11_askField_21 ?_
    refine rr_iconst (v := 1) dX11_askField_22 (by decide) ?_
    refine rr_if (fun z => ?_)
    refine rr_zast (len := 20) rfl (inb_in z) dX11_askField_23 (ma34 S (((4 * x1) + x2)) 1) ?_
    refine rr_letS (W := mw) (fun S1 => ?_)
    refine rr_iload_n dX11_askField_24 rfl 3 rfl ?_
    refine rr_if_ne (tgt := 45) dX11_askField_25 (by decide) (fun _ => ?_) (fun _ => ?_)
    · refine rr_aload_n dX11_askField_45 rfl 0 rfl ?_
      refine rr_get (v := .ref 36) cl11 k11_123 (Nat.le_of_ble_eq_true rfl) rfl rfl dX11_askField_46 ?_
      refine rr_aload_n dX11_askField_49 rfl 0 rfl ?_
      refine rr_get (v := .int (S1.1 50)) cl11 k11_227 (Nat.le_of_ble_eq_true rfl) rfl rfl dX11_askField_50 ?_
      refine rr_aload_n dX11_askField_53 rfl 0 rfl ?_
      refine rr_get (v := .ref 29) cl11 k11_102 (Nat.le_of_ble_eq_true rfl) rfl rfl dX11_askField_54 ?_
      refine rr_iconst (v := 4) dX11_askField_57 (by decide) ?_
      refine rr_iload_n dX11_askField_58 rfl 1 rfl ?_
      refine rr_imul dX11_askField_59 ?_
      refine rr_iload_n dX11_askField_60 rfl 2 rfl ?_
      refine rr_iadd dX11_askField_61 ?_
      refine rr_if (fun z => ?_)
      refine rr_iald (len := 20) rfl (inb_in z) dX11_askField_62 ?_
      refine rr_if (fun z => ?_)
      refine rr_iast (len := 20) rfl (inb_in z) dX11_askField_63 (ma36 S1 ((S1.1 50)) ((S1.2.1 29 ((4 * x1) + x2).toNatClampNeg))) ?_
      refine rr_letS (W := mw) (fun S2 => ?_)
      refine rr_aload_n dX11_askField_64 rfl 0 rfl ?_
      refine rr_dup dX11_askField_65 rfl ?_
      refine rr_get (v := .int (S2.1 50)) cl11 k11_227 (Nat.le_of_ble_eq_true rfl) rfl rfl dX11_askField_66 ?_
      refine rr_iconst (v := 1) dX11_askField_69 (by decide) ?_
      refine rr_iadd dX11_askField_70 ?_
      refine rr_put cl11 k11_227 (Nat.le_of_ble_eq_true rfl) rfl rfl rfl rfl (Nat.le_of_ble_eq_true rfl) dX11_askField_71 (mp50 S2 (((S2.1 50) + 1))) ?_
      refine rr_letS (W := mw) (fun S3 => ?_)
      exact rr_vret dX11_askField_74 rfl rfl rfl rfl rfl
    · refine rr_aload_n dX11_askField_28 rfl 0 rfl ?_
      refine rr_aload_n dX11_askField_29 rfl 0 rfl ?_
      refine rr_get (v := .ref 29) cl11 k11_102 (Nat.le_of_ble_eq_true rfl) rfl rfl dX11_askField_30 ?_
      refine rr_iconst (v := 4) dX11_askField_33 (by decide) ?_
      refine rr_iload_n dX11_askField_34 rfl 1 rfl ?_
      refine rr_imul dX11_askField_35 ?_
      refine rr_iload_n dX11_askField_36 rfl 2 rfl ?_
      refine rr_iadd dX11_askField_37 ?_
      refine rr_if (fun z => ?_)
      refine rr_iald (len := 20) rfl (inb_in z) dX11_askField_38 ?_
      refine rr_vs (W := mw) (As := [.int (S1.2.1 29 ((4 * x1) + x2).toNatClampNeg)]) (rest := []) (tM_lookRef S1 ((S1.2.1 29 ((4 * x1) + x2).toNatClampNeg))) v11_230 rfl rfl ⟨Nat.le_of_ble_eq_true rfl, Nat.le_of_ble_eq_true rfl⟩ (fun _ z => z) rfl rfl (Nat.le_of_ble_eq_true rfl) rfl dX11_askField_39 (fun S4 => ?_)
      refine rr_goto (tgt := 74) dX11_askField_42 (by decide) ?_
      exact rr_vret dX11_askField_74 rfl rfl rfl rfl rfl
def JM_doStep_208 (S8 : rr_T) (a9 : Int32) : Option (Int32 × rr_T) :=
  rr_l (pI S8 53 a9) (fun S10 =>
  some ((0, S10)))
set_option maxRecDepth 20000 in
theorem tM_doStep_208 {l : Launch} {G : rr_G} (S8 : rr_T) (a9 : Int32) : RR l G mX11_doStep 2 45 fxA rvIS (fun q => mw q.2) z0 z0 0 0 208 [] [.int a9, .ref 0] (mw S8) (JM_doStep_208 S8 a9) := by
  unfold JM_doStep_208
  refine rr_put cl11 k11_236 (Nat.le_of_ble_eq_true rfl) rfl rfl rfl rfl (Nat.le_of_ble_eq_true rfl) dX11_doStep_208 (mp53 S8 a9) ?_
  refine rr_letS (W := mw) (fun S10 => ?_)
  refine rr_iconst (v := 0) dX11_doStep_211 (by decide) ?_
  exact rr_iret dX11_doStep_212 rfl rfl rfl rfl rfl
def JM_doStep_60 (S13 : rr_T) (a14 : Int32) : Option (Int32 × rr_T) :=
  rr_l (pI S13 53 a14) (fun S15 =>
  some ((0, S15)))
set_option maxRecDepth 20000 in
theorem tM_doStep_60 {l : Launch} {G : rr_G} (S13 : rr_T) (a14 : Int32) : RR l G mX11_doStep 2 45 fxA rvIS (fun q => mw q.2) z0 z0 0 0 60 [] [.int a14, .ref 0] (mw S13) (JM_doStep_60 S13 a14) := by
  unfold JM_doStep_60
  refine rr_put cl11 k11_236 (Nat.le_of_ble_eq_true rfl) rfl rfl rfl rfl (Nat.le_of_ble_eq_true rfl) dX11_doStep_60 (mp53 S13 a14) ?_
  refine rr_letS (W := mw) (fun S15 => ?_)
  refine rr_iconst (v := 0) dX11_doStep_63 (by decide) ?_
  exact rr_iret dX11_doStep_64 rfl rfl rfl rfl rfl
def fM_doStep (S : rr_T) (x1 : Int32) : Option (Int32 × rr_T) :=
  if inb x1 16 then
  rr_l ((S.2.1 11 x1.toNatClampNeg)) (fun v1 =>
    if inb x1 16 then
    rr_l ((S.2.1 12 x1.toNatClampNeg)) (fun v2 =>
      (fM_ask S v1).bind (fun S3 =>
      if inb x1 16 then
      if (S3.2.1 10 x1.toNatClampNeg) = 2 then
        (fM_ask S3 v2).bind (fun S13 =>
          if inb v1 4 then
          if inb v2 4 then
            if (S13.2.1 31 v1.toNatClampNeg) = (S13.2.1 31 v2.toNatClampNeg) then
              if inb x1 16 then
                JM_doStep_60 S13 ((S13.2.1 14 x1.toNatClampNeg))
              else none
            else
              JM_doStep_60 S13 0
          else none
        else none)
      else
        if inb v1 4 then
          rr_l ((S3.2.1 31 v1.toNatClampNeg)) (fun v4 =>
            if v4 = (-1) then
            some ((1, S3))
          else
            if inb v4 5 then
              rr_l ((S3.2.1 27 v4.toNatClampNeg)) (fun v5 =>
                (fM_isField S3 v5 v2).bind (fun r6 =>
                if r6 = 0 then
                some ((2, S3))
              else
                if inb x1 16 then
                  (fM_isSort S3 v5 v2 ((S3.2.1 10 x1.toNatClampNeg))).bind (fun r7 =>
                    if r7 = 0 then
                    some ((2, S3))
                  else
                    if inb x1 16 then
                      (fM_askField S3 v4 v2 ((S3.2.1 10 x1.toNatClampNeg))).bind (fun S8 =>
                        if inb x1 16 then
                        if (S8.2.1 10 x1.toNatClampNeg) = 0 then
                          if inb x1 16 then
                            if inb ((4 * v4) + v2) 20 then
                              if inb (S8.2.1 13 x1.toNatClampNeg) 4 then
                                rr_l (pA S8 31 ((S8.2.1 13 x1.toNatClampNeg)) ((S8.2.1 29 ((4 * v4) + v2).toNatClampNeg))) (fun S11 =>
                                  if inb x1 16 then
                                  if inb (S11.2.1 13 x1.toNatClampNeg) 4 then
                                    rr_l (pA S11 32 ((S11.2.1 13 x1.toNatClampNeg)) (vp_nar .boolean 0)) (fun S12 =>
                                      some ((0, S12)))
                                  else none
                                else none)
                              else none
                            else none
                          else none
                        else
                          if inb ((4 * v4) + v2) 20 then
                            if inb x1 16 then
                              if (S8.2.1 29 ((4 * v4) + v2).toNatClampNeg) = (S8.2.1 13 x1.toNatClampNeg) then
                                if inb x1 16 then
                                  JM_doStep_208 S8 ((S8.2.1 14 x1.toNatClampNeg))
                                else none
                              else
                                JM_doStep_208 S8 0
                            else none
                          else none
                      else none)
                    else none)
                else none))
            else none)
        else none
    else none))
  else none)
else none
set_option maxRecDepth 20000 in
theorem tM_doStep {l : Launch} {G : rr_G} (S : rr_T) (x1 : Int32) : TT l G mX11_doStep 2 45 fxA rvIS (fun q => mw q.2) z0 z0 0 0 [.ref 0, .int x1] (mw S) (fM_doStep S x1) := by
  refine TT.by (by decide) (Nat.le_of_ble_eq_true rfl) (lv := [(0, .ref 0), (1, .int x1)]) rfl ?_
  show RR l G mX11_doStep 2 45 fxA rvIS (fun q => mw q.2) z0 z0 0 0 0 [(0, .ref 0), (1, .int x1)] [] (mw S) (fM_doStep S x1)
  unfold fM_doStep
  refine rr_aload_n dX11_doStep_0 rfl 0 rfl ?_
  refine rr_get (v := .ref 11) cl11 k11_44 (Nat.le_of_ble_eq_true rfl) rfl rfl dX11_doStep_1 ?_
  refine rr_iload_n dX11_doStep_4 rfl 1 rfl ?_
  refine rr_if (fun z => ?_)
  refine rr_iald (len := 16) rfl (inb_in z) dX11_doStep_5 ?_
  refine rr_letI (fun v1 => ?_)
  refine rr_istore_n (lv' := [(2, .int v1), (0, .ref 0), (1, .int x1)]) dX11_doStep_6 rfl (by decide) rfl ?_
  refine rr_aload_n dX11_doStep_7 rfl 1 rfl ?_
  refine rr_get (v := .ref 12) cl11 k11_47 (Nat.le_of_ble_eq_true rfl) rfl rfl dX11_doStep_8 ?_
  refine rr_iload_n dX11_doStep_11 rfl 2 rfl ?_
  refine rr_if (fun z => ?_)
  refine rr_iald (len := 16) rfl (inb_in z) dX11_doStep_12 ?_
  refine rr_letI (fun v2 => ?_)
  refine rr_istore_n (lv' := [(3, .int v2), (2, .int v1), (0, .ref 0), (1, .int x1)]) dX11_doStep_13 rfl (by decide) rfl ?_
  refine rr_aload_n dX11_doStep_14 rfl 2 rfl ?_
  refine rr_iload_n dX11_doStep_15 rfl 1 rfl ?_
  refine rr_vs (W := mw) (As := [.int v1]) (rest := []) (tM_ask S v1) v11_233 rfl rfl ⟨Nat.le_of_ble_eq_true rfl, Nat.le_of_ble_eq_true rfl⟩ (fun _ z => z) rfl rfl (Nat.le_of_ble_eq_true rfl) rfl dX11_doStep_16 (fun S3 => ?_)
  refine rr_aload_n dX11_doStep_19 rfl 2 rfl ?_
  refine rr_get (v := .ref 10) cl11 k11_41 (Nat.le_of_ble_eq_true rfl) rfl rfl dX11_doStep_20 ?_
  refine rr_iload_n dX11_doStep_23 rfl 3 rfl ?_
  refine rr_if (fun z => ?_)
  refine rr_iald (len := 16) rfl (inb_in z) dX11_doStep_24 ?_
  refine rr_iconst (v := 2) dX11_doStep_25 (by decide) ?_
  refine rr_icmp_ne (tgt := 65) dX11_doStep_26 (by decide) (fun _ => ?_) (fun _ => ?_)
  · refine rr_aload_n dX11_doStep_65 rfl 2 rfl ?_
    refine rr_get (v := .ref 31) cl11 k11_108 (Nat.le_of_ble_eq_true rfl) rfl rfl dX11_doStep_66 ?_
    refine rr_iload_n dX11_doStep_69 rfl 1 rfl ?_
    refine rr_if (fun z => ?_)
    refine rr_iald (len := 4) rfl (inb_in z) dX11_doStep_70 ?_
    refine rr_letI (fun v4 => ?_)
    refine rr_istore (lv' := [(4, .int v4), (3, .int v2), (2, .int v1), (0, .ref 0), (1, .int x1)]) dX11_doStep_71 (by decide) rfl ?_
    refine rr_iload dX11_doStep_73 0 rfl ?_
    refine rr_iconst (v := (-1)) dX11_doStep_75 (by decide) ?_
    refine rr_icmp_ne (tgt := 81) dX11_doStep_76 (by decide) (fun _ => ?_) (fun _ => ?_)
    · refine rr_aload_n dX11_doStep_81 rfl 3 rfl ?_
      refine rr_get (v := .ref 27) cl11 k11_96 (Nat.le_of_ble_eq_true rfl) rfl rfl dX11_doStep_82 ?_
      refine rr_iload dX11_doStep_85 0 rfl ?_
      refine rr_if (fun z => ?_)
      refine rr_iald (len := 5) rfl (inb_in z) dX11_doStep_87 ?_
      refine rr_letI (fun v5 => ?_)
      refine rr_istore (lv' := [(5, .int v5), (4, .int v4), (3, .int v2), (2, .int v1), (0, .ref 0), (1, .int x1)]) dX11_doStep_88 (by decide) rfl ?_
      refine rr_aload_n dX11_doStep_90 rfl 4 rfl ?_
      refine rr_iload dX11_doStep_91 0 rfl ?_
      refine rr_iload_n dX11_doStep_93 rfl 2 rfl ?_
      refine rr_vi (As := [.int v5, .int v2]) (rest := []) (tM_isField S3 v5 v2) v11_146 rfl rfl ⟨Nat.le_of_ble_eq_true rfl, Nat.le_of_ble_eq_true rfl⟩ rfl rfl (Nat.le_of_ble_eq_true rfl) rfl dX11_doStep_94 (fun r6 => ?_)
      refine rr_if_eq (tgt := 116) dX11_doStep_97 (by decide) (fun _ => ?_) (fun _ => ?_)
      · refine rr_iconst (v := 2) dX11_doStep_116 (by decide) ?_
        exact rr_iret dX11_doStep_117 rfl rfl rfl rfl rfl
      · refine rr_aload_n dX11_doStep_100 rfl 4 rfl ?_
        refine rr_iload dX11_doStep_101 0 rfl ?_
        refine rr_iload_n dX11_doStep_103 rfl 2 rfl ?_
        refine rr_aload_n dX11_doStep_104 rfl 4 rfl ?_
        refine rr_get (v := .ref 10) cl11 k11_41 (Nat.le_of_ble_eq_true rfl) rfl rfl dX11_doStep_105 ?_
        refine rr_iload_n dX11_doStep_108 rfl 5 rfl ?_
        refine rr_if (fun z => ?_)
        refine rr_iald (len := 16) rfl (inb_in z) dX11_doStep_109 ?_
        refine rr_vi (As := [.int v5, .int v2, .int (S3.2.1 10 x1.toNatClampNeg)]) (rest := []) (tM_isSort S3 v5 v2 ((S3.2.1 10 x1.toNatClampNeg))) v11_150 rfl rfl ⟨Nat.le_of_ble_eq_true rfl, Nat.le_of_ble_eq_true rfl⟩ rfl rfl (Nat.le_of_ble_eq_true rfl) rfl dX11_doStep_110 (fun r7 => ?_)
        refine rr_if_ne (tgt := 118) dX11_doStep_113 (by decide) (fun _ => ?_) (fun _ => ?_)
        · refine rr_aload_n dX11_doStep_118 rfl 4 rfl ?_
          refine rr_iload dX11_doStep_119 1 rfl ?_
          refine rr_iload_n dX11_doStep_121 rfl 2 rfl ?_
          refine rr_aload_n dX11_doStep_122 rfl 4 rfl ?_
          refine rr_get (v := .ref 10) cl11 k11_41 (Nat.le_of_ble_eq_true rfl) rfl rfl dX11_doStep_123 ?_
          refine rr_iload_n dX11_doStep_126 rfl 5 rfl ?_
          refine rr_if (fun z => ?_)
          refine rr_iald (len := 16) rfl (inb_in z) dX11_doStep_127 ?_
          refine rr_vs (W := mw) (As := [.int v4, .int v2, .int (S3.2.1 10 x1.toNatClampNeg)]) (rest := []) (tM_askField S3 v4 v2 ((S3.2.1 10 x1.toNatClampNeg))) v11_239 rfl rfl ⟨Nat.le_of_ble_eq_true rfl, Nat.le_of_ble_eq_true rfl⟩ (fun _ z => z) rfl rfl (Nat.le_of_ble_eq_true rfl) rfl dX11_doStep_128 (fun S8 => ?_)
          refine rr_aload_n dX11_doStep_131 rfl 4 rfl ?_
          refine rr_get (v := .ref 10) cl11 k11_41 (Nat.le_of_ble_eq_true rfl) rfl rfl dX11_doStep_132 ?_
          refine rr_iload_n dX11_doStep_135 rfl 5 rfl ?_
          refine rr_if (fun z => ?_)
          refine rr_iald (len := 16) rfl (inb_in z) dX11_doStep_136 ?_
          refine rr_if_ne (tgt := 177) dX11_doStep_137 (by decide) (fun _ => ?_) (fun _ => ?_)
          · refine rr_aload_n dX11_doStep_177 rfl 4 rfl ?_
            refine rr_aload_n dX11_doStep_178 rfl 4 rfl ?_
            refine rr_get (v := .ref 29) cl11 k11_102 (Nat.le_of_ble_eq_true rfl) rfl rfl dX11_doStep_179 ?_
            refine rr_iconst (v := 4) dX11_doStep_182 (by decide) ?_
            refine rr_iload dX11_doStep_183 1 rfl ?_
            refine rr_imul dX11_doStep_185 ?_
            refine rr_iload_n dX11_doStep_186 rfl 2 rfl ?_
            refine rr_iadd dX11_doStep_187 ?_
            refine rr_if (fun z => ?_)
            refine rr_iald (len := 20) rfl (inb_in z) dX11_doStep_188 ?_
            refine rr_aload_n dX11_doStep_189 rfl 4 rfl ?_
            refine rr_get (v := .ref 13) cl11 k11_50 (Nat.le_of_ble_eq_true rfl) rfl rfl dX11_doStep_190 ?_
            refine rr_iload_n dX11_doStep_193 rfl 5 rfl ?_
            refine rr_if (fun z => ?_)
            refine rr_iald (len := 16) rfl (inb_in z) dX11_doStep_194 ?_
            refine rr_icmp_ne (tgt := 207) dX11_doStep_195 (by decide) (fun _ => ?_) (fun _ => ?_)
            · refine rr_iconst (v := 0) dX11_doStep_207 (by decide) ?_
              refine rr_sub [] rfl ?_
              exact tM_doStep_208 S8 0
            · refine rr_aload_n dX11_doStep_198 rfl 4 rfl ?_
              refine rr_get (v := .ref 14) cl11 k11_53 (Nat.le_of_ble_eq_true rfl) rfl rfl dX11_doStep_199 ?_
              refine rr_iload_n dX11_doStep_202 rfl 5 rfl ?_
              refine rr_if (fun z => ?_)
              refine rr_iald (len := 16) rfl (inb_in z) dX11_doStep_203 ?_
              refine rr_goto (tgt := 208) dX11_doStep_204 (by decide) ?_
              refine rr_sub [] rfl ?_
              exact tM_doStep_208 S8 ((S8.2.1 14 x1.toNatClampNeg))
          · refine rr_aload_n dX11_doStep_140 rfl 4 rfl ?_
            refine rr_get (v := .ref 31) cl11 k11_108 (Nat.le_of_ble_eq_true rfl) rfl rfl dX11_doStep_141 ?_
            refine rr_aload_n dX11_doStep_144 rfl 4 rfl ?_
            refine rr_get (v := .ref 13) cl11 k11_50 (Nat.le_of_ble_eq_true rfl) rfl rfl dX11_doStep_145 ?_
            refine rr_iload_n dX11_doStep_148 rfl 5 rfl ?_
            refine rr_if (fun z => ?_)
            refine rr_iald (len := 16) rfl (inb_in z) dX11_doStep_149 ?_
            refine rr_aload_n dX11_doStep_150 rfl 4 rfl ?_
            refine rr_get (v := .ref 29) cl11 k11_102 (Nat.le_of_ble_eq_true rfl) rfl rfl dX11_doStep_151 ?_
            refine rr_iconst (v := 4) dX11_doStep_154 (by decide) ?_
            refine rr_iload dX11_doStep_155 1 rfl ?_
            refine rr_imul dX11_doStep_157 ?_
            refine rr_iload_n dX11_doStep_158 rfl 2 rfl ?_
            refine rr_iadd dX11_doStep_159 ?_
            refine rr_if (fun z => ?_)
            refine rr_iald (len := 20) rfl (inb_in z) dX11_doStep_160 ?_
            refine rr_if (fun z => ?_)
            refine rr_iast (len := 4) rfl (inb_in z) dX11_doStep_161 (ma31 S8 ((S8.2.1 13 x1.toNatClampNeg)) ((S8.2.1 29 ((4 * v4) + v2).toNatClampNeg))) ?_
            refine rr_letS (W := mw) (fun S11 => ?_)
            refine rr_aload_n dX11_doStep_162 rfl 4 rfl ?_
            refine rr_get (v := .ref 32) cl11 k11_111 (Nat.le_of_ble_eq_true rfl) rfl rfl dX11_doStep_163 ?_
            refine rr_aload_n dX11_doStep_166 rfl 4 rfl ?_
            refine rr_get (v := .ref 13) cl11 k11_50 (Nat.le_of_ble_eq_true rfl) rfl rfl dX11_doStep_167 ?_
            refine rr_iload_n dX11_doStep_170 rfl 5 rfl ?_
            refine rr_if (fun z => ?_)
            refine rr_iald (len := 16) rfl (inb_in z) dX11_doStep_171 ?_
            refine rr_iconst (v := 0) dX11_doStep_172 (by decide) ?_
            refine rr_if (fun z => ?_)
            refine rr_zast (len := 4) rfl (inb_in z) dX11_doStep_173 (ma32 S11 ((S11.2.1 13 x1.toNatClampNeg)) 0) ?_
            refine rr_letS (W := mw) (fun S12 => ?_)
            refine rr_goto (tgt := 211) dX11_doStep_174 (by decide) ?_
            refine rr_iconst (v := 0) dX11_doStep_211 (by decide) ?_
            exact rr_iret dX11_doStep_212 rfl rfl rfl rfl rfl
        · refine rr_iconst (v := 2) dX11_doStep_116 (by decide) ?_
          exact rr_iret dX11_doStep_117 rfl rfl rfl rfl rfl
    · refine rr_iconst (v := 1) dX11_doStep_79 (by decide) ?_
      exact rr_iret dX11_doStep_80 rfl rfl rfl rfl rfl
  · refine rr_aload_n dX11_doStep_29 rfl 2 rfl ?_
    refine rr_iload_n dX11_doStep_30 rfl 0 rfl ?_
    refine rr_vs (W := mw) (As := [.int v2]) (rest := []) (tM_ask S3 v2) v11_233 rfl rfl ⟨Nat.le_of_ble_eq_true rfl, Nat.le_of_ble_eq_true rfl⟩ (fun _ z => z) rfl rfl (Nat.le_of_ble_eq_true rfl) rfl dX11_doStep_31 (fun S13 => ?_)
    refine rr_aload_n dX11_doStep_34 rfl 2 rfl ?_
    refine rr_aload_n dX11_doStep_35 rfl 2 rfl ?_
    refine rr_get (v := .ref 31) cl11 k11_108 (Nat.le_of_ble_eq_true rfl) rfl rfl dX11_doStep_36 ?_
    refine rr_iload_n dX11_doStep_39 rfl 1 rfl ?_
    refine rr_if (fun z => ?_)
    refine rr_iald (len := 4) rfl (inb_in z) dX11_doStep_40 ?_
    refine rr_aload_n dX11_doStep_41 rfl 2 rfl ?_
    refine rr_get (v := .ref 31) cl11 k11_108 (Nat.le_of_ble_eq_true rfl) rfl rfl dX11_doStep_42 ?_
    refine rr_iload_n dX11_doStep_45 rfl 0 rfl ?_
    refine rr_if (fun z => ?_)
    refine rr_iald (len := 4) rfl (inb_in z) dX11_doStep_46 ?_
    refine rr_icmp_ne (tgt := 59) dX11_doStep_47 (by decide) (fun _ => ?_) (fun _ => ?_)
    · refine rr_iconst (v := 0) dX11_doStep_59 (by decide) ?_
      refine rr_sub [] rfl ?_
      exact tM_doStep_60 S13 0
    · refine rr_aload_n dX11_doStep_50 rfl 2 rfl ?_
      refine rr_get (v := .ref 14) cl11 k11_53 (Nat.le_of_ble_eq_true rfl) rfl rfl dX11_doStep_51 ?_
      refine rr_iload_n dX11_doStep_54 rfl 3 rfl ?_
      refine rr_if (fun z => ?_)
      refine rr_iald (len := 16) rfl (inb_in z) dX11_doStep_55 ?_
      refine rr_goto (tgt := 60) dX11_doStep_56 (by decide) ?_
      refine rr_sub [] rfl ?_
      exact tM_doStep_60 S13 ((S13.2.1 14 x1.toNatClampNeg))
def LM_playHeap_130 (rec130 : (Int32 × Int32 × rr_T) → Option (Int32 × rr_T)) (a9 : Int32 × Int32 × rr_T) : Option (Int32 × rr_T) :=
  if (a9.2.2.1 13) ≤ a9.2.1 then
  some ((a9.1, a9.2.2))
else
  if a9.1 = 0 then
    rr_l (pI a9.2.2 53 0) (fun S10 =>
      rr_l (pI S10 52 (((S10.1 52) + 1))) (fun S11 =>
      (fM_doStep S11 a9.2.1).bind (fun q12 =>
      rr_l (((a9.2.1 + 1) + (q12.2.1 53))) (fun v13 =>
      rec130 (q12.1, v13, q12.2)))))
  else
    some ((a9.1, a9.2.2))
set_option maxRecDepth 20000 in
theorem tM_playHeap_130 {l : Launch} {G : rr_G} : ∀ (n : Nat) (a : Int32 × Int32 × rr_T), RR l G mX11_playHeap 3 70 fxA rvIS (fun q => mw q.2) z0 z0 0 0 130 [(0, .ref 0), (1, .int a.1), (2, .int a.2.1)] [] (mw a.2.2) (rr_loop n (LM_playHeap_130) a) := by
  refine rr_lp (α := Int32 × Int32 × rr_T) 130 (fun a => [(0, .ref 0), (1, .int a.1), (2, .int a.2.1)]) (fun a => (mw a.2.2)) (fun rec130 hrec130 a9 => ?_)
  show RR l G mX11_playHeap 3 70 fxA rvIS (fun q => mw q.2) z0 z0 0 0 130 [(0, .ref 0), (1, .int a9.1), (2, .int a9.2.1)] [] (mw a9.2.2) (LM_playHeap_130 rec130 a9)
  unfold LM_playHeap_130
  refine rr_iload_n dX11_playHeap_130 rfl 2 rfl ?_
  refine rr_aload_n dX11_playHeap_131 rfl 0 rfl ?_
  refine rr_get (v := .int (a9.2.2.1 13)) cl11 k11_156 (Nat.le_of_ble_eq_true rfl) rfl rfl dX11_playHeap_132 ?_
  refine rr_icmp_ge (tgt := 175) dX11_playHeap_135 (by decide) (fun _ => ?_) (fun _ => ?_)
  · refine rr_iload_n dX11_playHeap_175 rfl 1 rfl ?_
    exact rr_iret dX11_playHeap_176 rfl rfl rfl rfl rfl
  · refine rr_iload_n dX11_playHeap_138 rfl 1 rfl ?_
    refine rr_if_ne (tgt := 175) dX11_playHeap_139 (by decide) (fun _ => ?_) (fun _ => ?_)
    · refine rr_iload_n dX11_playHeap_175 rfl 1 rfl ?_
      exact rr_iret dX11_playHeap_176 rfl rfl rfl rfl rfl
    · refine rr_aload_n dX11_playHeap_142 rfl 0 rfl ?_
      refine rr_iconst (v := 0) dX11_playHeap_143 (by decide) ?_
      refine rr_put cl11 k11_236 (Nat.le_of_ble_eq_true rfl) rfl rfl rfl rfl (Nat.le_of_ble_eq_true rfl) dX11_playHeap_144 (mp53 a9.2.2 0) ?_
      refine rr_letS (W := mw) (fun S10 => ?_)
      refine rr_aload_n dX11_playHeap_147 rfl 0 rfl ?_
      refine rr_dup dX11_playHeap_148 rfl ?_
      refine rr_get (v := .int (S10.1 52)) cl11 k11_243 (Nat.le_of_ble_eq_true rfl) rfl rfl dX11_playHeap_149 ?_
      refine rr_iconst (v := 1) dX11_playHeap_152 (by decide) ?_
      refine rr_iadd dX11_playHeap_153 ?_
      refine rr_put cl11 k11_243 (Nat.le_of_ble_eq_true rfl) rfl rfl rfl rfl (Nat.le_of_ble_eq_true rfl) dX11_playHeap_154 (mp52 S10 (((S10.1 52) + 1))) ?_
      refine rr_letS (W := mw) (fun S11 => ?_)
      refine rr_aload_n dX11_playHeap_157 rfl 0 rfl ?_
      refine rr_iload_n dX11_playHeap_158 rfl 2 rfl ?_
      refine rr_vis (W := mw) (As := [.int a9.2.1]) (rest := []) (tM_doStep S11 a9.2.1) v11_246 rfl rfl ⟨Nat.le_of_ble_eq_true rfl, Nat.le_of_ble_eq_true rfl⟩ (fun _ z => z) rfl rfl (Nat.le_of_ble_eq_true rfl) rfl dX11_playHeap_159 (fun q12 => ?_)
      refine rr_istore_n (lv' := [(1, .int q12.1), (0, .ref 0), (2, .int a9.2.1)]) dX11_playHeap_162 rfl (by decide) rfl ?_
      refine rr_iload_n dX11_playHeap_163 rfl 2 rfl ?_
      refine rr_iconst (v := 1) dX11_playHeap_164 (by decide) ?_
      refine rr_iadd dX11_playHeap_165 ?_
      refine rr_aload_n dX11_playHeap_166 rfl 1 rfl ?_
      refine rr_get (v := .int (q12.2.1 53)) cl11 k11_236 (Nat.le_of_ble_eq_true rfl) rfl rfl dX11_playHeap_167 ?_
      refine rr_iadd dX11_playHeap_170 ?_
      refine rr_letI (fun v13 => ?_)
      refine rr_istore_n (lv' := [(2, .int v13), (1, .int q12.1), (0, .ref 0)]) dX11_playHeap_171 rfl (by decide) rfl ?_
      refine rr_goto (tgt := 130) dX11_playHeap_172 (by decide) ?_
      refine rr_sub [2, 1, 0] rfl ?_
      exact hrec130 (q12.1, v13, q12.2)
def JM_playHeap_111 (a5 : rr_T) : Option (Int32 × rr_T) :=
  rr_l (pI a5 49 0) (fun S6 =>
  rr_l (pI S6 50 0) (fun S7 =>
  rr_l (pI S7 52 0) (fun S8 =>
  rr_loop FU (LM_playHeap_130) (0, 0, S8))))
set_option maxRecDepth 20000 in
theorem tM_playHeap_111 {l : Launch} {G : rr_G} (a5 : rr_T) : RR l G mX11_playHeap 3 70 fxA rvIS (fun q => mw q.2) z0 z0 0 0 111 [(0, .ref 0)] [] (mw a5) (JM_playHeap_111 a5) := by
  unfold JM_playHeap_111
  refine rr_aload_n dX11_playHeap_111 rfl 0 rfl ?_
  refine rr_iconst (v := 0) dX11_playHeap_112 (by decide) ?_
  refine rr_put cl11 k11_224 (Nat.le_of_ble_eq_true rfl) rfl rfl rfl rfl (Nat.le_of_ble_eq_true rfl) dX11_playHeap_113 (mp49 a5 0) ?_
  refine rr_letS (W := mw) (fun S6 => ?_)
  refine rr_aload_n dX11_playHeap_116 rfl 0 rfl ?_
  refine rr_iconst (v := 0) dX11_playHeap_117 (by decide) ?_
  refine rr_put cl11 k11_227 (Nat.le_of_ble_eq_true rfl) rfl rfl rfl rfl (Nat.le_of_ble_eq_true rfl) dX11_playHeap_118 (mp50 S6 0) ?_
  refine rr_letS (W := mw) (fun S7 => ?_)
  refine rr_aload_n dX11_playHeap_121 rfl 0 rfl ?_
  refine rr_iconst (v := 0) dX11_playHeap_122 (by decide) ?_
  refine rr_put cl11 k11_243 (Nat.le_of_ble_eq_true rfl) rfl rfl rfl rfl (Nat.le_of_ble_eq_true rfl) dX11_playHeap_123 (mp52 S7 0) ?_
  refine rr_letS (W := mw) (fun S8 => ?_)
  refine rr_iconst (v := 0) dX11_playHeap_126 (by decide) ?_
  refine rr_istore_n (lv' := [(1, .int 0), (0, .ref 0)]) dX11_playHeap_127 rfl (by decide) rfl ?_
  refine rr_iconst (v := 0) dX11_playHeap_128 (by decide) ?_
  refine rr_istore_n (lv' := [(2, .int 0), (1, .int 0), (0, .ref 0)]) dX11_playHeap_129 rfl (by decide) rfl ?_
  refine rr_sub [2, 1, 0] rfl ?_
  exact tM_playHeap_130 FU (0, 0, S8)
def LM_playHeap_93 (rec93 : (Int32 × rr_T) → Option (Int32 × rr_T)) (a14 : Int32 × rr_T) : Option (Int32 × rr_T) :=
  if 5 ≤ a14.1 then
  JM_playHeap_111 a14.2
else
  if inb a14.1 5 then
    rr_l (pA a14.2 35 a14.1 (-1)) (fun S15 =>
      rec93 ((a14.1 + 1), S15))
  else none
set_option maxRecDepth 20000 in
theorem tM_playHeap_93 {l : Launch} {G : rr_G} : ∀ (n : Nat) (a : Int32 × rr_T), RR l G mX11_playHeap 3 70 fxA rvIS (fun q => mw q.2) z0 z0 0 0 93 [(0, .ref 0), (1, .int a.1)] [] (mw a.2) (rr_loop n (LM_playHeap_93) a) := by
  refine rr_lp (α := Int32 × rr_T) 93 (fun a => [(0, .ref 0), (1, .int a.1)]) (fun a => (mw a.2)) (fun rec93 hrec93 a14 => ?_)
  show RR l G mX11_playHeap 3 70 fxA rvIS (fun q => mw q.2) z0 z0 0 0 93 [(0, .ref 0), (1, .int a14.1)] [] (mw a14.2) (LM_playHeap_93 rec93 a14)
  unfold LM_playHeap_93
  refine rr_iload_n dX11_playHeap_93 rfl 1 rfl ?_
  refine rr_iconst (v := 5) dX11_playHeap_94 (by decide) ?_
  refine rr_icmp_ge (tgt := 111) dX11_playHeap_95 (by decide) (fun _ => ?_) (fun _ => ?_)
  · refine rr_sub [0] rfl ?_
    exact tM_playHeap_111 a14.2
  · refine rr_aload_n dX11_playHeap_98 rfl 0 rfl ?_
    refine rr_get (v := .ref 35) cl11 k11_120 (Nat.le_of_ble_eq_true rfl) rfl rfl dX11_playHeap_99 ?_
    refine rr_iload_n dX11_playHeap_102 rfl 1 rfl ?_
    refine rr_iconst (v := (-1)) dX11_playHeap_103 (by decide) ?_
    refine rr_if (fun z => ?_)
    refine rr_iast (len := 5) rfl (inb_in z) dX11_playHeap_104 (ma35 a14.2 a14.1 (-1)) ?_
    refine rr_letS (W := mw) (fun S15 => ?_)
    refine rr_iinc (lv' := [(1, .int (a14.1 + 1)), (0, .ref 0)]) dX11_playHeap_105 1 rfl (by decide) rfl ?_
    refine rr_goto (tgt := 93) dX11_playHeap_108 (by decide) ?_
    refine rr_sub [1, 0] rfl ?_
    exact hrec93 ((a14.1 + 1), S15)
def JM_playHeap_91 (a4 : rr_T) : Option (Int32 × rr_T) :=
  rr_loop FU (LM_playHeap_93) (0, a4)
set_option maxRecDepth 20000 in
theorem tM_playHeap_91 {l : Launch} {G : rr_G} (a4 : rr_T) : RR l G mX11_playHeap 3 70 fxA rvIS (fun q => mw q.2) z0 z0 0 0 91 [(0, .ref 0)] [] (mw a4) (JM_playHeap_91 a4) := by
  unfold JM_playHeap_91
  refine rr_iconst (v := 0) dX11_playHeap_91 (by decide) ?_
  refine rr_istore_n (lv' := [(1, .int 0), (0, .ref 0)]) dX11_playHeap_92 rfl (by decide) rfl ?_
  refine rr_sub [1, 0] rfl ?_
  exact tM_playHeap_93 FU (0, a4)
def LM_playHeap_72 (rec72 : (Int32 × rr_T) → Option (Int32 × rr_T)) (a16 : Int32 × rr_T) : Option (Int32 × rr_T) :=
  if 20 ≤ a16.1 then
  JM_playHeap_91 a16.2
else
  if inb a16.1 20 then
    rr_l (pA a16.2 34 a16.1 (vp_nar .boolean 0)) (fun S17 =>
      rec72 ((a16.1 + 1), S17))
  else none
set_option maxRecDepth 20000 in
theorem tM_playHeap_72 {l : Launch} {G : rr_G} : ∀ (n : Nat) (a : Int32 × rr_T), RR l G mX11_playHeap 3 70 fxA rvIS (fun q => mw q.2) z0 z0 0 0 72 [(0, .ref 0), (1, .int a.1)] [] (mw a.2) (rr_loop n (LM_playHeap_72) a) := by
  refine rr_lp (α := Int32 × rr_T) 72 (fun a => [(0, .ref 0), (1, .int a.1)]) (fun a => (mw a.2)) (fun rec72 hrec72 a16 => ?_)
  show RR l G mX11_playHeap 3 70 fxA rvIS (fun q => mw q.2) z0 z0 0 0 72 [(0, .ref 0), (1, .int a16.1)] [] (mw a16.2) (LM_playHeap_72 rec72 a16)
  unfold LM_playHeap_72
  refine rr_iload_n dX11_playHeap_72 rfl 1 rfl ?_
  refine rr_bipush (v := 20) dX11_playHeap_73 (by decide) ?_
  refine rr_icmp_ge (tgt := 91) dX11_playHeap_75 (by decide) (fun _ => ?_) (fun _ => ?_)
  · refine rr_sub [0] rfl ?_
    exact tM_playHeap_91 a16.2
  · refine rr_aload_n dX11_playHeap_78 rfl 0 rfl ?_
    refine rr_get (v := .ref 34) cl11 k11_117 (Nat.le_of_ble_eq_true rfl) rfl rfl dX11_playHeap_79 ?_
    refine rr_iload_n dX11_playHeap_82 rfl 1 rfl ?_
    refine rr_iconst (v := 0) dX11_playHeap_83 (by decide) ?_
    refine rr_if (fun z => ?_)
    refine rr_zast (len := 20) rfl (inb_in z) dX11_playHeap_84 (ma34 a16.2 a16.1 0) ?_
    refine rr_letS (W := mw) (fun S17 => ?_)
    refine rr_iinc (lv' := [(1, .int (a16.1 + 1)), (0, .ref 0)]) dX11_playHeap_85 1 rfl (by decide) rfl ?_
    refine rr_goto (tgt := 72) dX11_playHeap_88 (by decide) ?_
    refine rr_sub [1, 0] rfl ?_
    exact hrec72 ((a16.1 + 1), S17)
def JM_playHeap_56 (a1 : rr_T) : Option (Int32 × rr_T) :=
  if inb 0 2 then
  rr_l (pA a1 33 0 (vp_nar .boolean 0)) (fun S2 =>
    if inb 1 2 then
    rr_l (pA S2 33 1 (vp_nar .boolean 0)) (fun S3 =>
      rr_loop FU (LM_playHeap_72) (0, S3))
  else none)
else none
set_option maxRecDepth 20000 in
theorem tM_playHeap_56 {l : Launch} {G : rr_G} (a1 : rr_T) : RR l G mX11_playHeap 3 70 fxA rvIS (fun q => mw q.2) z0 z0 0 0 56 [(0, .ref 0)] [] (mw a1) (JM_playHeap_56 a1) := by
  unfold JM_playHeap_56
  refine rr_aload_n dX11_playHeap_56 rfl 0 rfl ?_
  refine rr_get (v := .ref 33) cl11 k11_114 (Nat.le_of_ble_eq_true rfl) rfl rfl dX11_playHeap_57 ?_
  refine rr_iconst (v := 0) dX11_playHeap_60 (by decide) ?_
  refine rr_iconst (v := 0) dX11_playHeap_61 (by decide) ?_
  refine rr_if (fun z => ?_)
  refine rr_zast (len := 2) rfl (inb_in z) dX11_playHeap_62 (ma33 a1 0 0) ?_
  refine rr_letS (W := mw) (fun S2 => ?_)
  refine rr_aload_n dX11_playHeap_63 rfl 0 rfl ?_
  refine rr_get (v := .ref 33) cl11 k11_114 (Nat.le_of_ble_eq_true rfl) rfl rfl dX11_playHeap_64 ?_
  refine rr_iconst (v := 1) dX11_playHeap_67 (by decide) ?_
  refine rr_iconst (v := 0) dX11_playHeap_68 (by decide) ?_
  refine rr_if (fun z => ?_)
  refine rr_zast (len := 2) rfl (inb_in z) dX11_playHeap_69 (ma33 S2 1 0) ?_
  refine rr_letS (W := mw) (fun S3 => ?_)
  refine rr_iconst (v := 0) dX11_playHeap_70 (by decide) ?_
  refine rr_istore_n (lv' := [(1, .int 0), (0, .ref 0)]) dX11_playHeap_71 rfl (by decide) rfl ?_
  refine rr_sub [1, 0] rfl ?_
  exact tM_playHeap_72 FU (0, S3)
def JM_playHeap_49 (rec2 : (Int32 × rr_T) → Option (Int32 × rr_T)) (a18 : Int32 × rr_T) (S20 : rr_T) (a21 : Int32) : Option (Int32 × rr_T) :=
  if inb a18.1 4 then
  rr_l (pA S20 31 a18.1 a21) (fun S22 =>
    rec2 ((a18.1 + 1), S22))
else none
set_option maxRecDepth 20000 in
theorem tM_playHeap_49 {l : Launch} {G : rr_G} (rec2 : (Int32 × rr_T) → Option (Int32 × rr_T)) (a18 : Int32 × rr_T) (S20 : rr_T) (hrec2 : ∀ a : Int32 × rr_T, RR l G mX11_playHeap 3 70 fxA rvIS (fun q => mw q.2) z0 z0 0 0 2 [(0, .ref 0), (1, .int a.1)] [] (mw a.2) (rec2 a)) (a21 : Int32) : RR l G mX11_playHeap 3 70 fxA rvIS (fun q => mw q.2) z0 z0 0 0 49 [(0, .ref 0), (1, .int a18.1)] [.int a21, .int a18.1, .ref 31] (mw S20) (JM_playHeap_49 rec2 a18 S20 a21) := by
  unfold JM_playHeap_49
  refine rr_if (fun z => ?_)
  refine rr_iast (len := 4) rfl (inb_in z) dX11_playHeap_49 (ma31 S20 a18.1 a21) ?_
  refine rr_letS (W := mw) (fun S22 => ?_)
  refine rr_iinc (lv' := [(1, .int (a18.1 + 1)), (0, .ref 0)]) dX11_playHeap_50 1 rfl (by decide) rfl ?_
  refine rr_goto (tgt := 2) dX11_playHeap_53 (by decide) ?_
  refine rr_sub [1, 0] rfl ?_
  exact hrec2 ((a18.1 + 1), S22)
def JM_playHeap_25 (rec2 : (Int32 × rr_T) → Option (Int32 × rr_T)) (a18 : Int32 × rr_T) (a19 : Int32) : Option (Int32 × rr_T) :=
  if inb a18.1 4 then
  rr_l (pA a18.2 32 a18.1 (vp_nar .boolean a19)) (fun S20 =>
    if (S20.1 5) ≤ a18.1 then
    JM_playHeap_49 rec2 a18 S20 (-1)
  else
    if inb a18.1 2 then
      JM_playHeap_49 rec2 a18 S20 ((S20.2.1 28 a18.1.toNatClampNeg))
    else none)
else none
set_option maxRecDepth 20000 in
theorem tM_playHeap_25 {l : Launch} {G : rr_G} (rec2 : (Int32 × rr_T) → Option (Int32 × rr_T)) (a18 : Int32 × rr_T) (hrec2 : ∀ a : Int32 × rr_T, RR l G mX11_playHeap 3 70 fxA rvIS (fun q => mw q.2) z0 z0 0 0 2 [(0, .ref 0), (1, .int a.1)] [] (mw a.2) (rec2 a)) (a19 : Int32) : RR l G mX11_playHeap 3 70 fxA rvIS (fun q => mw q.2) z0 z0 0 0 25 [(0, .ref 0), (1, .int a18.1)] [.int a19, .int a18.1, .ref 32] (mw a18.2) (JM_playHeap_25 rec2 a18 a19) := by
  unfold JM_playHeap_25
  refine rr_if (fun z => ?_)
  refine rr_zast (len := 4) rfl (inb_in z) dX11_playHeap_25 (ma32 a18.2 a18.1 a19) ?_
  refine rr_letS (W := mw) (fun S20 => ?_)
  refine rr_aload_n dX11_playHeap_26 rfl 0 rfl ?_
  refine rr_get (v := .ref 31) cl11 k11_108 (Nat.le_of_ble_eq_true rfl) rfl rfl dX11_playHeap_27 ?_
  refine rr_iload_n dX11_playHeap_30 rfl 1 rfl ?_
  refine rr_iload_n dX11_playHeap_31 rfl 1 rfl ?_
  refine rr_aload_n dX11_playHeap_32 rfl 0 rfl ?_
  refine rr_get (v := .int (S20.1 5)) cl11 k11_143 (Nat.le_of_ble_eq_true rfl) rfl rfl dX11_playHeap_33 ?_
  refine rr_icmp_ge (tgt := 48) dX11_playHeap_36 (by decide) (fun _ => ?_) (fun _ => ?_)
  · refine rr_iconst (v := (-1)) dX11_playHeap_48 (by decide) ?_
    exact tM_playHeap_49 rec2 a18 S20 hrec2 (-1)
  · refine rr_aload_n dX11_playHeap_39 rfl 0 rfl ?_
    refine rr_get (v := .ref 28) cl11 k11_99 (Nat.le_of_ble_eq_true rfl) rfl rfl dX11_playHeap_40 ?_
    refine rr_iload_n dX11_playHeap_43 rfl 1 rfl ?_
    refine rr_if (fun z => ?_)
    refine rr_iald (len := 2) rfl (inb_in z) dX11_playHeap_44 ?_
    refine rr_goto (tgt := 49) dX11_playHeap_45 (by decide) ?_
    exact tM_playHeap_49 rec2 a18 S20 hrec2 ((S20.2.1 28 a18.1.toNatClampNeg))
def LM_playHeap_2 (rec2 : (Int32 × rr_T) → Option (Int32 × rr_T)) (a18 : Int32 × rr_T) : Option (Int32 × rr_T) :=
  if 4 ≤ a18.1 then
  JM_playHeap_56 a18.2
else
  if (a18.2.1 5) ≤ a18.1 then
    JM_playHeap_25 rec2 a18 0
  else
    JM_playHeap_25 rec2 a18 1
set_option maxRecDepth 20000 in
theorem tM_playHeap_2 {l : Launch} {G : rr_G} : ∀ (n : Nat) (a : Int32 × rr_T), RR l G mX11_playHeap 3 70 fxA rvIS (fun q => mw q.2) z0 z0 0 0 2 [(0, .ref 0), (1, .int a.1)] [] (mw a.2) (rr_loop n (LM_playHeap_2) a) := by
  refine rr_lp (α := Int32 × rr_T) 2 (fun a => [(0, .ref 0), (1, .int a.1)]) (fun a => (mw a.2)) (fun rec2 hrec2 a18 => ?_)
  show RR l G mX11_playHeap 3 70 fxA rvIS (fun q => mw q.2) z0 z0 0 0 2 [(0, .ref 0), (1, .int a18.1)] [] (mw a18.2) (LM_playHeap_2 rec2 a18)
  unfold LM_playHeap_2
  refine rr_iload_n dX11_playHeap_2 rfl 1 rfl ?_
  refine rr_iconst (v := 4) dX11_playHeap_3 (by decide) ?_
  refine rr_icmp_ge (tgt := 56) dX11_playHeap_4 (by decide) (fun _ => ?_) (fun _ => ?_)
  · refine rr_sub [0] rfl ?_
    exact tM_playHeap_56 a18.2
  · refine rr_aload_n dX11_playHeap_7 rfl 0 rfl ?_
    refine rr_get (v := .ref 32) cl11 k11_111 (Nat.le_of_ble_eq_true rfl) rfl rfl dX11_playHeap_8 ?_
    refine rr_iload_n dX11_playHeap_11 rfl 1 rfl ?_
    refine rr_iload_n dX11_playHeap_12 rfl 1 rfl ?_
    refine rr_aload_n dX11_playHeap_13 rfl 0 rfl ?_
    refine rr_get (v := .int (a18.2.1 5)) cl11 k11_143 (Nat.le_of_ble_eq_true rfl) rfl rfl dX11_playHeap_14 ?_
    refine rr_icmp_ge (tgt := 24) dX11_playHeap_17 (by decide) (fun _ => ?_) (fun _ => ?_)
    · refine rr_iconst (v := 0) dX11_playHeap_24 (by decide) ?_
      exact tM_playHeap_25 rec2 a18 hrec2 0
    · refine rr_iconst (v := 1) dX11_playHeap_20 (by decide) ?_
      refine rr_goto (tgt := 25) dX11_playHeap_21 (by decide) ?_
      exact tM_playHeap_25 rec2 a18 hrec2 1
def fM_playHeap (S : rr_T) : Option (Int32 × rr_T) :=
  rr_loop FU (LM_playHeap_2) (0, S)
set_option maxRecDepth 20000 in
theorem tM_playHeap {l : Launch} {G : rr_G} (S : rr_T) : TT l G mX11_playHeap 3 70 fxA rvIS (fun q => mw q.2) z0 z0 0 0 [.ref 0] (mw S) (fM_playHeap S) := by
  refine TT.by (by decide) (Nat.le_of_ble_eq_true rfl) (lv := [(0, .ref 0)]) rfl ?_
  show RR l G mX11_playHeap 3 70 fxA rvIS (fun q => mw q.2) z0 z0 0 0 0 [(0, .ref 0)] [] (mw S) (fM_playHeap S)
  unfold fM_playHeap
  refine rr_iconst (v := 0) dX11_playHeap_0 (by decide) ?_
  refine rr_istore_n (lv' := [(1, .int 0), (0, .ref 0)]) dX11_playHeap_1 rfl (by decide) rfl ?_
  refine rr_sub [1, 0] rfl ?_
  exact tM_playHeap_2 FU (0, S)
