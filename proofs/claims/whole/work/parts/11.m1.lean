/-! ===== the reference's methods: rule, clear, about, tellOf, goThrough, canBe, nextChoice, fill, nextRow, load, isSuch ===== -/
def JM_rule_182 (S : rr_T) (x1 : Int32) (x2 : Int32) (x3 : Int32) (x4 : Int32) (a2 : Unit) : Option (Int32 × rr_T) :=
  if (S.1 8) = 6 then
  some (((-104), S))
else
  if inb (S.1 8) 6 then
    rr_l (pA S 6 ((S.1 8)) x1) (fun S3 =>
      if inb (S3.1 8) 6 then
      rr_l (pA S3 7 ((S3.1 8)) x2) (fun S4 =>
        if inb (S4.1 8) 6 then
        rr_l (pA S4 8 ((S4.1 8)) x3) (fun S5 =>
          if inb (S5.1 8) 6 then
          rr_l (pA S5 9 ((S5.1 8)) x4) (fun S6 =>
            rr_l (pI S6 8 (((S6.1 8) + 1))) (fun S7 =>
            (fM_changed S7).bind (fun S8 =>
            some ((((S8.1 8) - 1), S8)))))
        else none)
      else none)
    else none)
  else none
set_option maxRecDepth 20000 in
theorem tM_rule_182 {l : Launch} {G : rr_G} (S : rr_T) (x1 : Int32) (x2 : Int32) (x3 : Int32) (x4 : Int32) (a2 : Unit) : RR l G mX11_rule 2 44 fxA rvIS (fun q => mw q.2) z0 z0 0 0 182 [(0, .ref 0), (1, .int x1), (2, .int x2), (3, .int x3), (4, .int x4)] [] (mw S) (JM_rule_182 S x1 x2 x3 x4 a2) := by
  unfold JM_rule_182
  refine rr_aload_n dX11_rule_182 rfl 0 rfl ?_
  refine rr_get (v := .int (S.1 8)) cl11 k11_153 (Nat.le_of_ble_eq_true rfl) rfl rfl dX11_rule_183 ?_
  refine rr_bipush (v := 6) dX11_rule_186 (by decide) ?_
  refine rr_icmp_ne (tgt := 194) dX11_rule_188 (by decide) (fun _ => ?_) (fun _ => ?_)
  · refine rr_aload_n dX11_rule_194 rfl 0 rfl ?_
    refine rr_get (v := .ref 6) cl11 k11_29 (Nat.le_of_ble_eq_true rfl) rfl rfl dX11_rule_195 ?_
    refine rr_aload_n dX11_rule_198 rfl 0 rfl ?_
    refine rr_get (v := .int (S.1 8)) cl11 k11_153 (Nat.le_of_ble_eq_true rfl) rfl rfl dX11_rule_199 ?_
    refine rr_iload_n dX11_rule_202 rfl 1 rfl ?_
    refine rr_if (fun z => ?_)
    refine rr_iast (len := 6) rfl (inb_in z) dX11_rule_203 (ma6 S ((S.1 8)) x1) ?_
    refine rr_letS (W := mw) (fun S3 => ?_)
    refine rr_aload_n dX11_rule_204 rfl 0 rfl ?_
    refine rr_get (v := .ref 7) cl11 k11_32 (Nat.le_of_ble_eq_true rfl) rfl rfl dX11_rule_205 ?_
    refine rr_aload_n dX11_rule_208 rfl 0 rfl ?_
    refine rr_get (v := .int (S3.1 8)) cl11 k11_153 (Nat.le_of_ble_eq_true rfl) rfl rfl dX11_rule_209 ?_
    refine rr_iload_n dX11_rule_212 rfl 2 rfl ?_
    refine rr_if (fun z => ?_)
    refine rr_iast (len := 6) rfl (inb_in z) dX11_rule_213 (ma7 S3 ((S3.1 8)) x2) ?_
    refine rr_letS (W := mw) (fun S4 => ?_)
    refine rr_aload_n dX11_rule_214 rfl 0 rfl ?_
    refine rr_get (v := .ref 8) cl11 k11_35 (Nat.le_of_ble_eq_true rfl) rfl rfl dX11_rule_215 ?_
    refine rr_aload_n dX11_rule_218 rfl 0 rfl ?_
    refine rr_get (v := .int (S4.1 8)) cl11 k11_153 (Nat.le_of_ble_eq_true rfl) rfl rfl dX11_rule_219 ?_
    refine rr_iload_n dX11_rule_222 rfl 3 rfl ?_
    refine rr_if (fun z => ?_)
    refine rr_iast (len := 6) rfl (inb_in z) dX11_rule_223 (ma8 S4 ((S4.1 8)) x3) ?_
    refine rr_letS (W := mw) (fun S5 => ?_)
    refine rr_aload_n dX11_rule_224 rfl 0 rfl ?_
    refine rr_get (v := .ref 9) cl11 k11_38 (Nat.le_of_ble_eq_true rfl) rfl rfl dX11_rule_225 ?_
    refine rr_aload_n dX11_rule_228 rfl 0 rfl ?_
    refine rr_get (v := .int (S5.1 8)) cl11 k11_153 (Nat.le_of_ble_eq_true rfl) rfl rfl dX11_rule_229 ?_
    refine rr_iload dX11_rule_232 4 rfl ?_
    refine rr_if (fun z => ?_)
    refine rr_iast (len := 6) rfl (inb_in z) dX11_rule_234 (ma9 S5 ((S5.1 8)) x4) ?_
    refine rr_letS (W := mw) (fun S6 => ?_)
    refine rr_aload_n dX11_rule_235 rfl 0 rfl ?_
    refine rr_dup dX11_rule_236 rfl ?_
    refine rr_get (v := .int (S6.1 8)) cl11 k11_153 (Nat.le_of_ble_eq_true rfl) rfl rfl dX11_rule_237 ?_
    refine rr_iconst (v := 1) dX11_rule_240 (by decide) ?_
    refine rr_iadd dX11_rule_241 ?_
    refine rr_put cl11 k11_153 (Nat.le_of_ble_eq_true rfl) rfl rfl rfl rfl (Nat.le_of_ble_eq_true rfl) dX11_rule_242 (mp8 S6 (((S6.1 8) + 1))) ?_
    refine rr_letS (W := mw) (fun S7 => ?_)
    refine rr_aload_n dX11_rule_245 rfl 0 rfl ?_
    refine rr_vs (W := mw) (As := []) (rest := []) (tM_changed S7 ) v11_140 rfl rfl ⟨Nat.le_of_ble_eq_true rfl, Nat.le_of_ble_eq_true rfl⟩ (fun _ z => z) rfl rfl (Nat.le_of_ble_eq_true rfl) rfl dX11_rule_246 (fun S8 => ?_)
    refine rr_aload_n dX11_rule_249 rfl 0 rfl ?_
    refine rr_get (v := .int (S8.1 8)) cl11 k11_153 (Nat.le_of_ble_eq_true rfl) rfl rfl dX11_rule_250 ?_
    refine rr_iconst (v := 1) dX11_rule_253 (by decide) ?_
    refine rr_isub dX11_rule_254 ?_
    exact rr_iret dX11_rule_255 rfl rfl rfl rfl rfl
  · refine rr_bipush (v := (-104)) dX11_rule_191 (by decide) ?_
    exact rr_iret dX11_rule_193 rfl rfl rfl rfl rfl
def JM_rule_174 (S : rr_T) (x1 : Int32) (x2 : Int32) (x3 : Int32) (x4 : Int32) (a14 : Int32) : Option (Int32 × rr_T) :=
  if a14 = 0 then
  some (((-102), S))
else
  JM_rule_182 S x1 x2 x3 x4 ()
set_option maxRecDepth 20000 in
theorem tM_rule_174 {l : Launch} {G : rr_G} (S : rr_T) (x1 : Int32) (x2 : Int32) (x3 : Int32) (x4 : Int32) (a14 : Int32) : RR l G mX11_rule 2 44 fxA rvIS (fun q => mw q.2) z0 z0 0 0 174 [(0, .ref 0), (1, .int x1), (2, .int x2), (3, .int x3), (4, .int x4), (6, .int a14)] [] (mw S) (JM_rule_174 S x1 x2 x3 x4 a14) := by
  unfold JM_rule_174
  refine rr_iload dX11_rule_174 5 rfl ?_
  refine rr_if_ne (tgt := 182) dX11_rule_176 (by decide) (fun _ => ?_) (fun _ => ?_)
  · refine rr_sub [0, 1, 2, 3, 4] rfl ?_
    exact tM_rule_182 S x1 x2 x3 x4 ()
  · refine rr_bipush (v := (-102)) dX11_rule_179 (by decide) ?_
    exact rr_iret dX11_rule_181 rfl rfl rfl rfl rfl
def JM_rule_151 (S : rr_T) (x1 : Int32) (x2 : Int32) (x3 : Int32) (x4 : Int32) (a13 : Int32) (a16 : Unit) : Option (Int32 × rr_T) :=
  if a13 = 0 then
  JM_rule_174 S x1 x2 x3 x4 0
else
  (fM_isSort S x2 x4 1).bind (fun r17 =>
    if r17 = 0 then
    JM_rule_174 S x1 x2 x3 x4 0
  else
    JM_rule_174 S x1 x2 x3 x4 1)
set_option maxRecDepth 20000 in
theorem tM_rule_151 {l : Launch} {G : rr_G} (S : rr_T) (x1 : Int32) (x2 : Int32) (x3 : Int32) (x4 : Int32) (a13 : Int32) (a16 : Unit) : RR l G mX11_rule 2 44 fxA rvIS (fun q => mw q.2) z0 z0 0 0 151 [(0, .ref 0), (1, .int x1), (2, .int x2), (3, .int x3), (4, .int x4), (6, .int a13)] [] (mw S) (JM_rule_151 S x1 x2 x3 x4 a13 a16) := by
  unfold JM_rule_151
  refine rr_iload dX11_rule_151 5 rfl ?_
  refine rr_if_eq (tgt := 171) dX11_rule_153 (by decide) (fun _ => ?_) (fun _ => ?_)
  · refine rr_iconst (v := 0) dX11_rule_171 (by decide) ?_
    refine rr_istore (lv' := [(6, .int 0), (0, .ref 0), (1, .int x1), (2, .int x2), (3, .int x3), (4, .int x4)]) dX11_rule_172 (by decide) rfl ?_
    refine rr_sub [1, 2, 3, 4, 5, 0] rfl ?_
    exact tM_rule_174 S x1 x2 x3 x4 0
  · refine rr_aload_n dX11_rule_156 rfl 0 rfl ?_
    refine rr_iload_n dX11_rule_157 rfl 2 rfl ?_
    refine rr_iload dX11_rule_158 4 rfl ?_
    refine rr_iconst (v := 1) dX11_rule_160 (by decide) ?_
    refine rr_vi (As := [.int x2, .int x4, .int 1]) (rest := []) (tM_isSort S x2 x4 1) v11_150 rfl rfl ⟨Nat.le_of_ble_eq_true rfl, Nat.le_of_ble_eq_true rfl⟩ rfl rfl (Nat.le_of_ble_eq_true rfl) rfl dX11_rule_161 (fun r17 => ?_)
    refine rr_if_eq (tgt := 171) dX11_rule_164 (by decide) (fun _ => ?_) (fun _ => ?_)
    · refine rr_iconst (v := 0) dX11_rule_171 (by decide) ?_
      refine rr_istore (lv' := [(6, .int 0), (0, .ref 0), (1, .int x1), (2, .int x2), (3, .int x3), (4, .int x4)]) dX11_rule_172 (by decide) rfl ?_
      refine rr_sub [1, 2, 3, 4, 5, 0] rfl ?_
      exact tM_rule_174 S x1 x2 x3 x4 0
    · refine rr_iconst (v := 1) dX11_rule_167 (by decide) ?_
      refine rr_goto (tgt := 172) dX11_rule_168 (by decide) ?_
      refine rr_istore (lv' := [(6, .int 1), (0, .ref 0), (1, .int x1), (2, .int x2), (3, .int x3), (4, .int x4)]) dX11_rule_172 (by decide) rfl ?_
      refine rr_sub [1, 2, 3, 4, 5, 0] rfl ?_
      exact tM_rule_174 S x1 x2 x3 x4 1
def JM_rule_141 (S : rr_T) (x1 : Int32) (x2 : Int32) (x3 : Int32) (x4 : Int32) (a13 : Int32) (a15 : Unit) : Option (Int32 × rr_T) :=
  if x1 = 4 then
  JM_rule_151 S x1 x2 x3 x4 a13 ()
else
  if x1 = 5 then
    JM_rule_151 S x1 x2 x3 x4 a13 ()
  else
    JM_rule_174 S x1 x2 x3 x4 a13
set_option maxRecDepth 20000 in
theorem tM_rule_141 {l : Launch} {G : rr_G} (S : rr_T) (x1 : Int32) (x2 : Int32) (x3 : Int32) (x4 : Int32) (a13 : Int32) (a15 : Unit) : RR l G mX11_rule 2 44 fxA rvIS (fun q => mw q.2) z0 z0 0 0 141 [(0, .ref 0), (1, .int x1), (2, .int x2), (3, .int x3), (4, .int x4), (6, .int a13)] [] (mw S) (JM_rule_141 S x1 x2 x3 x4 a13 a15) := by
  unfold JM_rule_141
  refine rr_iload_n dX11_rule_141 rfl 1 rfl ?_
  refine rr_iconst (v := 4) dX11_rule_142 (by decide) ?_
  refine rr_icmp_eq (tgt := 151) dX11_rule_143 (by decide) (fun _ => ?_) (fun _ => ?_)
  · exact tM_rule_151 S x1 x2 x3 x4 a13 ()
  · refine rr_iload_n dX11_rule_146 rfl 1 rfl ?_
    refine rr_iconst (v := 5) dX11_rule_147 (by decide) ?_
    refine rr_icmp_ne (tgt := 174) dX11_rule_148 (by decide) (fun _ => ?_) (fun _ => ?_)
    · exact tM_rule_174 S x1 x2 x3 x4 a13
    · exact tM_rule_151 S x1 x2 x3 x4 a13 ()
def JM_rule_98 (S : rr_T) (x1 : Int32) (x2 : Int32) (x3 : Int32) (x4 : Int32) (a1 : Int32) (a13 : Int32) : Option (Int32 × rr_T) :=
  if x1 < 1 then
  JM_rule_141 S x1 x2 x3 x4 a13 ()
else
  if 3 < x1 then
    JM_rule_141 S x1 x2 x3 x4 a13 ()
  else
    if a13 = 0 then
      JM_rule_174 S x1 x2 x3 x4 0
    else
      if a1 = 0 then
        (fM_isSort S x2 x4 0).bind (fun r18 =>
          if r18 = 0 then
          JM_rule_174 S x1 x2 x3 x4 0
        else
          JM_rule_174 S x1 x2 x3 x4 1)
      else
        JM_rule_174 S x1 x2 x3 x4 1
set_option maxRecDepth 20000 in
theorem tM_rule_98 {l : Launch} {G : rr_G} (S : rr_T) (x1 : Int32) (x2 : Int32) (x3 : Int32) (x4 : Int32) (a1 : Int32) (a13 : Int32) : RR l G mX11_rule 2 44 fxA rvIS (fun q => mw q.2) z0 z0 0 0 98 [(0, .ref 0), (1, .int x1), (2, .int x2), (3, .int x3), (4, .int x4), (5, .int a1)] [.int a13] (mw S) (JM_rule_98 S x1 x2 x3 x4 a1 a13) := by
  unfold JM_rule_98
  refine rr_istore (lv' := [(6, .int a13), (0, .ref 0), (1, .int x1), (2, .int x2), (3, .int x3), (4, .int x4), (5, .int a1)]) dX11_rule_98 (by decide) rfl ?_
  refine rr_iload_n dX11_rule_100 rfl 2 rfl ?_
  refine rr_iconst (v := 1) dX11_rule_101 (by decide) ?_
  refine rr_icmp_lt (tgt := 141) dX11_rule_102 (by decide) (fun _ => ?_) (fun _ => ?_)
  · refine rr_sub [1, 2, 3, 4, 5, 0] rfl ?_
    exact tM_rule_141 S x1 x2 x3 x4 a13 ()
  · refine rr_iload_n dX11_rule_105 rfl 2 rfl ?_
    refine rr_iconst (v := 3) dX11_rule_106 (by decide) ?_
    refine rr_icmp_gt (tgt := 141) dX11_rule_107 (by decide) (fun _ => ?_) (fun _ => ?_)
    · refine rr_sub [1, 2, 3, 4, 5, 0] rfl ?_
      exact tM_rule_141 S x1 x2 x3 x4 a13 ()
    · refine rr_iload dX11_rule_110 0 rfl ?_
      refine rr_if_eq (tgt := 135) dX11_rule_112 (by decide) (fun _ => ?_) (fun _ => ?_)
      · refine rr_iconst (v := 0) dX11_rule_135 (by decide) ?_
        refine rr_istore (lv' := [(6, .int 0), (0, .ref 0), (1, .int x1), (2, .int x2), (3, .int x3), (4, .int x4), (5, .int a1)]) dX11_rule_136 (by decide) rfl ?_
        refine rr_goto (tgt := 174) dX11_rule_138 (by decide) ?_
        refine rr_sub [1, 2, 3, 4, 5, 0] rfl ?_
        exact tM_rule_174 S x1 x2 x3 x4 0
      · refine rr_iload dX11_rule_115 6 rfl ?_
        refine rr_if_ne (tgt := 131) dX11_rule_117 (by decide) (fun _ => ?_) (fun _ => ?_)
        · refine rr_iconst (v := 1) dX11_rule_131 (by decide) ?_
          refine rr_goto (tgt := 136) dX11_rule_132 (by decide) ?_
          refine rr_istore (lv' := [(6, .int 1), (0, .ref 0), (1, .int x1), (2, .int x2), (3, .int x3), (4, .int x4), (5, .int a1)]) dX11_rule_136 (by decide) rfl ?_
          refine rr_goto (tgt := 174) dX11_rule_138 (by decide) ?_
          refine rr_sub [1, 2, 3, 4, 5, 0] rfl ?_
          exact tM_rule_174 S x1 x2 x3 x4 1
        · refine rr_aload_n dX11_rule_120 rfl 1 rfl ?_
          refine rr_iload_n dX11_rule_121 rfl 3 rfl ?_
          refine rr_iload dX11_rule_122 5 rfl ?_
          refine rr_iconst (v := 0) dX11_rule_124 (by decide) ?_
          refine rr_vi (As := [.int x2, .int x4, .int 0]) (rest := []) (tM_isSort S x2 x4 0) v11_150 rfl rfl ⟨Nat.le_of_ble_eq_true rfl, Nat.le_of_ble_eq_true rfl⟩ rfl rfl (Nat.le_of_ble_eq_true rfl) rfl dX11_rule_125 (fun r18 => ?_)
          refine rr_if_eq (tgt := 135) dX11_rule_128 (by decide) (fun _ => ?_) (fun _ => ?_)
          · refine rr_iconst (v := 0) dX11_rule_135 (by decide) ?_
            refine rr_istore (lv' := [(6, .int 0), (0, .ref 0), (1, .int x1), (2, .int x2), (3, .int x3), (4, .int x4), (5, .int a1)]) dX11_rule_136 (by decide) rfl ?_
            refine rr_goto (tgt := 174) dX11_rule_138 (by decide) ?_
            refine rr_sub [1, 2, 3, 4, 5, 0] rfl ?_
            exact tM_rule_174 S x1 x2 x3 x4 0
          · refine rr_iconst (v := 1) dX11_rule_131 (by decide) ?_
            refine rr_goto (tgt := 136) dX11_rule_132 (by decide) ?_
            refine rr_istore (lv' := [(6, .int 1), (0, .ref 0), (1, .int x1), (2, .int x2), (3, .int x3), (4, .int x4), (5, .int a1)]) dX11_rule_136 (by decide) rfl ?_
            refine rr_goto (tgt := 174) dX11_rule_138 (by decide) ?_
            refine rr_sub [1, 2, 3, 4, 5, 0] rfl ?_
            exact tM_rule_174 S x1 x2 x3 x4 1
def JM_rule_74 (S : rr_T) (x1 : Int32) (x2 : Int32) (x3 : Int32) (x4 : Int32) (a1 : Int32) (a11 : Unit) : Option (Int32 × rr_T) :=
  (fM_in x1 0 5).bind (fun r12 =>
  if r12 = 0 then
  JM_rule_98 S x1 x2 x3 x4 a1 0
else
  (fM_isSort S x2 x3 0).bind (fun r19 =>
    if r19 = 0 then
    JM_rule_98 S x1 x2 x3 x4 a1 0
  else
    JM_rule_98 S x1 x2 x3 x4 a1 1))
set_option maxRecDepth 20000 in
theorem tM_rule_74 {l : Launch} {G : rr_G} (S : rr_T) (x1 : Int32) (x2 : Int32) (x3 : Int32) (x4 : Int32) (a1 : Int32) (a11 : Unit) : RR l G mX11_rule 2 44 fxA rvIS (fun q => mw q.2) z0 z0 0 0 74 [(0, .ref 0), (1, .int x1), (2, .int x2), (3, .int x3), (4, .int x4), (5, .int a1)] [] (mw S) (JM_rule_74 S x1 x2 x3 x4 a1 a11) := by
  unfold JM_rule_74
  refine rr_iload_n dX11_rule_74 rfl 1 rfl ?_
  refine rr_iconst (v := 0) dX11_rule_75 (by decide) ?_
  refine rr_iconst (v := 5) dX11_rule_76 (by decide) ?_
  refine rr_si (As := [.int x1, .int 0, .int 5]) (rest := []) (tM_in x1 0 5 (mw S)) s11_136 rfl ⟨Nat.le_of_ble_eq_true rfl, Nat.le_of_ble_eq_true rfl⟩ rfl rfl (Nat.le_of_ble_eq_true rfl) rfl dX11_rule_77 (fun r12 => ?_)
  refine rr_if_eq (tgt := 97) dX11_rule_80 (by decide) (fun _ => ?_) (fun _ => ?_)
  · refine rr_iconst (v := 0) dX11_rule_97 (by decide) ?_
    exact tM_rule_98 S x1 x2 x3 x4 a1 0
  · refine rr_aload_n dX11_rule_83 rfl 0 rfl ?_
    refine rr_iload_n dX11_rule_84 rfl 2 rfl ?_
    refine rr_iload_n dX11_rule_85 rfl 3 rfl ?_
    refine rr_iconst (v := 0) dX11_rule_86 (by decide) ?_
    refine rr_vi (As := [.int x2, .int x3, .int 0]) (rest := []) (tM_isSort S x2 x3 0) v11_150 rfl rfl ⟨Nat.le_of_ble_eq_true rfl, Nat.le_of_ble_eq_true rfl⟩ rfl rfl (Nat.le_of_ble_eq_true rfl) rfl dX11_rule_87 (fun r19 => ?_)
    refine rr_if_eq (tgt := 97) dX11_rule_90 (by decide) (fun _ => ?_) (fun _ => ?_)
    · refine rr_iconst (v := 0) dX11_rule_97 (by decide) ?_
      exact tM_rule_98 S x1 x2 x3 x4 a1 0
    · refine rr_iconst (v := 1) dX11_rule_93 (by decide) ?_
      refine rr_goto (tgt := 98) dX11_rule_94 (by decide) ?_
      exact tM_rule_98 S x1 x2 x3 x4 a1 1
def JM_rule_21 (S : rr_T) (x1 : Int32) (x2 : Int32) (x3 : Int32) (x4 : Int32) (a1 : Int32) : Option (Int32 × rr_T) :=
  if x1 = 6 then
  JM_rule_182 S x1 x2 x3 x4 ()
else
  (fM_in x2 0 (((S.1 0) - 1))).bind (fun r9 =>
    if r9 = 0 then
    some (((-101), S))
  else
    (fM_isField S x2 x3).bind (fun r10 =>
      if r10 = 0 then
      some (((-101), S))
    else
      if x1 = 0 then
        JM_rule_74 S x1 x2 x3 x4 a1 ()
      else
        if a1 = 0 then
          (fM_isField S x2 x4).bind (fun r20 =>
            if r20 = 0 then
            some (((-101), S))
          else
            JM_rule_74 S x1 x2 x3 x4 a1 ())
        else
          JM_rule_74 S x1 x2 x3 x4 a1 ()))
set_option maxRecDepth 20000 in
theorem tM_rule_21 {l : Launch} {G : rr_G} (S : rr_T) (x1 : Int32) (x2 : Int32) (x3 : Int32) (x4 : Int32) (a1 : Int32) : RR l G mX11_rule 2 44 fxA rvIS (fun q => mw q.2) z0 z0 0 0 21 [(0, .ref 0), (1, .int x1), (2, .int x2), (3, .int x3), (4, .int x4)] [.int a1] (mw S) (JM_rule_21 S x1 x2 x3 x4 a1) := by
  unfold JM_rule_21
  refine rr_istore (lv' := [(5, .int a1), (0, .ref 0), (1, .int x1), (2, .int x2), (3, .int x3), (4, .int x4)]) dX11_rule_21 (by decide) rfl ?_
  refine rr_iload_n dX11_rule_23 rfl 2 rfl ?_
  refine rr_bipush (v := 6) dX11_rule_24 (by decide) ?_
  refine rr_icmp_eq (tgt := 182) dX11_rule_26 (by decide) (fun _ => ?_) (fun _ => ?_)
  · refine rr_sub [1, 2, 3, 4, 5] rfl ?_
    exact tM_rule_182 S x1 x2 x3 x4 ()
  · refine rr_iload_n dX11_rule_29 rfl 3 rfl ?_
    refine rr_iconst (v := 0) dX11_rule_30 (by decide) ?_
    refine rr_aload_n dX11_rule_31 rfl 1 rfl ?_
    refine rr_get (v := .int (S.1 0)) cl11 k11_133 (Nat.le_of_ble_eq_true rfl) rfl rfl dX11_rule_32 ?_
    refine rr_iconst (v := 1) dX11_rule_35 (by decide) ?_
    refine rr_isub dX11_rule_36 ?_
    refine rr_si (As := [.int x2, .int 0, .int ((S.1 0) - 1)]) (rest := []) (tM_in x2 0 (((S.1 0) - 1)) (mw S)) s11_136 rfl ⟨Nat.le_of_ble_eq_true rfl, Nat.le_of_ble_eq_true rfl⟩ rfl rfl (Nat.le_of_ble_eq_true rfl) rfl dX11_rule_37 (fun r9 => ?_)
    refine rr_if_eq (tgt := 71) dX11_rule_40 (by decide) (fun _ => ?_) (fun _ => ?_)
    · refine rr_bipush (v := (-101)) dX11_rule_71 (by decide) ?_
      exact rr_iret dX11_rule_73 rfl rfl rfl rfl rfl
    · refine rr_aload_n dX11_rule_43 rfl 1 rfl ?_
      refine rr_iload_n dX11_rule_44 rfl 3 rfl ?_
      refine rr_iload_n dX11_rule_45 rfl 4 rfl ?_
      refine rr_vi (As := [.int x2, .int x3]) (rest := []) (tM_isField S x2 x3) v11_146 rfl rfl ⟨Nat.le_of_ble_eq_true rfl, Nat.le_of_ble_eq_true rfl⟩ rfl rfl (Nat.le_of_ble_eq_true rfl) rfl dX11_rule_46 (fun r10 => ?_)
      refine rr_if_eq (tgt := 71) dX11_rule_49 (by decide) (fun _ => ?_) (fun _ => ?_)
      · refine rr_bipush (v := (-101)) dX11_rule_71 (by decide) ?_
        exact rr_iret dX11_rule_73 rfl rfl rfl rfl rfl
      · refine rr_iload_n dX11_rule_52 rfl 2 rfl ?_
        refine rr_if_eq (tgt := 74) dX11_rule_53 (by decide) (fun _ => ?_) (fun _ => ?_)
        · refine rr_sub [1, 2, 3, 4, 5, 0] rfl ?_
          exact tM_rule_74 S x1 x2 x3 x4 a1 ()
        · refine rr_iload dX11_rule_56 0 rfl ?_
          refine rr_if_ne (tgt := 74) dX11_rule_58 (by decide) (fun _ => ?_) (fun _ => ?_)
          · refine rr_sub [1, 2, 3, 4, 5, 0] rfl ?_
            exact tM_rule_74 S x1 x2 x3 x4 a1 ()
          · refine rr_aload_n dX11_rule_61 rfl 1 rfl ?_
            refine rr_iload_n dX11_rule_62 rfl 3 rfl ?_
            refine rr_iload dX11_rule_63 5 rfl ?_
            refine rr_vi (As := [.int x2, .int x4]) (rest := []) (tM_isField S x2 x4) v11_146 rfl rfl ⟨Nat.le_of_ble_eq_true rfl, Nat.le_of_ble_eq_true rfl⟩ rfl rfl (Nat.le_of_ble_eq_true rfl) rfl dX11_rule_65 (fun r20 => ?_)
            refine rr_if_ne (tgt := 74) dX11_rule_68 (by decide) (fun _ => ?_) (fun _ => ?_)
            · refine rr_sub [1, 2, 3, 4, 5, 0] rfl ?_
              exact tM_rule_74 S x1 x2 x3 x4 a1 ()
            · refine rr_bipush (v := (-101)) dX11_rule_71 (by decide) ?_
              exact rr_iret dX11_rule_73 rfl rfl rfl rfl rfl
def JM_rule_10 (S : rr_T) (x1 : Int32) (x2 : Int32) (x3 : Int32) (x4 : Int32) (a21 : Unit) : Option (Int32 × rr_T) :=
  if x4 = (-1) then
  JM_rule_21 S x1 x2 x3 x4 1
else
  JM_rule_21 S x1 x2 x3 x4 0
set_option maxRecDepth 20000 in
theorem tM_rule_10 {l : Launch} {G : rr_G} (S : rr_T) (x1 : Int32) (x2 : Int32) (x3 : Int32) (x4 : Int32) (a21 : Unit) : RR l G mX11_rule 2 44 fxA rvIS (fun q => mw q.2) z0 z0 0 0 10 [(0, .ref 0), (1, .int x1), (2, .int x2), (3, .int x3), (4, .int x4)] [] (mw S) (JM_rule_10 S x1 x2 x3 x4 a21) := by
  unfold JM_rule_10
  refine rr_iload dX11_rule_10 4 rfl ?_
  refine rr_iconst (v := (-1)) dX11_rule_12 (by decide) ?_
  refine rr_icmp_ne (tgt := 20) dX11_rule_13 (by decide) (fun _ => ?_) (fun _ => ?_)
  · refine rr_iconst (v := 0) dX11_rule_20 (by decide) ?_
    exact tM_rule_21 S x1 x2 x3 x4 0
  · refine rr_iconst (v := 1) dX11_rule_16 (by decide) ?_
    refine rr_goto (tgt := 21) dX11_rule_17 (by decide) ?_
    exact tM_rule_21 S x1 x2 x3 x4 1
def fM_rule (S : rr_T) (x1 : Int32) (x2 : Int32) (x3 : Int32) (x4 : Int32) : Option (Int32 × rr_T) :=
  if x1 = 1 then
  JM_rule_10 S x1 x2 x3 x4 ()
else
  if x1 = 2 then
    JM_rule_10 S x1 x2 x3 x4 ()
  else
    JM_rule_21 S x1 x2 x3 x4 0
set_option maxRecDepth 20000 in
theorem tM_rule {l : Launch} {G : rr_G} (S : rr_T) (x1 : Int32) (x2 : Int32) (x3 : Int32) (x4 : Int32) : TT l G mX11_rule 2 44 fxA rvIS (fun q => mw q.2) z0 z0 0 0 [.ref 0, .int x1, .int x2, .int x3, .int x4] (mw S) (fM_rule S x1 x2 x3 x4) := by
  refine TT.by (by decide) (Nat.le_of_ble_eq_true rfl) (lv := [(0, .ref 0), (1, .int x1), (2, .int x2), (3, .int x3), (4, .int x4)]) rfl ?_
  show RR l G mX11_rule 2 44 fxA rvIS (fun q => mw q.2) z0 z0 0 0 0 [(0, .ref 0), (1, .int x1), (2, .int x2), (3, .int x3), (4, .int x4)] [] (mw S) (fM_rule S x1 x2 x3 x4)
  unfold fM_rule
  refine rr_iload_n dX11_rule_0 rfl 1 rfl ?_
  refine rr_iconst (v := 1) dX11_rule_1 (by decide) ?_
  refine rr_icmp_eq (tgt := 10) dX11_rule_2 (by decide) (fun _ => ?_) (fun _ => ?_)
  · exact tM_rule_10 S x1 x2 x3 x4 ()
  · refine rr_iload_n dX11_rule_5 rfl 1 rfl ?_
    refine rr_iconst (v := 2) dX11_rule_6 (by decide) ?_
    refine rr_icmp_ne (tgt := 20) dX11_rule_7 (by decide) (fun _ => ?_) (fun _ => ?_)
    · refine rr_iconst (v := 0) dX11_rule_20 (by decide) ?_
      exact tM_rule_21 S x1 x2 x3 x4 0
    · exact tM_rule_10 S x1 x2 x3 x4 ()
def fM_clear (S : rr_T) : Option (Int32 × rr_T) :=
  rr_l ((S.1 8)) (fun v1 =>
  rr_l (pI S 8 0) (fun S2 =>
  (fM_changed S2).bind (fun S3 =>
  some ((v1, S3)))))
set_option maxRecDepth 20000 in
theorem tM_clear {l : Launch} {G : rr_G} (S : rr_T) : TT l G mX11_clear 1 20 fxA rvIS (fun q => mw q.2) z0 z0 0 0 [.ref 0] (mw S) (fM_clear S) := by
  refine TT.by (by decide) (Nat.le_of_ble_eq_true rfl) (lv := [(0, .ref 0)]) rfl ?_
  show RR l G mX11_clear 1 20 fxA rvIS (fun q => mw q.2) z0 z0 0 0 0 [(0, .ref 0)] [] (mw S) (fM_clear S)
  unfold fM_clear
  refine rr_aload_n dX11_clear_0 rfl 0 rfl ?_
  refine rr_get (v := .int (S.1 8)) cl11 k11_153 (Nat.le_of_ble_eq_true rfl) rfl rfl dX11_clear_1 ?_
  refine rr_letI (fun v1 => ?_)
  refine rr_istore_n (lv' := [(1, .int v1), (0, .ref 0)]) dX11_clear_4 rfl (by decide) rfl ?_
  refine rr_aload_n dX11_clear_5 rfl 1 rfl ?_
  refine rr_iconst (v := 0) dX11_clear_6 (by decide) ?_
  refine rr_put cl11 k11_153 (Nat.le_of_ble_eq_true rfl) rfl rfl rfl rfl (Nat.le_of_ble_eq_true rfl) dX11_clear_7 (mp8 S 0) ?_
  refine rr_letS (W := mw) (fun S2 => ?_)
  refine rr_aload_n dX11_clear_10 rfl 1 rfl ?_
  refine rr_vs (W := mw) (As := []) (rest := []) (tM_changed S2 ) v11_140 rfl rfl ⟨Nat.le_of_ble_eq_true rfl, Nat.le_of_ble_eq_true rfl⟩ (fun _ z => z) rfl rfl (Nat.le_of_ble_eq_true rfl) rfl dX11_clear_11 (fun S3 => ?_)
  refine rr_iload_n dX11_clear_14 rfl 0 rfl ?_
  exact rr_iret dX11_clear_15 rfl rfl rfl rfl rfl
def fM_about (S : rr_T) (x1 : Int32) : Option Int32 :=
  if x1 = 0 then
  some ((S.1 0))
else
  if x1 = 1 then
    some ((S.1 5))
  else
    if x1 = 2 then
      some ((S.1 7))
    else
      if x1 = 3 then
        some ((S.1 8))
      else
        if x1 = 4 then
          some ((S.1 13))
        else
          if x1 = 5 then
            some ((S.1 19))
          else
            (fM_in x1 10 ((9 + (S.1 0)))).bind (fun r1 =>
              if r1 = 0 then
              some (-102)
            else
              if inb (x1 - 10) 4 then
                some ((S.2.1 2 (x1 - 10).toNatClampNeg))
              else none)
set_option maxRecDepth 20000 in
theorem tM_about {l : Launch} {G : rr_G} (S : rr_T) (x1 : Int32) : TT l G mX11_about 1 22 fxA rvI (fun _ => mw S) z0 z0 0 0 [.ref 0, .int x1] (mw S) (fM_about S x1) := by
  refine TT.by (by decide) (Nat.le_of_ble_eq_true rfl) (lv := [(0, .ref 0), (1, .int x1)]) rfl ?_
  show RR l G mX11_about 1 22 fxA rvI (fun _ => mw S) z0 z0 0 0 0 [(0, .ref 0), (1, .int x1)] [] (mw S) (fM_about S x1)
  unfold fM_about
  refine rr_iload_n dX11_about_0 rfl 1 rfl ?_
  refine rr_ite (fun z => ?_) (fun z0 => ?_)
  · refine rr_tableIn (off := 39) (tgt := 40) dX11_about_1 (by rw [z]; decide) (by rw [z]; decide) (by rw [z]; decide) (by decide) ?_
    refine rr_aload_n dX11_about_40 rfl 0 rfl ?_
    refine rr_get (v := .int (S.1 0)) cl11 k11_133 (Nat.le_of_ble_eq_true rfl) rfl rfl dX11_about_41 ?_
    exact rr_iret dX11_about_44 rfl rfl rfl rfl rfl
  · refine rr_ite (fun z => ?_) (fun z1 => ?_)
    · refine rr_tableIn (off := 44) (tgt := 45) dX11_about_1 (by rw [z]; decide) (by rw [z]; decide) (by rw [z]; decide) (by decide) ?_
      refine rr_aload_n dX11_about_45 rfl 0 rfl ?_
      refine rr_get (v := .int (S.1 5)) cl11 k11_143 (Nat.le_of_ble_eq_true rfl) rfl rfl dX11_about_46 ?_
      exact rr_iret dX11_about_49 rfl rfl rfl rfl rfl
    · refine rr_ite (fun z => ?_) (fun z2 => ?_)
      · refine rr_tableIn (off := 49) (tgt := 50) dX11_about_1 (by rw [z]; decide) (by rw [z]; decide) (by rw [z]; decide) (by decide) ?_
        refine rr_aload_n dX11_about_50 rfl 0 rfl ?_
        refine rr_get (v := .int (S.1 7)) cl11 k11_25 (Nat.le_of_ble_eq_true rfl) rfl rfl dX11_about_51 ?_
        exact rr_iret dX11_about_54 rfl rfl rfl rfl rfl
      · refine rr_ite (fun z => ?_) (fun z3 => ?_)
        · refine rr_tableIn (off := 54) (tgt := 55) dX11_about_1 (by rw [z]; decide) (by rw [z]; decide) (by rw [z]; decide) (by decide) ?_
          refine rr_aload_n dX11_about_55 rfl 0 rfl ?_
          refine rr_get (v := .int (S.1 8)) cl11 k11_153 (Nat.le_of_ble_eq_true rfl) rfl rfl dX11_about_56 ?_
          exact rr_iret dX11_about_59 rfl rfl rfl rfl rfl
        · refine rr_ite (fun z => ?_) (fun z4 => ?_)
          · refine rr_tableIn (off := 59) (tgt := 60) dX11_about_1 (by rw [z]; decide) (by rw [z]; decide) (by rw [z]; decide) (by decide) ?_
            refine rr_aload_n dX11_about_60 rfl 0 rfl ?_
            refine rr_get (v := .int (S.1 13)) cl11 k11_156 (Nat.le_of_ble_eq_true rfl) rfl rfl dX11_about_61 ?_
            exact rr_iret dX11_about_64 rfl rfl rfl rfl rfl
          · refine rr_ite (fun z => ?_) (fun z5 => ?_)
            · refine rr_tableIn (off := 64) (tgt := 65) dX11_about_1 (by rw [z]; decide) (by rw [z]; decide) (by rw [z]; decide) (by decide) ?_
              refine rr_aload_n dX11_about_65 rfl 0 rfl ?_
              refine rr_get (v := .int (S.1 19)) cl11 k11_159 (Nat.le_of_ble_eq_true rfl) rfl rfl dX11_about_66 ?_
              exact rr_iret dX11_about_69 rfl rfl rfl rfl rfl
            · refine rr_tableOut (tgt := 70) dX11_about_1 (by have h0 := lv_neT (a := 0) z0 (by decide); have h1 := lv_neT (a := 1) z1 (by decide); have h2 := lv_neT (a := 2) z2 (by decide); have h3 := lv_neT (a := 3) z3 (by decide); have h4 := lv_neT (a := 4) z4 (by decide); have h5 := lv_neT (a := 5) z5 (by decide); omega) (by decide) ?_
              refine rr_iload_n dX11_about_70 rfl 1 rfl ?_
              refine rr_bipush (v := 10) dX11_about_71 (by decide) ?_
              refine rr_bipush (v := 9) dX11_about_73 (by decide) ?_
              refine rr_aload_n dX11_about_75 rfl 0 rfl ?_
              refine rr_get (v := .int (S.1 0)) cl11 k11_133 (Nat.le_of_ble_eq_true rfl) rfl rfl dX11_about_76 ?_
              refine rr_iadd dX11_about_79 ?_
              refine rr_si (As := [.int x1, .int 10, .int (9 + (S.1 0))]) (rest := []) (tM_in x1 10 ((9 + (S.1 0))) (mw S)) s11_136 rfl ⟨Nat.le_of_ble_eq_true rfl, Nat.le_of_ble_eq_true rfl⟩ rfl rfl (Nat.le_of_ble_eq_true rfl) rfl dX11_about_80 (fun r1 => ?_)
              refine rr_if_eq (tgt := 98) dX11_about_83 (by decide) (fun _ => ?_) (fun _ => ?_)
              · refine rr_bipush (v := (-102)) dX11_about_98 (by decide) ?_
                exact rr_iret dX11_about_100 rfl rfl rfl rfl rfl
              · refine rr_aload_n dX11_about_86 rfl 0 rfl ?_
                refine rr_get (v := .ref 2) cl11 k11_13 (Nat.le_of_ble_eq_true rfl) rfl rfl dX11_about_87 ?_
                refine rr_iload_n dX11_about_90 rfl 1 rfl ?_
                refine rr_bipush (v := 10) dX11_about_91 (by decide) ?_
                refine rr_isub dX11_about_93 ?_
                refine rr_if (fun z => ?_)
                refine rr_iald (len := 4) rfl (inb_in z) dX11_about_94 ?_
                refine rr_goto (tgt := 100) dX11_about_95 (by decide) ?_
                exact rr_iret dX11_about_100 rfl rfl rfl rfl rfl
def fM_tellOf (S : rr_T) (x1 : Int32) (x2 : Int32) : Option (Int32 × rr_T) :=
  if x1 = 1 then
  some ((x2, S))
else
  if x2 < 10 then
    if x2 = 0 then
      some (((-1), S))
    else
      some (((x2 - 1), S))
  else
    if inb (S.1 37) 5 then
      rr_l (pA S 27 ((S.1 37)) ((x2 - 10))) (fun S1 =>
        rr_l (pI S1 37 (((S1.1 37) + 1))) (fun S2 =>
        some ((((S2.1 37) - 1), S2))))
    else none
set_option maxRecDepth 20000 in
theorem tM_tellOf {l : Launch} {G : rr_G} (S : rr_T) (x1 : Int32) (x2 : Int32) : TT l G mX11_tellOf 0 0 fxA rvIS (fun q => mw q.2) z0 z0 0 0 [.ref 0, .int x1, .int x2] (mw S) (fM_tellOf S x1 x2) := by
  refine TT.by (by decide) (Nat.le_of_ble_eq_true rfl) (lv := [(0, .ref 0), (1, .int x1), (2, .int x2)]) rfl ?_
  show RR l G mX11_tellOf 0 0 fxA rvIS (fun q => mw q.2) z0 z0 0 0 0 [(0, .ref 0), (1, .int x1), (2, .int x2)] [] (mw S) (fM_tellOf S x1 x2)
  unfold fM_tellOf
  refine rr_iload_n dX11_tellOf_0 rfl 1 rfl ?_
  refine rr_iconst (v := 1) dX11_tellOf_1 (by decide) ?_
  refine rr_icmp_ne (tgt := 7) dX11_tellOf_2 (by decide) (fun _ => ?_) (fun _ => ?_)
  · refine rr_iload_n dX11_tellOf_7 rfl 2 rfl ?_
    refine rr_bipush (v := 10) dX11_tellOf_8 (by decide) ?_
    refine rr_icmp_lt (tgt := 43) dX11_tellOf_10 (by decide) (fun _ => ?_) (fun _ => ?_)
    · refine rr_iload_n dX11_tellOf_43 rfl 2 rfl ?_
      refine rr_if_ne (tgt := 51) dX11_tellOf_44 (by decide) (fun _ => ?_) (fun _ => ?_)
      · refine rr_iload_n dX11_tellOf_51 rfl 2 rfl ?_
        refine rr_iconst (v := 1) dX11_tellOf_52 (by decide) ?_
        refine rr_isub dX11_tellOf_53 ?_
        exact rr_iret dX11_tellOf_54 rfl rfl rfl rfl rfl
      · refine rr_iconst (v := (-1)) dX11_tellOf_47 (by decide) ?_
        refine rr_goto (tgt := 54) dX11_tellOf_48 (by decide) ?_
        exact rr_iret dX11_tellOf_54 rfl rfl rfl rfl rfl
    · refine rr_aload_n dX11_tellOf_13 rfl 0 rfl ?_
      refine rr_get (v := .ref 27) cl11 k11_96 (Nat.le_of_ble_eq_true rfl) rfl rfl dX11_tellOf_14 ?_
      refine rr_aload_n dX11_tellOf_17 rfl 0 rfl ?_
      refine rr_get (v := .int (S.1 37)) cl11 k11_162 (Nat.le_of_ble_eq_true rfl) rfl rfl dX11_tellOf_18 ?_
      refine rr_iload_n dX11_tellOf_21 rfl 2 rfl ?_
      refine rr_bipush (v := 10) dX11_tellOf_22 (by decide) ?_
      refine rr_isub dX11_tellOf_24 ?_
      refine rr_if (fun z => ?_)
      refine rr_iast (len := 5) rfl (inb_in z) dX11_tellOf_25 (ma27 S ((S.1 37)) ((x2 - 10))) ?_
      refine rr_letS (W := mw) (fun S1 => ?_)
      refine rr_aload_n dX11_tellOf_26 rfl 0 rfl ?_
      refine rr_dup dX11_tellOf_27 rfl ?_
      refine rr_get (v := .int (S1.1 37)) cl11 k11_162 (Nat.le_of_ble_eq_true rfl) rfl rfl dX11_tellOf_28 ?_
      refine rr_iconst (v := 1) dX11_tellOf_31 (by decide) ?_
      refine rr_iadd dX11_tellOf_32 ?_
      refine rr_put cl11 k11_162 (Nat.le_of_ble_eq_true rfl) rfl rfl rfl rfl (Nat.le_of_ble_eq_true rfl) dX11_tellOf_33 (mp37 S1 (((S1.1 37) + 1))) ?_
      refine rr_letS (W := mw) (fun S2 => ?_)
      refine rr_aload_n dX11_tellOf_36 rfl 0 rfl ?_
      refine rr_get (v := .int (S2.1 37)) cl11 k11_162 (Nat.le_of_ble_eq_true rfl) rfl rfl dX11_tellOf_37 ?_
      refine rr_iconst (v := 1) dX11_tellOf_40 (by decide) ?_
      refine rr_isub dX11_tellOf_41 ?_
      exact rr_iret dX11_tellOf_42 rfl rfl rfl rfl rfl
  · refine rr_iload_n dX11_tellOf_5 rfl 2 rfl ?_
    exact rr_iret dX11_tellOf_6 rfl rfl rfl rfl rfl
def JM_goThrough_183 (a3 : rr_T) : Option rr_T :=
  rr_l (pI a3 41 (-1)) (fun S4 =>
  some S4)
set_option maxRecDepth 20000 in
theorem tM_goThrough_183 {l : Launch} {G : rr_G} (a3 : rr_T) : RR l G mX11_goThrough 1 22 fxA rvS mw z0 z0 0 0 183 [(0, .ref 0)] [] (mw a3) (JM_goThrough_183 a3) := by
  unfold JM_goThrough_183
  refine rr_aload_n dX11_goThrough_183 rfl 0 rfl ?_
  refine rr_iconst (v := (-1)) dX11_goThrough_184 (by decide) ?_
  refine rr_put cl11 k11_165 (Nat.le_of_ble_eq_true rfl) rfl rfl rfl rfl (Nat.le_of_ble_eq_true rfl) dX11_goThrough_185 (mp41 a3 (-1)) ?_
  refine rr_letS (W := mw) (fun S4 => ?_)
  exact rr_vret dX11_goThrough_188 rfl rfl rfl rfl rfl
def JM_goThrough_102 (a5 : Int32 × Int32 × rr_T) : Option rr_T :=
  if inb ((4 * a5.1) + a5.2.1) 16 then
  rr_l (pI a5.2.2 41 ((a5.2.2.2.1 3 ((4 * a5.1) + a5.2.1).toNatClampNeg))) (fun S6 =>
    if inb ((4 * a5.1) + a5.2.1) 16 then
    rr_l (pI S6 42 ((S6.2.1 4 ((4 * a5.1) + a5.2.1).toNatClampNeg))) (fun S7 =>
      some S7)
  else none)
else none
set_option maxRecDepth 20000 in
theorem tM_goThrough_102 {l : Launch} {G : rr_G} (a5 : Int32 × Int32 × rr_T) : RR l G mX11_goThrough 1 22 fxA rvS mw z0 z0 0 0 102 [(0, .ref 0), (4, .int a5.1), (5, .int a5.2.1)] [] (mw a5.2.2) (JM_goThrough_102 a5) := by
  unfold JM_goThrough_102
  refine rr_aload_n dX11_goThrough_102 rfl 0 rfl ?_
  refine rr_aload_n dX11_goThrough_103 rfl 0 rfl ?_
  refine rr_get (v := .ref 3) cl11 k11_16 (Nat.le_of_ble_eq_true rfl) rfl rfl dX11_goThrough_104 ?_
  refine rr_iconst (v := 4) dX11_goThrough_107 (by decide) ?_
  refine rr_iload dX11_goThrough_108 1 rfl ?_
  refine rr_imul dX11_goThrough_110 ?_
  refine rr_iload dX11_goThrough_111 2 rfl ?_
  refine rr_iadd dX11_goThrough_113 ?_
  refine rr_if (fun z => ?_)
  refine rr_iald (len := 16) rfl (inb_in z) dX11_goThrough_114 ?_
  refine rr_put cl11 k11_165 (Nat.le_of_ble_eq_true rfl) rfl rfl rfl rfl (Nat.le_of_ble_eq_true rfl) dX11_goThrough_115 (mp41 a5.2.2 ((a5.2.2.2.1 3 ((4 * a5.1) + a5.2.1).toNatClampNeg))) ?_
  refine rr_letS (W := mw) (fun S6 => ?_)
  refine rr_aload_n dX11_goThrough_118 rfl 0 rfl ?_
  refine rr_aload_n dX11_goThrough_119 rfl 0 rfl ?_
  refine rr_get (v := .ref 4) cl11 k11_19 (Nat.le_of_ble_eq_true rfl) rfl rfl dX11_goThrough_120 ?_
  refine rr_iconst (v := 4) dX11_goThrough_123 (by decide) ?_
  refine rr_iload dX11_goThrough_124 1 rfl ?_
  refine rr_imul dX11_goThrough_126 ?_
  refine rr_iload dX11_goThrough_127 2 rfl ?_
  refine rr_iadd dX11_goThrough_129 ?_
  refine rr_if (fun z => ?_)
  refine rr_iald (len := 16) rfl (inb_in z) dX11_goThrough_130 ?_
  refine rr_put cl11 k11_168 (Nat.le_of_ble_eq_true rfl) rfl rfl rfl rfl (Nat.le_of_ble_eq_true rfl) dX11_goThrough_131 (mp42 S6 ((S6.2.1 4 ((4 * a5.1) + a5.2.1).toNatClampNeg))) ?_
  refine rr_letS (W := mw) (fun S7 => ?_)
  exact rr_vret dX11_goThrough_134 rfl rfl rfl rfl rfl
def LM_goThrough_85 (x1 : Int32) (rec66 : (Int32 × Int32 × rr_T) → Option rr_T) (a8 : Int32 × Int32 × rr_T) (v9 : Int32) (rec85 : (Int32 × Int32 × rr_T) → Option rr_T) (a10 : Int32 × Int32 × rr_T) : Option rr_T :=
  if inb v9 4 then
  if (a10.2.2.2.1 2 v9.toNatClampNeg) ≤ a10.2.1 then
    rec66 (a10.1, (a8.2.1 + 1), a10.2.2)
  else
    if a10.1 = x1 then
      JM_goThrough_102 (v9, a10.2.1, a10.2.2)
    else
      if inb ((4 * v9) + a10.2.1) 16 then
        if inb a10.1 41 then
          (fM_tellOf a10.2.2 ((a10.2.2.2.1 3 ((4 * v9) + a10.2.1).toNatClampNeg)) ((a10.2.2.2.1 26 a10.1.toNatClampNeg))).bind (fun q11 =>
            if inb ((4 * a8.2.1) + a10.2.1) 20 then
            rr_l (pA q11.2 29 (((4 * a8.2.1) + a10.2.1)) q11.1) (fun S12 =>
              rec85 ((a10.1 + 1), (a10.2.1 + 1), S12))
          else none)
        else none
      else none
else none
set_option maxRecDepth 20000 in
theorem tM_goThrough_85 {l : Launch} {G : rr_G} (x1 : Int32) (rec66 : (Int32 × Int32 × rr_T) → Option rr_T) (a8 : Int32 × Int32 × rr_T) (v9 : Int32) (hrec66 : ∀ a : Int32 × Int32 × rr_T, RR l G mX11_goThrough 1 22 fxA rvS mw z0 z0 0 0 66 [(0, .ref 0), (1, .int x1), (2, .int a.1), (3, .int a.2.1)] [] (mw a.2.2) (rec66 a)) : ∀ (n : Nat) (a : Int32 × Int32 × rr_T), RR l G mX11_goThrough 1 22 fxA rvS mw z0 z0 0 0 85 [(0, .ref 0), (1, .int x1), (2, .int a.1), (3, .int a8.2.1), (4, .int v9), (5, .int a.2.1)] [] (mw a.2.2) (rr_loop n (LM_goThrough_85 x1 rec66 a8 v9) a) := by
  refine rr_lp (α := Int32 × Int32 × rr_T) 85 (fun a => [(0, .ref 0), (1, .int x1), (2, .int a.1), (3, .int a8.2.1), (4, .int v9), (5, .int a.2.1)]) (fun a => (mw a.2.2)) (fun rec85 hrec85 a10 => ?_)
  show RR l G mX11_goThrough 1 22 fxA rvS mw z0 z0 0 0 85 [(0, .ref 0), (1, .int x1), (2, .int a10.1), (3, .int a8.2.1), (4, .int v9), (5, .int a10.2.1)] [] (mw a10.2.2) (LM_goThrough_85 x1 rec66 a8 v9 rec85 a10)
  unfold LM_goThrough_85
  refine rr_iload dX11_goThrough_85 5 rfl ?_
  refine rr_aload_n dX11_goThrough_87 rfl 0 rfl ?_
  refine rr_get (v := .ref 2) cl11 k11_13 (Nat.le_of_ble_eq_true rfl) rfl rfl dX11_goThrough_88 ?_
  refine rr_iload dX11_goThrough_91 4 rfl ?_
  refine rr_if (fun z => ?_)
  refine rr_iald (len := 4) rfl (inb_in z) dX11_goThrough_93 ?_
  refine rr_icmp_ge (tgt := 177) dX11_goThrough_94 (by decide) (fun _ => ?_) (fun _ => ?_)
  · refine rr_iinc (lv' := [(3, .int (a8.2.1 + 1)), (0, .ref 0), (1, .int x1), (2, .int a10.1), (4, .int v9), (5, .int a10.2.1)]) dX11_goThrough_177 3 rfl (by decide) rfl ?_
    refine rr_goto (tgt := 66) dX11_goThrough_180 (by decide) ?_
    refine rr_sub [1, 2, 3, 0] rfl ?_
    exact hrec66 (a10.1, (a8.2.1 + 1), a10.2.2)
  · refine rr_iload_n dX11_goThrough_97 rfl 2 rfl ?_
    refine rr_iload_n dX11_goThrough_98 rfl 1 rfl ?_
    refine rr_icmp_ne (tgt := 135) dX11_goThrough_99 (by decide) (fun _ => ?_) (fun _ => ?_)
    · refine rr_aload_n dX11_goThrough_135 rfl 0 rfl ?_
      refine rr_get (v := .ref 29) cl11 k11_102 (Nat.le_of_ble_eq_true rfl) rfl rfl dX11_goThrough_136 ?_
      refine rr_iconst (v := 4) dX11_goThrough_139 (by decide) ?_
      refine rr_iload_n dX11_goThrough_140 rfl 3 rfl ?_
      refine rr_imul dX11_goThrough_141 ?_
      refine rr_iload dX11_goThrough_142 5 rfl ?_
      refine rr_iadd dX11_goThrough_144 ?_
      refine rr_aload_n dX11_goThrough_145 rfl 0 rfl ?_
      refine rr_aload_n dX11_goThrough_146 rfl 0 rfl ?_
      refine rr_get (v := .ref 3) cl11 k11_16 (Nat.le_of_ble_eq_true rfl) rfl rfl dX11_goThrough_147 ?_
      refine rr_iconst (v := 4) dX11_goThrough_150 (by decide) ?_
      refine rr_iload dX11_goThrough_151 4 rfl ?_
      refine rr_imul dX11_goThrough_153 ?_
      refine rr_iload dX11_goThrough_154 5 rfl ?_
      refine rr_iadd dX11_goThrough_156 ?_
      refine rr_if (fun z => ?_)
      refine rr_iald (len := 16) rfl (inb_in z) dX11_goThrough_157 ?_
      refine rr_aload_n dX11_goThrough_158 rfl 0 rfl ?_
      refine rr_get (v := .ref 26) cl11 k11_93 (Nat.le_of_ble_eq_true rfl) rfl rfl dX11_goThrough_159 ?_
      refine rr_iload_n dX11_goThrough_162 rfl 2 rfl ?_
      refine rr_if (fun z => ?_)
      refine rr_iald (len := 41) rfl (inb_in z) dX11_goThrough_163 ?_
      refine rr_vis (W := mw) (As := [.int (a10.2.2.2.1 3 ((4 * v9) + a10.2.1).toNatClampNeg), .int (a10.2.2.2.1 26 a10.1.toNatClampNeg)]) (rest := [.int ((4 * a8.2.1) + a10.2.1), .ref 29]) (tM_tellOf a10.2.2 ((a10.2.2.2.1 3 ((4 * v9) + a10.2.1).toNatClampNeg)) ((a10.2.2.2.1 26 a10.1.toNatClampNeg))) v11_171 rfl rfl ⟨Nat.le_of_ble_eq_true rfl, Nat.le_of_ble_eq_true rfl⟩ (fun _ z => z) rfl rfl (Nat.le_of_ble_eq_true rfl) rfl dX11_goThrough_164 (fun q11 => ?_)
      refine rr_if (fun z => ?_)
      refine rr_iast (len := 20) rfl (inb_in z) dX11_goThrough_167 (ma29 q11.2 (((4 * a8.2.1) + a10.2.1)) q11.1) ?_
      refine rr_letS (W := mw) (fun S12 => ?_)
      refine rr_iinc (lv' := [(2, .int (a10.1 + 1)), (0, .ref 0), (1, .int x1), (3, .int a8.2.1), (4, .int v9), (5, .int a10.2.1)]) dX11_goThrough_168 2 rfl (by decide) rfl ?_
      refine rr_iinc (lv' := [(5, .int (a10.2.1 + 1)), (2, .int (a10.1 + 1)), (0, .ref 0), (1, .int x1), (3, .int a8.2.1), (4, .int v9)]) dX11_goThrough_171 5 rfl (by decide) rfl ?_
      refine rr_goto (tgt := 85) dX11_goThrough_174 (by decide) ?_
      refine rr_sub [2, 3, 1, 4, 5, 0] rfl ?_
      exact hrec85 ((a10.1 + 1), (a10.2.1 + 1), S12)
    · refine rr_sub [0, 4, 5] rfl ?_
      exact tM_goThrough_102 (v9, a10.2.1, a10.2.2)
def LM_goThrough_66 (x1 : Int32) (rec66 : (Int32 × Int32 × rr_T) → Option rr_T) (a8 : Int32 × Int32 × rr_T) : Option rr_T :=
  if (a8.2.2.1 37) ≤ a8.2.1 then
  JM_goThrough_183 a8.2.2
else
  if inb a8.2.1 5 then
    rr_l ((a8.2.2.2.1 27 a8.2.1.toNatClampNeg)) (fun v9 =>
      rr_loop FU (LM_goThrough_85 x1 rec66 a8 v9) (a8.1, 0, a8.2.2))
  else none
set_option maxRecDepth 20000 in
theorem tM_goThrough_66 {l : Launch} {G : rr_G} (x1 : Int32) : ∀ (n : Nat) (a : Int32 × Int32 × rr_T), RR l G mX11_goThrough 1 22 fxA rvS mw z0 z0 0 0 66 [(0, .ref 0), (1, .int x1), (2, .int a.1), (3, .int a.2.1)] [] (mw a.2.2) (rr_loop n (LM_goThrough_66 x1) a) := by
  refine rr_lp (α := Int32 × Int32 × rr_T) 66 (fun a => [(0, .ref 0), (1, .int x1), (2, .int a.1), (3, .int a.2.1)]) (fun a => (mw a.2.2)) (fun rec66 hrec66 a8 => ?_)
  show RR l G mX11_goThrough 1 22 fxA rvS mw z0 z0 0 0 66 [(0, .ref 0), (1, .int x1), (2, .int a8.1), (3, .int a8.2.1)] [] (mw a8.2.2) (LM_goThrough_66 x1 rec66 a8)
  unfold LM_goThrough_66
  refine rr_iload_n dX11_goThrough_66 rfl 3 rfl ?_
  refine rr_aload_n dX11_goThrough_67 rfl 0 rfl ?_
  refine rr_get (v := .int (a8.2.2.1 37)) cl11 k11_162 (Nat.le_of_ble_eq_true rfl) rfl rfl dX11_goThrough_68 ?_
  refine rr_icmp_ge (tgt := 183) dX11_goThrough_71 (by decide) (fun _ => ?_) (fun _ => ?_)
  · refine rr_sub [0] rfl ?_
    exact tM_goThrough_183 a8.2.2
  · refine rr_aload_n dX11_goThrough_74 rfl 0 rfl ?_
    refine rr_get (v := .ref 27) cl11 k11_96 (Nat.le_of_ble_eq_true rfl) rfl rfl dX11_goThrough_75 ?_
    refine rr_iload_n dX11_goThrough_78 rfl 3 rfl ?_
    refine rr_if (fun z => ?_)
    refine rr_iald (len := 5) rfl (inb_in z) dX11_goThrough_79 ?_
    refine rr_letI (fun v9 => ?_)
    refine rr_istore (lv' := [(4, .int v9), (0, .ref 0), (1, .int x1), (2, .int a8.1), (3, .int a8.2.1)]) dX11_goThrough_80 (by decide) rfl ?_
    refine rr_iconst (v := 0) dX11_goThrough_82 (by decide) ?_
    refine rr_istore (lv' := [(5, .int 0), (4, .int v9), (0, .ref 0), (1, .int x1), (2, .int a8.1), (3, .int a8.2.1)]) dX11_goThrough_83 (by decide) rfl ?_
    refine rr_sub [2, 3, 4, 5, 1, 0] rfl ?_
    exact tM_goThrough_85 x1 rec66 a8 v9 hrec66 FU (a8.1, 0, a8.2.2)
def JM_goThrough_64 (x1 : Int32) (a2 : Int32 × rr_T) : Option rr_T :=
  rr_loop FU (LM_goThrough_66 x1) (a2.1, 0, a2.2)
set_option maxRecDepth 20000 in
theorem tM_goThrough_64 {l : Launch} {G : rr_G} (x1 : Int32) (a2 : Int32 × rr_T) : RR l G mX11_goThrough 1 22 fxA rvS mw z0 z0 0 0 64 [(0, .ref 0), (1, .int x1), (2, .int a2.1)] [] (mw a2.2) (JM_goThrough_64 x1 a2) := by
  unfold JM_goThrough_64
  refine rr_iconst (v := 0) dX11_goThrough_64 (by decide) ?_
  refine rr_istore_n (lv' := [(3, .int 0), (0, .ref 0), (1, .int x1), (2, .int a2.1)]) dX11_goThrough_65 rfl (by decide) rfl ?_
  refine rr_sub [1, 2, 3, 0] rfl ?_
  exact tM_goThrough_66 x1 FU (a2.1, 0, a2.2)
def JM_goThrough_22 (a13 : Int32 × rr_T) : Option rr_T :=
  rr_l (pI a13.2 41 0) (fun S14 =>
  if inb a13.1 2 then
  rr_l (pI S14 42 ((S14.2.1 5 a13.1.toNatClampNeg))) (fun S15 =>
    some S15)
else none)
set_option maxRecDepth 20000 in
theorem tM_goThrough_22 {l : Launch} {G : rr_G} (a13 : Int32 × rr_T) : RR l G mX11_goThrough 1 22 fxA rvS mw z0 z0 0 0 22 [(0, .ref 0), (3, .int a13.1)] [] (mw a13.2) (JM_goThrough_22 a13) := by
  unfold JM_goThrough_22
  refine rr_aload_n dX11_goThrough_22 rfl 0 rfl ?_
  refine rr_iconst (v := 0) dX11_goThrough_23 (by decide) ?_
  refine rr_put cl11 k11_165 (Nat.le_of_ble_eq_true rfl) rfl rfl rfl rfl (Nat.le_of_ble_eq_true rfl) dX11_goThrough_24 (mp41 a13.2 0) ?_
  refine rr_letS (W := mw) (fun S14 => ?_)
  refine rr_aload_n dX11_goThrough_27 rfl 0 rfl ?_
  refine rr_aload_n dX11_goThrough_28 rfl 0 rfl ?_
  refine rr_get (v := .ref 5) cl11 k11_22 (Nat.le_of_ble_eq_true rfl) rfl rfl dX11_goThrough_29 ?_
  refine rr_iload_n dX11_goThrough_32 rfl 1 rfl ?_
  refine rr_if (fun z => ?_)
  refine rr_iald (len := 2) rfl (inb_in z) dX11_goThrough_33 ?_
  refine rr_put cl11 k11_168 (Nat.le_of_ble_eq_true rfl) rfl rfl rfl rfl (Nat.le_of_ble_eq_true rfl) dX11_goThrough_34 (mp42 S14 ((S14.2.1 5 a13.1.toNatClampNeg))) ?_
  refine rr_letS (W := mw) (fun S15 => ?_)
  exact rr_vret dX11_goThrough_37 rfl rfl rfl rfl rfl
def LM_goThrough_9 (x1 : Int32) (rec9 : (Int32 × Int32 × rr_T) → Option rr_T) (a16 : Int32 × Int32 × rr_T) : Option rr_T :=
  if (a16.2.2.1 5) ≤ a16.2.1 then
  JM_goThrough_64 x1 (a16.1, a16.2.2)
else
  if a16.1 = x1 then
    JM_goThrough_22 (a16.2.1, a16.2.2)
  else
    if inb a16.1 41 then
      (fM_tellOf a16.2.2 0 ((a16.2.2.2.1 26 a16.1.toNatClampNeg))).bind (fun q17 =>
        if inb a16.2.1 2 then
        rr_l (pA q17.2 28 a16.2.1 q17.1) (fun S18 =>
          rec9 ((a16.1 + 1), (a16.2.1 + 1), S18))
      else none)
    else none
set_option maxRecDepth 20000 in
theorem tM_goThrough_9 {l : Launch} {G : rr_G} (x1 : Int32) : ∀ (n : Nat) (a : Int32 × Int32 × rr_T), RR l G mX11_goThrough 1 22 fxA rvS mw z0 z0 0 0 9 [(0, .ref 0), (1, .int x1), (2, .int a.1), (3, .int a.2.1)] [] (mw a.2.2) (rr_loop n (LM_goThrough_9 x1) a) := by
  refine rr_lp (α := Int32 × Int32 × rr_T) 9 (fun a => [(0, .ref 0), (1, .int x1), (2, .int a.1), (3, .int a.2.1)]) (fun a => (mw a.2.2)) (fun rec9 hrec9 a16 => ?_)
  show RR l G mX11_goThrough 1 22 fxA rvS mw z0 z0 0 0 9 [(0, .ref 0), (1, .int x1), (2, .int a16.1), (3, .int a16.2.1)] [] (mw a16.2.2) (LM_goThrough_9 x1 rec9 a16)
  unfold LM_goThrough_9
  refine rr_iload_n dX11_goThrough_9 rfl 3 rfl ?_
  refine rr_aload_n dX11_goThrough_10 rfl 0 rfl ?_
  refine rr_get (v := .int (a16.2.2.1 5)) cl11 k11_143 (Nat.le_of_ble_eq_true rfl) rfl rfl dX11_goThrough_11 ?_
  refine rr_icmp_ge (tgt := 64) dX11_goThrough_14 (by decide) (fun _ => ?_) (fun _ => ?_)
  · refine rr_sub [0, 1, 2] rfl ?_
    exact tM_goThrough_64 x1 (a16.1, a16.2.2)
  · refine rr_iload_n dX11_goThrough_17 rfl 2 rfl ?_
    refine rr_iload_n dX11_goThrough_18 rfl 1 rfl ?_
    refine rr_icmp_ne (tgt := 38) dX11_goThrough_19 (by decide) (fun _ => ?_) (fun _ => ?_)
    · refine rr_aload_n dX11_goThrough_38 rfl 0 rfl ?_
      refine rr_get (v := .ref 28) cl11 k11_99 (Nat.le_of_ble_eq_true rfl) rfl rfl dX11_goThrough_39 ?_
      refine rr_iload_n dX11_goThrough_42 rfl 3 rfl ?_
      refine rr_aload_n dX11_goThrough_43 rfl 0 rfl ?_
      refine rr_iconst (v := 0) dX11_goThrough_44 (by decide) ?_
      refine rr_aload_n dX11_goThrough_45 rfl 0 rfl ?_
      refine rr_get (v := .ref 26) cl11 k11_93 (Nat.le_of_ble_eq_true rfl) rfl rfl dX11_goThrough_46 ?_
      refine rr_iload_n dX11_goThrough_49 rfl 2 rfl ?_
      refine rr_if (fun z => ?_)
      refine rr_iald (len := 41) rfl (inb_in z) dX11_goThrough_50 ?_
      refine rr_vis (W := mw) (As := [.int 0, .int (a16.2.2.2.1 26 a16.1.toNatClampNeg)]) (rest := [.int a16.2.1, .ref 28]) (tM_tellOf a16.2.2 0 ((a16.2.2.2.1 26 a16.1.toNatClampNeg))) v11_171 rfl rfl ⟨Nat.le_of_ble_eq_true rfl, Nat.le_of_ble_eq_true rfl⟩ (fun _ z => z) rfl rfl (Nat.le_of_ble_eq_true rfl) rfl dX11_goThrough_51 (fun q17 => ?_)
      refine rr_if (fun z => ?_)
      refine rr_iast (len := 2) rfl (inb_in z) dX11_goThrough_54 (ma28 q17.2 a16.2.1 q17.1) ?_
      refine rr_letS (W := mw) (fun S18 => ?_)
      refine rr_iinc (lv' := [(2, .int (a16.1 + 1)), (0, .ref 0), (1, .int x1), (3, .int a16.2.1)]) dX11_goThrough_55 2 rfl (by decide) rfl ?_
      refine rr_iinc (lv' := [(3, .int (a16.2.1 + 1)), (2, .int (a16.1 + 1)), (0, .ref 0), (1, .int x1)]) dX11_goThrough_58 3 rfl (by decide) rfl ?_
      refine rr_goto (tgt := 9) dX11_goThrough_61 (by decide) ?_
      refine rr_sub [2, 3, 1, 0] rfl ?_
      exact hrec9 ((a16.1 + 1), (a16.2.1 + 1), S18)
    · refine rr_sub [0, 3] rfl ?_
      exact tM_goThrough_22 (a16.2.1, a16.2.2)
def fM_goThrough (S : rr_T) (x1 : Int32) : Option rr_T :=
  rr_l (pI S 37 0) (fun S1 =>
  rr_loop FU (LM_goThrough_9 x1) (0, 0, S1))
set_option maxRecDepth 20000 in
theorem tM_goThrough {l : Launch} {G : rr_G} (S : rr_T) (x1 : Int32) : TT l G mX11_goThrough 1 22 fxA rvS mw z0 z0 0 0 [.ref 0, .int x1] (mw S) (fM_goThrough S x1) := by
  refine TT.by (by decide) (Nat.le_of_ble_eq_true rfl) (lv := [(0, .ref 0), (1, .int x1)]) rfl ?_
  show RR l G mX11_goThrough 1 22 fxA rvS mw z0 z0 0 0 0 [(0, .ref 0), (1, .int x1)] [] (mw S) (fM_goThrough S x1)
  unfold fM_goThrough
  refine rr_aload_n dX11_goThrough_0 rfl 0 rfl ?_
  refine rr_iconst (v := 0) dX11_goThrough_1 (by decide) ?_
  refine rr_put cl11 k11_162 (Nat.le_of_ble_eq_true rfl) rfl rfl rfl rfl (Nat.le_of_ble_eq_true rfl) dX11_goThrough_2 (mp37 S 0) ?_
  refine rr_letS (W := mw) (fun S1 => ?_)
  refine rr_iconst (v := 0) dX11_goThrough_5 (by decide) ?_
  refine rr_istore_n (lv' := [(2, .int 0), (0, .ref 0), (1, .int x1)]) dX11_goThrough_6 rfl (by decide) rfl ?_
  refine rr_iconst (v := 0) dX11_goThrough_7 (by decide) ?_
  refine rr_istore_n (lv' := [(3, .int 0), (2, .int 0), (0, .ref 0), (1, .int x1)]) dX11_goThrough_8 rfl (by decide) rfl ?_
  refine rr_sub [2, 3, 1, 0] rfl ?_
  exact tM_goThrough_9 x1 FU (0, 0, S1)
def fM_canBe (S : rr_T) (x1 : Int32) : Option Int32 :=
  if (S.1 41) = 1 then
  (fM_in x1 0 ((S.1 42))).bind (fun r5 =>
    if r5 &&& 1 = r5 then
    some r5
  else none)
else
  (fM_in x1 1 9).bind (fun r1 =>
    if r1 = 0 then
    if x1 = 0 then
      some 1
    else
      (fM_in x1 10 ((9 + (S.1 0)))).bind (fun r2 =>
        if r2 = 0 then
        some 0
      else
        if (S.1 7) ≤ (S.1 37) then
          some 0
        else
          (fM_isUnder S ((x1 - 10)) ((S.1 42))).bind (fun r3 =>
            if r3 = 0 then
            some 0
          else
            some 1))
  else
    if (S.1 37) ≤ (x1 - 1) then
      some 0
    else
      if inb (x1 - 1) 5 then
        (fM_isUnder S ((S.2.1 27 (x1 - 1).toNatClampNeg)) ((S.1 42))).bind (fun r4 =>
          if r4 = 0 then
          some 0
        else
          some 1)
      else none)
set_option maxRecDepth 20000 in
theorem tM_canBe {l : Launch} {G : rr_G} (S : rr_T) (x1 : Int32) : TT l G mX11_canBe 1 23 fxA rvI (fun _ => mw S) z0 z0 0 0 [.ref 0, .int x1] (mw S) (fM_canBe S x1) := by
  refine TT.by (by decide) (Nat.le_of_ble_eq_true rfl) (lv := [(0, .ref 0), (1, .int x1)]) rfl ?_
  show RR l G mX11_canBe 1 23 fxA rvI (fun _ => mw S) z0 z0 0 0 0 [(0, .ref 0), (1, .int x1)] [] (mw S) (fM_canBe S x1)
  unfold fM_canBe
  refine rr_aload_n dX11_canBe_0 rfl 0 rfl ?_
  refine rr_get (v := .int (S.1 41)) cl11 k11_165 (Nat.le_of_ble_eq_true rfl) rfl rfl dX11_canBe_1 ?_
  refine rr_iconst (v := 1) dX11_canBe_4 (by decide) ?_
  refine rr_icmp_ne (tgt := 18) dX11_canBe_5 (by decide) (fun _ => ?_) (fun _ => ?_)
  · refine rr_iload_n dX11_canBe_18 rfl 1 rfl ?_
    refine rr_iconst (v := 1) dX11_canBe_19 (by decide) ?_
    refine rr_bipush (v := 9) dX11_canBe_20 (by decide) ?_
    refine rr_si (As := [.int x1, .int 1, .int 9]) (rest := []) (tM_in x1 1 9 (mw S)) s11_136 rfl ⟨Nat.le_of_ble_eq_true rfl, Nat.le_of_ble_eq_true rfl⟩ rfl rfl (Nat.le_of_ble_eq_true rfl) rfl dX11_canBe_22 (fun r1 => ?_)
    refine rr_if_eq (tgt := 63) dX11_canBe_25 (by decide) (fun _ => ?_) (fun _ => ?_)
    · refine rr_iload_n dX11_canBe_63 rfl 1 rfl ?_
      refine rr_if_eq (tgt := 109) dX11_canBe_64 (by decide) (fun _ => ?_) (fun _ => ?_)
      · refine rr_iconst (v := 1) dX11_canBe_109 (by decide) ?_
        refine rr_goto (tgt := 114) dX11_canBe_110 (by decide) ?_
        exact rr_zret dX11_canBe_114 rfl (by decide) rfl rfl rfl rfl
      · refine rr_iload_n dX11_canBe_67 rfl 1 rfl ?_
        refine rr_bipush (v := 10) dX11_canBe_68 (by decide) ?_
        refine rr_bipush (v := 9) dX11_canBe_70 (by decide) ?_
        refine rr_aload_n dX11_canBe_72 rfl 0 rfl ?_
        refine rr_get (v := .int (S.1 0)) cl11 k11_133 (Nat.le_of_ble_eq_true rfl) rfl rfl dX11_canBe_73 ?_
        refine rr_iadd dX11_canBe_76 ?_
        refine rr_si (As := [.int x1, .int 10, .int (9 + (S.1 0))]) (rest := []) (tM_in x1 10 ((9 + (S.1 0))) (mw S)) s11_136 rfl ⟨Nat.le_of_ble_eq_true rfl, Nat.le_of_ble_eq_true rfl⟩ rfl rfl (Nat.le_of_ble_eq_true rfl) rfl dX11_canBe_77 (fun r2 => ?_)
        refine rr_if_eq (tgt := 113) dX11_canBe_80 (by decide) (fun _ => ?_) (fun _ => ?_)
        · refine rr_iconst (v := 0) dX11_canBe_113 (by decide) ?_
          exact rr_zret dX11_canBe_114 rfl (by decide) rfl rfl rfl rfl
        · refine rr_aload_n dX11_canBe_83 rfl 0 rfl ?_
          refine rr_get (v := .int (S.1 37)) cl11 k11_162 (Nat.le_of_ble_eq_true rfl) rfl rfl dX11_canBe_84 ?_
          refine rr_aload_n dX11_canBe_87 rfl 0 rfl ?_
          refine rr_get (v := .int (S.1 7)) cl11 k11_25 (Nat.le_of_ble_eq_true rfl) rfl rfl dX11_canBe_88 ?_
          refine rr_icmp_ge (tgt := 113) dX11_canBe_91 (by decide) (fun _ => ?_) (fun _ => ?_)
          · refine rr_iconst (v := 0) dX11_canBe_113 (by decide) ?_
            exact rr_zret dX11_canBe_114 rfl (by decide) rfl rfl rfl rfl
          · refine rr_aload_n dX11_canBe_94 rfl 0 rfl ?_
            refine rr_iload_n dX11_canBe_95 rfl 1 rfl ?_
            refine rr_bipush (v := 10) dX11_canBe_96 (by decide) ?_
            refine rr_isub dX11_canBe_98 ?_
            refine rr_aload_n dX11_canBe_99 rfl 0 rfl ?_
            refine rr_get (v := .int (S.1 42)) cl11 k11_168 (Nat.le_of_ble_eq_true rfl) rfl rfl dX11_canBe_100 ?_
            refine rr_vi (As := [.int (x1 - 10), .int (S.1 42)]) (rest := []) (tM_isUnder S ((x1 - 10)) ((S.1 42))) v11_175 rfl rfl ⟨Nat.le_of_ble_eq_true rfl, Nat.le_of_ble_eq_true rfl⟩ rfl rfl (Nat.le_of_ble_eq_true rfl) rfl dX11_canBe_103 (fun r3 => ?_)
            refine rr_if_eq (tgt := 113) dX11_canBe_106 (by decide) (fun _ => ?_) (fun _ => ?_)
            · refine rr_iconst (v := 0) dX11_canBe_113 (by decide) ?_
              exact rr_zret dX11_canBe_114 rfl (by decide) rfl rfl rfl rfl
            · refine rr_iconst (v := 1) dX11_canBe_109 (by decide) ?_
              refine rr_goto (tgt := 114) dX11_canBe_110 (by decide) ?_
              exact rr_zret dX11_canBe_114 rfl (by decide) rfl rfl rfl rfl
    · refine rr_iload_n dX11_canBe_28 rfl 1 rfl ?_
      refine rr_iconst (v := 1) dX11_canBe_29 (by decide) ?_
      refine rr_isub dX11_canBe_30 ?_
      refine rr_aload_n dX11_canBe_31 rfl 0 rfl ?_
      refine rr_get (v := .int (S.1 37)) cl11 k11_162 (Nat.le_of_ble_eq_true rfl) rfl rfl dX11_canBe_32 ?_
      refine rr_icmp_ge (tgt := 61) dX11_canBe_35 (by decide) (fun _ => ?_) (fun _ => ?_)
      · refine rr_iconst (v := 0) dX11_canBe_61 (by decide) ?_
        exact rr_zret dX11_canBe_62 rfl (by decide) rfl rfl rfl rfl
      · refine rr_aload_n dX11_canBe_38 rfl 0 rfl ?_
        refine rr_aload_n dX11_canBe_39 rfl 0 rfl ?_
        refine rr_get (v := .ref 27) cl11 k11_96 (Nat.le_of_ble_eq_true rfl) rfl rfl dX11_canBe_40 ?_
        refine rr_iload_n dX11_canBe_43 rfl 1 rfl ?_
        refine rr_iconst (v := 1) dX11_canBe_44 (by decide) ?_
        refine rr_isub dX11_canBe_45 ?_
        refine rr_if (fun z => ?_)
        refine rr_iald (len := 5) rfl (inb_in z) dX11_canBe_46 ?_
        refine rr_aload_n dX11_canBe_47 rfl 0 rfl ?_
        refine rr_get (v := .int (S.1 42)) cl11 k11_168 (Nat.le_of_ble_eq_true rfl) rfl rfl dX11_canBe_48 ?_
        refine rr_vi (As := [.int (S.2.1 27 (x1 - 1).toNatClampNeg), .int (S.1 42)]) (rest := []) (tM_isUnder S ((S.2.1 27 (x1 - 1).toNatClampNeg)) ((S.1 42))) v11_175 rfl rfl ⟨Nat.le_of_ble_eq_true rfl, Nat.le_of_ble_eq_true rfl⟩ rfl rfl (Nat.le_of_ble_eq_true rfl) rfl dX11_canBe_51 (fun r4 => ?_)
        refine rr_if_eq (tgt := 61) dX11_canBe_54 (by decide) (fun _ => ?_) (fun _ => ?_)
        · refine rr_iconst (v := 0) dX11_canBe_61 (by decide) ?_
          exact rr_zret dX11_canBe_62 rfl (by decide) rfl rfl rfl rfl
        · refine rr_iconst (v := 1) dX11_canBe_57 (by decide) ?_
          refine rr_goto (tgt := 62) dX11_canBe_58 (by decide) ?_
          exact rr_zret dX11_canBe_62 rfl (by decide) rfl rfl rfl rfl
  · refine rr_iload_n dX11_canBe_8 rfl 1 rfl ?_
    refine rr_iconst (v := 0) dX11_canBe_9 (by decide) ?_
    refine rr_aload_n dX11_canBe_10 rfl 0 rfl ?_
    refine rr_get (v := .int (S.1 42)) cl11 k11_168 (Nat.le_of_ble_eq_true rfl) rfl rfl dX11_canBe_11 ?_
    refine rr_si (As := [.int x1, .int 0, .int (S.1 42)]) (rest := []) (tM_in x1 0 ((S.1 42)) (mw S)) s11_136 rfl ⟨Nat.le_of_ble_eq_true rfl, Nat.le_of_ble_eq_true rfl⟩ rfl rfl (Nat.le_of_ble_eq_true rfl) rfl dX11_canBe_14 (fun r5 => ?_)
    refine rr_if (fun z => ?_)
    exact rr_zret dX11_canBe_17 rfl z rfl rfl rfl rfl
def LM_nextChoice_4 (S : rr_T) (rec4 : Int32 → Option Int32) (a2 : Int32) : Option Int32 :=
  if 14 ≤ a2 then
  some (-1)
else
  (fM_canBe S a2).bind (fun r3 =>
    if r3 = 0 then
    rec4 ((a2 + 1))
  else
    some a2)
set_option maxRecDepth 20000 in
theorem tM_nextChoice_4 {l : Launch} {G : rr_G} (S : rr_T) : ∀ (n : Nat) (a : Int32), RR l G mX11_nextChoice 2 44 fxA rvI (fun _ => mw S) z0 z0 0 0 4 [(0, .ref 0), (2, .int a)] [] (mw S) (rr_loop n (LM_nextChoice_4 S) a) := by
  refine rr_lp (α := Int32) 4 (fun a => [(0, .ref 0), (2, .int a)]) (fun a => (mw S)) (fun rec4 hrec4 a2 => ?_)
  show RR l G mX11_nextChoice 2 44 fxA rvI (fun _ => mw S) z0 z0 0 0 4 [(0, .ref 0), (2, .int a2)] [] (mw S) (LM_nextChoice_4 S rec4 a2)
  unfold LM_nextChoice_4
  refine rr_iload_n dX11_nextChoice_4 rfl 1 rfl ?_
  refine rr_bipush (v := 14) dX11_nextChoice_5 (by decide) ?_
  refine rr_icmp_ge (tgt := 26) dX11_nextChoice_7 (by decide) (fun _ => ?_) (fun _ => ?_)
  · refine rr_iconst (v := (-1)) dX11_nextChoice_26 (by decide) ?_
    exact rr_iret dX11_nextChoice_27 rfl rfl rfl rfl rfl
  · refine rr_aload_n dX11_nextChoice_10 rfl 0 rfl ?_
    refine rr_iload_n dX11_nextChoice_11 rfl 1 rfl ?_
    refine rr_vi (As := [.int a2]) (rest := []) (tM_canBe S a2) v11_178 rfl rfl ⟨Nat.le_of_ble_eq_true rfl, Nat.le_of_ble_eq_true rfl⟩ rfl rfl (Nat.le_of_ble_eq_true rfl) rfl dX11_nextChoice_12 (fun r3 => ?_)
    refine rr_if_eq (tgt := 20) dX11_nextChoice_15 (by decide) (fun _ => ?_) (fun _ => ?_)
    · refine rr_iinc (lv' := [(2, .int (a2 + 1)), (0, .ref 0)]) dX11_nextChoice_20 1 rfl (by decide) rfl ?_
      refine rr_goto (tgt := 4) dX11_nextChoice_23 (by decide) ?_
      refine rr_sub [1, 0] rfl ?_
      exact hrec4 ((a2 + 1))
    · refine rr_iload_n dX11_nextChoice_18 rfl 1 rfl ?_
      exact rr_iret dX11_nextChoice_19 rfl rfl rfl rfl rfl
def fM_nextChoice (S : rr_T) (x1 : Int32) : Option Int32 :=
  rr_l ((x1 + 1)) (fun v1 =>
  rr_loop FU (LM_nextChoice_4 S) v1)
set_option maxRecDepth 20000 in
theorem tM_nextChoice {l : Launch} {G : rr_G} (S : rr_T) (x1 : Int32) : TT l G mX11_nextChoice 2 44 fxA rvI (fun _ => mw S) z0 z0 0 0 [.ref 0, .int x1] (mw S) (fM_nextChoice S x1) := by
  refine TT.by (by decide) (Nat.le_of_ble_eq_true rfl) (lv := [(0, .ref 0), (1, .int x1)]) rfl ?_
  show RR l G mX11_nextChoice 2 44 fxA rvI (fun _ => mw S) z0 z0 0 0 0 [(0, .ref 0), (1, .int x1)] [] (mw S) (fM_nextChoice S x1)
  unfold fM_nextChoice
  refine rr_iload_n dX11_nextChoice_0 rfl 1 rfl ?_
  refine rr_iconst (v := 1) dX11_nextChoice_1 (by decide) ?_
  refine rr_iadd dX11_nextChoice_2 ?_
  refine rr_letI (fun v1 => ?_)
  refine rr_istore_n (lv' := [(2, .int v1), (0, .ref 0), (1, .int x1)]) dX11_nextChoice_3 rfl (by decide) rfl ?_
  refine rr_sub [1, 0] rfl ?_
  exact tM_nextChoice_4 S FU v1
def LM_fill_7 (rec7 : (Int32 × rr_T) → Option (Int32 × rr_T)) (a2 : Int32 × rr_T) : Option (Int32 × rr_T) :=
  if (a2.2.1 41) = (-1) then
  some ((a2.1, a2.2))
else
  (fM_nextChoice a2.2 (-1)).bind (fun r3 =>
    if inb a2.1 41 then
    rr_l (pA a2.2 26 a2.1 r3) (fun S4 =>
      (fM_goThrough S4 ((a2.1 + 1))).bind (fun S5 =>
      rec7 ((a2.1 + 1), S5)))
  else none)
set_option maxRecDepth 20000 in
theorem tM_fill_7 {l : Launch} {G : rr_G} : ∀ (n : Nat) (a : Int32 × rr_T), RR l G mX11_fill 3 66 fxA rvIS (fun q => mw q.2) z0 z0 0 0 7 [(0, .ref 0), (2, .int a.1)] [] (mw a.2) (rr_loop n (LM_fill_7) a) := by
  refine rr_lp (α := Int32 × rr_T) 7 (fun a => [(0, .ref 0), (2, .int a.1)]) (fun a => (mw a.2)) (fun rec7 hrec7 a2 => ?_)
  show RR l G mX11_fill 3 66 fxA rvIS (fun q => mw q.2) z0 z0 0 0 7 [(0, .ref 0), (2, .int a2.1)] [] (mw a2.2) (LM_fill_7 rec7 a2)
  unfold LM_fill_7
  refine rr_aload_n dX11_fill_7 rfl 0 rfl ?_
  refine rr_get (v := .int (a2.2.1 41)) cl11 k11_165 (Nat.le_of_ble_eq_true rfl) rfl rfl dX11_fill_8 ?_
  refine rr_iconst (v := (-1)) dX11_fill_11 (by decide) ?_
  refine rr_icmp_eq (tgt := 37) dX11_fill_12 (by decide) (fun _ => ?_) (fun _ => ?_)
  · refine rr_iload_n dX11_fill_37 rfl 1 rfl ?_
    exact rr_iret dX11_fill_38 rfl rfl rfl rfl rfl
  · refine rr_aload_n dX11_fill_15 rfl 0 rfl ?_
    refine rr_get (v := .ref 26) cl11 k11_93 (Nat.le_of_ble_eq_true rfl) rfl rfl dX11_fill_16 ?_
    refine rr_iload_n dX11_fill_19 rfl 1 rfl ?_
    refine rr_aload_n dX11_fill_20 rfl 0 rfl ?_
    refine rr_iconst (v := (-1)) dX11_fill_21 (by decide) ?_
    refine rr_vi (As := [.int (-1)]) (rest := [.int a2.1, .ref 26]) (tM_nextChoice a2.2 (-1)) v11_186 rfl rfl ⟨Nat.le_of_ble_eq_true rfl, Nat.le_of_ble_eq_true rfl⟩ rfl rfl (Nat.le_of_ble_eq_true rfl) rfl dX11_fill_22 (fun r3 => ?_)
    refine rr_if (fun z => ?_)
    refine rr_iast (len := 41) rfl (inb_in z) dX11_fill_25 (ma26 a2.2 a2.1 r3) ?_
    refine rr_letS (W := mw) (fun S4 => ?_)
    refine rr_iinc (lv' := [(2, .int (a2.1 + 1)), (0, .ref 0)]) dX11_fill_26 1 rfl (by decide) rfl ?_
    refine rr_aload_n dX11_fill_29 rfl 1 rfl ?_
    refine rr_iload_n dX11_fill_30 rfl 0 rfl ?_
    refine rr_vs (W := mw) (As := [.int (a2.1 + 1)]) (rest := []) (tM_goThrough S4 ((a2.1 + 1))) v11_182 rfl rfl ⟨Nat.le_of_ble_eq_true rfl, Nat.le_of_ble_eq_true rfl⟩ (fun _ z => z) rfl rfl (Nat.le_of_ble_eq_true rfl) rfl dX11_fill_31 (fun S5 => ?_)
    refine rr_goto (tgt := 7) dX11_fill_34 (by decide) ?_
    refine rr_sub [1, 0] rfl ?_
    exact hrec7 ((a2.1 + 1), S5)
def fM_fill (S : rr_T) (x1 : Int32) : Option (Int32 × rr_T) :=
  (fM_goThrough S x1).bind (fun S1 =>
  rr_loop FU (LM_fill_7) (x1, S1))
set_option maxRecDepth 20000 in
theorem tM_fill {l : Launch} {G : rr_G} (S : rr_T) (x1 : Int32) : TT l G mX11_fill 3 66 fxA rvIS (fun q => mw q.2) z0 z0 0 0 [.ref 0, .int x1] (mw S) (fM_fill S x1) := by
  refine TT.by (by decide) (Nat.le_of_ble_eq_true rfl) (lv := [(0, .ref 0), (1, .int x1)]) rfl ?_
  show RR l G mX11_fill 3 66 fxA rvIS (fun q => mw q.2) z0 z0 0 0 0 [(0, .ref 0), (1, .int x1)] [] (mw S) (fM_fill S x1)
  unfold fM_fill
  refine rr_iload_n dX11_fill_0 rfl 1 rfl ?_
  refine rr_istore_n (lv' := [(2, .int x1), (0, .ref 0), (1, .int x1)]) dX11_fill_1 rfl (by decide) rfl ?_
  refine rr_aload_n dX11_fill_2 rfl 1 rfl ?_
  refine rr_iload_n dX11_fill_3 rfl 0 rfl ?_
  refine rr_vs (W := mw) (As := [.int x1]) (rest := []) (tM_goThrough S x1) v11_182 rfl rfl ⟨Nat.le_of_ble_eq_true rfl, Nat.le_of_ble_eq_true rfl⟩ (fun _ z => z) rfl rfl (Nat.le_of_ble_eq_true rfl) rfl dX11_fill_4 (fun S1 => ?_)
  refine rr_sub [1, 0] rfl ?_
  exact tM_fill_7 FU (x1, S1)
def JM_nextRow_29 (a2 : Int32 × Int32 × rr_T) : Option (Int32 × rr_T) :=
  if inb a2.1 41 then
  rr_l (pA a2.2.2 26 a2.1 a2.2.1) (fun S3 =>
    (fM_fill S3 ((a2.1 + 1))).bind (fun q4 =>
    some ((q4.1, q4.2))))
else none
set_option maxRecDepth 20000 in
theorem tM_nextRow_29 {l : Launch} {G : rr_G} (a2 : Int32 × Int32 × rr_T) : RR l G mX11_nextRow 4 88 fxA rvIS (fun q => mw q.2) z0 z0 0 0 29 [(0, .ref 0), (2, .int a2.1), (3, .int a2.2.1)] [] (mw a2.2.2) (JM_nextRow_29 a2) := by
  unfold JM_nextRow_29
  refine rr_aload_n dX11_nextRow_29 rfl 0 rfl ?_
  refine rr_get (v := .ref 26) cl11 k11_93 (Nat.le_of_ble_eq_true rfl) rfl rfl dX11_nextRow_30 ?_
  refine rr_iload_n dX11_nextRow_33 rfl 1 rfl ?_
  refine rr_iload_n dX11_nextRow_34 rfl 2 rfl ?_
  refine rr_if (fun z => ?_)
  refine rr_iast (len := 41) rfl (inb_in z) dX11_nextRow_35 (ma26 a2.2.2 a2.1 a2.2.1) ?_
  refine rr_letS (W := mw) (fun S3 => ?_)
  refine rr_aload_n dX11_nextRow_36 rfl 0 rfl ?_
  refine rr_iload_n dX11_nextRow_37 rfl 1 rfl ?_
  refine rr_iconst (v := 1) dX11_nextRow_38 (by decide) ?_
  refine rr_iadd dX11_nextRow_39 ?_
  refine rr_vis (W := mw) (As := [.int (a2.1 + 1)]) (rest := []) (tM_fill S3 ((a2.1 + 1))) v11_190 rfl rfl ⟨Nat.le_of_ble_eq_true rfl, Nat.le_of_ble_eq_true rfl⟩ (fun _ z => z) rfl rfl (Nat.le_of_ble_eq_true rfl) rfl dX11_nextRow_40 (fun q4 => ?_)
  exact rr_iret dX11_nextRow_43 rfl rfl rfl rfl rfl
def LM_nextRow_4 (rec4 : (Int32 × rr_T) → Option (Int32 × rr_T)) (a5 : Int32 × rr_T) : Option (Int32 × rr_T) :=
  if a5.1 < 0 then
  some (((-1), a5.2))
else
  (fM_goThrough a5.2 a5.1).bind (fun S6 =>
    if inb a5.1 41 then
    (fM_nextChoice S6 ((S6.2.1 26 a5.1.toNatClampNeg))).bind (fun r7 =>
      if r7 = (-1) then
      rec4 ((a5.1 + (-1)), S6)
    else
      JM_nextRow_29 (a5.1, r7, S6))
  else none)
set_option maxRecDepth 20000 in
theorem tM_nextRow_4 {l : Launch} {G : rr_G} : ∀ (n : Nat) (a : Int32 × rr_T), RR l G mX11_nextRow 4 88 fxA rvIS (fun q => mw q.2) z0 z0 0 0 4 [(0, .ref 0), (2, .int a.1)] [] (mw a.2) (rr_loop n (LM_nextRow_4) a) := by
  refine rr_lp (α := Int32 × rr_T) 4 (fun a => [(0, .ref 0), (2, .int a.1)]) (fun a => (mw a.2)) (fun rec4 hrec4 a5 => ?_)
  show RR l G mX11_nextRow 4 88 fxA rvIS (fun q => mw q.2) z0 z0 0 0 4 [(0, .ref 0), (2, .int a5.1)] [] (mw a5.2) (LM_nextRow_4 rec4 a5)
  unfold LM_nextRow_4
  refine rr_iload_n dX11_nextRow_4 rfl 1 rfl ?_
  refine rr_if_lt (tgt := 50) dX11_nextRow_5 (by decide) (fun _ => ?_) (fun _ => ?_)
  · refine rr_iconst (v := (-1)) dX11_nextRow_50 (by decide) ?_
    exact rr_iret dX11_nextRow_51 rfl rfl rfl rfl rfl
  · refine rr_aload_n dX11_nextRow_8 rfl 0 rfl ?_
    refine rr_iload_n dX11_nextRow_9 rfl 1 rfl ?_
    refine rr_vs (W := mw) (As := [.int a5.1]) (rest := []) (tM_goThrough a5.2 a5.1) v11_182 rfl rfl ⟨Nat.le_of_ble_eq_true rfl, Nat.le_of_ble_eq_true rfl⟩ (fun _ z => z) rfl rfl (Nat.le_of_ble_eq_true rfl) rfl dX11_nextRow_10 (fun S6 => ?_)
    refine rr_aload_n dX11_nextRow_13 rfl 0 rfl ?_
    refine rr_aload_n dX11_nextRow_14 rfl 0 rfl ?_
    refine rr_get (v := .ref 26) cl11 k11_93 (Nat.le_of_ble_eq_true rfl) rfl rfl dX11_nextRow_15 ?_
    refine rr_iload_n dX11_nextRow_18 rfl 1 rfl ?_
    refine rr_if (fun z => ?_)
    refine rr_iald (len := 41) rfl (inb_in z) dX11_nextRow_19 ?_
    refine rr_vi (As := [.int (S6.2.1 26 a5.1.toNatClampNeg)]) (rest := []) (tM_nextChoice S6 ((S6.2.1 26 a5.1.toNatClampNeg))) v11_186 rfl rfl ⟨Nat.le_of_ble_eq_true rfl, Nat.le_of_ble_eq_true rfl⟩ rfl rfl (Nat.le_of_ble_eq_true rfl) rfl dX11_nextRow_20 (fun r7 => ?_)
    refine rr_istore_n (lv' := [(3, .int r7), (0, .ref 0), (2, .int a5.1)]) dX11_nextRow_23 rfl (by decide) rfl ?_
    refine rr_iload_n dX11_nextRow_24 rfl 0 rfl ?_
    refine rr_iconst (v := (-1)) dX11_nextRow_25 (by decide) ?_
    refine rr_icmp_eq (tgt := 44) dX11_nextRow_26 (by decide) (fun _ => ?_) (fun _ => ?_)
    · refine rr_iinc (lv' := [(2, .int (a5.1 + (-1))), (3, .int r7), (0, .ref 0)]) dX11_nextRow_44 2 rfl (by decide) rfl ?_
      refine rr_goto (tgt := 4) dX11_nextRow_47 (by decide) ?_
      refine rr_sub [2, 0] rfl ?_
      exact hrec4 ((a5.1 + (-1)), S6)
    · refine rr_sub [1, 2, 0] rfl ?_
      exact tM_nextRow_29 (a5.1, r7, S6)
def fM_nextRow (S : rr_T) (x1 : Int32) : Option (Int32 × rr_T) :=
  rr_l ((x1 - 1)) (fun v1 =>
  rr_loop FU (LM_nextRow_4) (v1, S))
set_option maxRecDepth 20000 in
theorem tM_nextRow {l : Launch} {G : rr_G} (S : rr_T) (x1 : Int32) : TT l G mX11_nextRow 4 88 fxA rvIS (fun q => mw q.2) z0 z0 0 0 [.ref 0, .int x1] (mw S) (fM_nextRow S x1) := by
  refine TT.by (by decide) (Nat.le_of_ble_eq_true rfl) (lv := [(0, .ref 0), (1, .int x1)]) rfl ?_
  show RR l G mX11_nextRow 4 88 fxA rvIS (fun q => mw q.2) z0 z0 0 0 0 [(0, .ref 0), (1, .int x1)] [] (mw S) (fM_nextRow S x1)
  unfold fM_nextRow
  refine rr_iload_n dX11_nextRow_0 rfl 1 rfl ?_
  refine rr_iconst (v := 1) dX11_nextRow_1 (by decide) ?_
  refine rr_isub dX11_nextRow_2 ?_
  refine rr_letI (fun v1 => ?_)
  refine rr_istore_n (lv' := [(2, .int v1), (0, .ref 0), (1, .int x1)]) dX11_nextRow_3 rfl (by decide) rfl ?_
  refine rr_sub [1, 0] rfl ?_
  exact tM_nextRow_4 FU (v1, S)
def JM_load_35 (x1 : Int32) (a1 : rr_T) : Option rr_T :=
  if inb x1 4000 then
  (fM_goThrough a1 ((a1.2.1 17 x1.toNatClampNeg))).bind (fun S2 =>
    some S2)
else none
set_option maxRecDepth 20000 in
theorem tM_load_35 {l : Launch} {G : rr_G} (x1 : Int32) (a1 : rr_T) : RR l G mX11_load 2 47 fxA rvS mw z0 z0 0 0 35 [(0, .ref 0), (1, .int x1)] [] (mw a1) (JM_load_35 x1 a1) := by
  unfold JM_load_35
  refine rr_aload_n dX11_load_35 rfl 0 rfl ?_
  refine rr_aload_n dX11_load_36 rfl 0 rfl ?_
  refine rr_get (v := .ref 17) cl11 k11_64 (Nat.le_of_ble_eq_true rfl) rfl rfl dX11_load_37 ?_
  refine rr_iload_n dX11_load_40 rfl 1 rfl ?_
  refine rr_if (fun z => ?_)
  refine rr_bald (len := 4000) rfl (inb_in z) dX11_load_41 ?_
  refine rr_vs (W := mw) (As := [.int (a1.2.1 17 x1.toNatClampNeg)]) (rest := []) (tM_goThrough a1 ((a1.2.1 17 x1.toNatClampNeg))) v11_182 rfl rfl ⟨Nat.le_of_ble_eq_true rfl, Nat.le_of_ble_eq_true rfl⟩ (fun _ z => z) rfl rfl (Nat.le_of_ble_eq_true rfl) rfl dX11_load_42 (fun S2 => ?_)
  exact rr_vret dX11_load_45 rfl rfl rfl rfl rfl
def LM_load_2 (x1 : Int32) (rec2 : (Int32 × rr_T) → Option rr_T) (a3 : Int32 × rr_T) : Option rr_T :=
  if inb x1 4000 then
  if (a3.2.2.1 17 x1.toNatClampNeg) ≤ a3.1 then
    JM_load_35 x1 a3.2
  else
    if inb ((22 * x1) + a3.1) 88000 then
      if inb a3.1 41 then
        rr_l (pA a3.2 26 a3.1 ((a3.2.2.1 16 ((22 * x1) + a3.1).toNatClampNeg))) (fun S4 =>
          rec2 ((a3.1 + 1), S4))
      else none
    else none
else none
set_option maxRecDepth 20000 in
theorem tM_load_2 {l : Launch} {G : rr_G} (x1 : Int32) : ∀ (n : Nat) (a : Int32 × rr_T), RR l G mX11_load 2 47 fxA rvS mw z0 z0 0 0 2 [(0, .ref 0), (1, .int x1), (2, .int a.1)] [] (mw a.2) (rr_loop n (LM_load_2 x1) a) := by
  refine rr_lp (α := Int32 × rr_T) 2 (fun a => [(0, .ref 0), (1, .int x1), (2, .int a.1)]) (fun a => (mw a.2)) (fun rec2 hrec2 a3 => ?_)
  show RR l G mX11_load 2 47 fxA rvS mw z0 z0 0 0 2 [(0, .ref 0), (1, .int x1), (2, .int a3.1)] [] (mw a3.2) (LM_load_2 x1 rec2 a3)
  unfold LM_load_2
  refine rr_iload_n dX11_load_2 rfl 2 rfl ?_
  refine rr_aload_n dX11_load_3 rfl 0 rfl ?_
  refine rr_get (v := .ref 17) cl11 k11_64 (Nat.le_of_ble_eq_true rfl) rfl rfl dX11_load_4 ?_
  refine rr_iload_n dX11_load_7 rfl 1 rfl ?_
  refine rr_if (fun z => ?_)
  refine rr_bald (len := 4000) rfl (inb_in z) dX11_load_8 ?_
  refine rr_icmp_ge (tgt := 35) dX11_load_9 (by decide) (fun _ => ?_) (fun _ => ?_)
  · refine rr_sub [0, 1] rfl ?_
    exact tM_load_35 x1 a3.2
  · refine rr_aload_n dX11_load_12 rfl 0 rfl ?_
    refine rr_get (v := .ref 26) cl11 k11_93 (Nat.le_of_ble_eq_true rfl) rfl rfl dX11_load_13 ?_
    refine rr_iload_n dX11_load_16 rfl 2 rfl ?_
    refine rr_aload_n dX11_load_17 rfl 0 rfl ?_
    refine rr_get (v := .ref 16) cl11 k11_60 (Nat.le_of_ble_eq_true rfl) rfl rfl dX11_load_18 ?_
    refine rr_bipush (v := 22) dX11_load_21 (by decide) ?_
    refine rr_iload_n dX11_load_23 rfl 1 rfl ?_
    refine rr_imul dX11_load_24 ?_
    refine rr_iload_n dX11_load_25 rfl 2 rfl ?_
    refine rr_iadd dX11_load_26 ?_
    refine rr_if (fun z => ?_)
    refine rr_bald (len := 88000) rfl (inb_in z) dX11_load_27 ?_
    refine rr_if (fun z => ?_)
    refine rr_iast (len := 41) rfl (inb_in z) dX11_load_28 (ma26 a3.2 a3.1 ((a3.2.2.1 16 ((22 * x1) + a3.1).toNatClampNeg))) ?_
    refine rr_letS (W := mw) (fun S4 => ?_)
    refine rr_iinc (lv' := [(2, .int (a3.1 + 1)), (0, .ref 0), (1, .int x1)]) dX11_load_29 2 rfl (by decide) rfl ?_
    refine rr_goto (tgt := 2) dX11_load_32 (by decide) ?_
    refine rr_sub [1, 2, 0] rfl ?_
    exact hrec2 ((a3.1 + 1), S4)
def fM_load (S : rr_T) (x1 : Int32) : Option rr_T :=
  rr_loop FU (LM_load_2 x1) (0, S)
set_option maxRecDepth 20000 in
theorem tM_load {l : Launch} {G : rr_G} (S : rr_T) (x1 : Int32) : TT l G mX11_load 2 47 fxA rvS mw z0 z0 0 0 [.ref 0, .int x1] (mw S) (fM_load S x1) := by
  refine TT.by (by decide) (Nat.le_of_ble_eq_true rfl) (lv := [(0, .ref 0), (1, .int x1)]) rfl ?_
  show RR l G mX11_load 2 47 fxA rvS mw z0 z0 0 0 0 [(0, .ref 0), (1, .int x1)] [] (mw S) (fM_load S x1)
  unfold fM_load
  refine rr_iconst (v := 0) dX11_load_0 (by decide) ?_
  refine rr_istore_n (lv' := [(2, .int 0), (0, .ref 0), (1, .int x1)]) dX11_load_1 rfl (by decide) rfl ?_
  refine rr_sub [1, 2, 0] rfl ?_
  exact tM_load_2 x1 FU (0, S)
def fM_isSuch (S : rr_T) (x1 : Int32) (x2 : Int32) : Option Int32 :=
  if inb x1 5 then
  if inb x2 6 then
    (fM_isUnder S ((S.2.1 27 x1.toNatClampNeg)) ((S.2.1 7 x2.toNatClampNeg))).bind (fun r1 =>
      if r1 &&& 1 = r1 then
      some r1
    else none)
  else none
else none
set_option maxRecDepth 20000 in
theorem tM_isSuch {l : Launch} {G : rr_G} (S : rr_T) (x1 : Int32) (x2 : Int32) : TT l G mX11_isSuch 1 23 fxA rvI (fun _ => mw S) z0 z0 0 0 [.ref 0, .int x1, .int x2] (mw S) (fM_isSuch S x1 x2) := by
  refine TT.by (by decide) (Nat.le_of_ble_eq_true rfl) (lv := [(0, .ref 0), (1, .int x1), (2, .int x2)]) rfl ?_
  show RR l G mX11_isSuch 1 23 fxA rvI (fun _ => mw S) z0 z0 0 0 0 [(0, .ref 0), (1, .int x1), (2, .int x2)] [] (mw S) (fM_isSuch S x1 x2)
  unfold fM_isSuch
  refine rr_aload_n dX11_isSuch_0 rfl 0 rfl ?_
  refine rr_aload_n dX11_isSuch_1 rfl 0 rfl ?_
  refine rr_get (v := .ref 27) cl11 k11_96 (Nat.le_of_ble_eq_true rfl) rfl rfl dX11_isSuch_2 ?_
  refine rr_iload_n dX11_isSuch_5 rfl 1 rfl ?_
  refine rr_if (fun z => ?_)
  refine rr_iald (len := 5) rfl (inb_in z) dX11_isSuch_6 ?_
  refine rr_aload_n dX11_isSuch_7 rfl 0 rfl ?_
  refine rr_get (v := .ref 7) cl11 k11_32 (Nat.le_of_ble_eq_true rfl) rfl rfl dX11_isSuch_8 ?_
  refine rr_iload_n dX11_isSuch_11 rfl 2 rfl ?_
  refine rr_if (fun z => ?_)
  refine rr_iald (len := 6) rfl (inb_in z) dX11_isSuch_12 ?_
  refine rr_vi (As := [.int (S.2.1 27 x1.toNatClampNeg), .int (S.2.1 7 x2.toNatClampNeg)]) (rest := []) (tM_isUnder S ((S.2.1 27 x1.toNatClampNeg)) ((S.2.1 7 x2.toNatClampNeg))) v11_175 rfl rfl ⟨Nat.le_of_ble_eq_true rfl, Nat.le_of_ble_eq_true rfl⟩ rfl rfl (Nat.le_of_ble_eq_true rfl) rfl dX11_isSuch_13 (fun r1 => ?_)
  refine rr_if (fun z => ?_)
  exact rr_zret dX11_isSuch_16 rfl z rfl rfl rfl rfl
