/-! ===== the reference's methods: holdsRing, holdsApart, holdsAt, holds, freshen, many, kept, choice, object, put, empty ===== -/
def LM_holdsRing_235 (a3 : rr_T) (rec235 : (Int32 × Int32) → Option (Int32 × rr_T)) (a4 : Int32 × Int32) : Option (Int32 × rr_T) :=
  if (a3.1 37) ≤ a4.2 then
  if a4.1 &&& 1 = a4.1 then
    some ((a4.1, a3))
  else none
else
  if a4.1 = 0 then
    rec235 (0, (a4.2 + 1))
  else
    if inb (6 * a4.2) 25 then
      if (a3.2.1 30 (6 * a4.2).toNatClampNeg) = 0 then
        rec235 (1, (a4.2 + 1))
      else
        rec235 (0, (a4.2 + 1))
    else none
set_option maxRecDepth 20000 in
theorem tM_holdsRing_235 {l : Launch} {G : rr_G} (a3 : rr_T) : ∀ (n : Nat) (a : Int32 × Int32), RR l G mX11_holdsRing 2 45 fxA rvIS (fun q => mw q.2) z0 z0 0 0 235 [(0, .ref 0), (2, .int a.1), (3, .int a.2)] [] (mw a3) (rr_loop n (LM_holdsRing_235 a3) a) := by
  refine rr_lp (α := Int32 × Int32) 235 (fun a => [(0, .ref 0), (2, .int a.1), (3, .int a.2)]) (fun a => (mw a3)) (fun rec235 hrec235 a4 => ?_)
  show RR l G mX11_holdsRing 2 45 fxA rvIS (fun q => mw q.2) z0 z0 0 0 235 [(0, .ref 0), (2, .int a4.1), (3, .int a4.2)] [] (mw a3) (LM_holdsRing_235 a3 rec235 a4)
  unfold LM_holdsRing_235
  refine rr_iload_n dX11_holdsRing_235 rfl 2 rfl ?_
  refine rr_aload_n dX11_holdsRing_236 rfl 0 rfl ?_
  refine rr_get (v := .int (a3.1 37)) cl11 k11_162 (Nat.le_of_ble_eq_true rfl) rfl rfl dX11_holdsRing_237 ?_
  refine rr_icmp_ge (tgt := 271) dX11_holdsRing_240 (by decide) (fun _ => ?_) (fun _ => ?_)
  · refine rr_iload_n dX11_holdsRing_271 rfl 1 rfl ?_
    refine rr_if (fun z => ?_)
    exact rr_zret dX11_holdsRing_272 rfl z rfl rfl rfl rfl
  · refine rr_iload_n dX11_holdsRing_243 rfl 1 rfl ?_
    refine rr_if_eq (tgt := 263) dX11_holdsRing_244 (by decide) (fun _ => ?_) (fun _ => ?_)
    · refine rr_iconst (v := 0) dX11_holdsRing_263 (by decide) ?_
      refine rr_istore_n (lv' := [(2, .int 0), (0, .ref 0), (3, .int a4.2)]) dX11_holdsRing_264 rfl (by decide) rfl ?_
      refine rr_iinc (lv' := [(3, .int (a4.2 + 1)), (2, .int 0), (0, .ref 0)]) dX11_holdsRing_265 2 rfl (by decide) rfl ?_
      refine rr_goto (tgt := 235) dX11_holdsRing_268 (by decide) ?_
      refine rr_sub [2, 1, 0] rfl ?_
      exact hrec235 (0, (a4.2 + 1))
    · refine rr_aload_n dX11_holdsRing_247 rfl 0 rfl ?_
      refine rr_get (v := .ref 30) cl11 k11_105 (Nat.le_of_ble_eq_true rfl) rfl rfl dX11_holdsRing_248 ?_
      refine rr_bipush (v := 6) dX11_holdsRing_251 (by decide) ?_
      refine rr_iload_n dX11_holdsRing_253 rfl 2 rfl ?_
      refine rr_imul dX11_holdsRing_254 ?_
      refine rr_if (fun z => ?_)
      refine rr_zald (len := 25) rfl (inb_in z) dX11_holdsRing_255 ?_
      refine rr_if_ne (tgt := 263) dX11_holdsRing_256 (by decide) (fun _ => ?_) (fun _ => ?_)
      · refine rr_iconst (v := 0) dX11_holdsRing_263 (by decide) ?_
        refine rr_istore_n (lv' := [(2, .int 0), (0, .ref 0), (3, .int a4.2)]) dX11_holdsRing_264 rfl (by decide) rfl ?_
        refine rr_iinc (lv' := [(3, .int (a4.2 + 1)), (2, .int 0), (0, .ref 0)]) dX11_holdsRing_265 2 rfl (by decide) rfl ?_
        refine rr_goto (tgt := 235) dX11_holdsRing_268 (by decide) ?_
        refine rr_sub [2, 1, 0] rfl ?_
        exact hrec235 (0, (a4.2 + 1))
      · refine rr_iconst (v := 1) dX11_holdsRing_259 (by decide) ?_
        refine rr_goto (tgt := 264) dX11_holdsRing_260 (by decide) ?_
        refine rr_istore_n (lv' := [(2, .int 1), (0, .ref 0), (3, .int a4.2)]) dX11_holdsRing_264 rfl (by decide) rfl ?_
        refine rr_iinc (lv' := [(3, .int (a4.2 + 1)), (2, .int 1), (0, .ref 0)]) dX11_holdsRing_265 2 rfl (by decide) rfl ?_
        refine rr_goto (tgt := 235) dX11_holdsRing_268 (by decide) ?_
        refine rr_sub [2, 1, 0] rfl ?_
        exact hrec235 (1, (a4.2 + 1))
def JM_holdsRing_231 (a3 : rr_T) : Option (Int32 × rr_T) :=
  rr_loop FU (LM_holdsRing_235 a3) (1, 0)
set_option maxRecDepth 20000 in
theorem tM_holdsRing_231 {l : Launch} {G : rr_G} (a3 : rr_T) : RR l G mX11_holdsRing 2 45 fxA rvIS (fun q => mw q.2) z0 z0 0 0 231 [(0, .ref 0)] [] (mw a3) (JM_holdsRing_231 a3) := by
  unfold JM_holdsRing_231
  refine rr_iconst (v := 1) dX11_holdsRing_231 (by decide) ?_
  refine rr_istore_n (lv' := [(2, .int 1), (0, .ref 0)]) dX11_holdsRing_232 rfl (by decide) rfl ?_
  refine rr_iconst (v := 0) dX11_holdsRing_233 (by decide) ?_
  refine rr_istore_n (lv' := [(3, .int 0), (2, .int 1), (0, .ref 0)]) dX11_holdsRing_234 rfl (by decide) rfl ?_
  refine rr_sub [2, 1, 0] rfl ?_
  exact tM_holdsRing_235 a3 FU (1, 0)
def JM_holdsRing_212 (a6 : Int32 × rr_T) (rec147 : (Int32 × rr_T) → Option (Int32 × rr_T)) (a7 : Int32 × rr_T) (a8 : Int32) : Option (Int32 × rr_T) :=
  if inb ((5 * a6.1) + a7.1) 25 then
  rr_l (pA a7.2 30 (((5 * a6.1) + a7.1)) (vp_nar .boolean a8)) (fun S9 =>
    rec147 ((a7.1 + 1), S9))
else none
set_option maxRecDepth 20000 in
theorem tM_holdsRing_212 {l : Launch} {G : rr_G} (a6 : Int32 × rr_T) (rec147 : (Int32 × rr_T) → Option (Int32 × rr_T)) (a7 : Int32 × rr_T) (a5 : Int32 × rr_T) (hrec147 : ∀ a : Int32 × rr_T, RR l G mX11_holdsRing 2 45 fxA rvIS (fun q => mw q.2) z0 z0 0 0 147 [(0, .ref 0), (2, .int a5.1), (3, .int a6.1), (4, .int a.1)] [] (mw a.2) (rec147 a)) (a8 : Int32) : RR l G mX11_holdsRing 2 45 fxA rvIS (fun q => mw q.2) z0 z0 0 0 212 [(0, .ref 0), (2, .int a5.1), (3, .int a6.1), (4, .int a7.1)] [.int a8, .int ((5 * a6.1) + a7.1), .ref 30] (mw a7.2) (JM_holdsRing_212 a6 rec147 a7 a8) := by
  unfold JM_holdsRing_212
  refine rr_if (fun z => ?_)
  refine rr_zast (len := 25) rfl (inb_in z) dX11_holdsRing_212 (ma30 a7.2 (((5 * a6.1) + a7.1)) a8) ?_
  refine rr_letS (W := mw) (fun S9 => ?_)
  refine rr_iinc (lv' := [(4, .int (a7.1 + 1)), (0, .ref 0), (2, .int a5.1), (3, .int a6.1)]) dX11_holdsRing_213 3 rfl (by decide) rfl ?_
  refine rr_goto (tgt := 147) dX11_holdsRing_216 (by decide) ?_
  refine rr_sub [1, 2, 3, 0] rfl ?_
  exact hrec147 ((a7.1 + 1), S9)
def LM_holdsRing_147 (a5 : Int32 × rr_T) (rec136 : (Int32 × rr_T) → Option (Int32 × rr_T)) (a6 : Int32 × rr_T) (rec147 : (Int32 × rr_T) → Option (Int32 × rr_T)) (a7 : Int32 × rr_T) : Option (Int32 × rr_T) :=
  if (a7.2.1 37) ≤ a7.1 then
  rec136 ((a6.1 + 1), a7.2)
else
  if inb ((5 * a6.1) + a7.1) 25 then
    if (a7.2.2.1 30 ((5 * a6.1) + a7.1).toNatClampNeg) = 0 then
      if inb ((5 * a6.1) + a5.1) 25 then
        if (a7.2.2.1 30 ((5 * a6.1) + a5.1).toNatClampNeg) = 0 then
          JM_holdsRing_212 a6 rec147 a7 0
        else
          if inb ((5 * a5.1) + a7.1) 25 then
            if (a7.2.2.1 30 ((5 * a5.1) + a7.1).toNatClampNeg) = 0 then
              JM_holdsRing_212 a6 rec147 a7 0
            else
              JM_holdsRing_212 a6 rec147 a7 1
          else none
      else none
    else
      JM_holdsRing_212 a6 rec147 a7 1
  else none
set_option maxRecDepth 20000 in
theorem tM_holdsRing_147 {l : Launch} {G : rr_G} (a5 : Int32 × rr_T) (rec136 : (Int32 × rr_T) → Option (Int32 × rr_T)) (a6 : Int32 × rr_T) (hrec136 : ∀ a : Int32 × rr_T, RR l G mX11_holdsRing 2 45 fxA rvIS (fun q => mw q.2) z0 z0 0 0 136 [(0, .ref 0), (2, .int a5.1), (3, .int a.1)] [] (mw a.2) (rec136 a)) : ∀ (n : Nat) (a : Int32 × rr_T), RR l G mX11_holdsRing 2 45 fxA rvIS (fun q => mw q.2) z0 z0 0 0 147 [(0, .ref 0), (2, .int a5.1), (3, .int a6.1), (4, .int a.1)] [] (mw a.2) (rr_loop n (LM_holdsRing_147 a5 rec136 a6) a) := by
  refine rr_lp (α := Int32 × rr_T) 147 (fun a => [(0, .ref 0), (2, .int a5.1), (3, .int a6.1), (4, .int a.1)]) (fun a => (mw a.2)) (fun rec147 hrec147 a7 => ?_)
  show RR l G mX11_holdsRing 2 45 fxA rvIS (fun q => mw q.2) z0 z0 0 0 147 [(0, .ref 0), (2, .int a5.1), (3, .int a6.1), (4, .int a7.1)] [] (mw a7.2) (LM_holdsRing_147 a5 rec136 a6 rec147 a7)
  unfold LM_holdsRing_147
  refine rr_iload dX11_holdsRing_147 3 rfl ?_
  refine rr_aload_n dX11_holdsRing_149 rfl 0 rfl ?_
  refine rr_get (v := .int (a7.2.1 37)) cl11 k11_162 (Nat.le_of_ble_eq_true rfl) rfl rfl dX11_holdsRing_150 ?_
  refine rr_icmp_ge (tgt := 219) dX11_holdsRing_153 (by decide) (fun _ => ?_) (fun _ => ?_)
  · refine rr_iinc (lv' := [(3, .int (a6.1 + 1)), (0, .ref 0), (2, .int a5.1), (4, .int a7.1)]) dX11_holdsRing_219 2 rfl (by decide) rfl ?_
    refine rr_goto (tgt := 136) dX11_holdsRing_222 (by decide) ?_
    refine rr_sub [1, 2, 0] rfl ?_
    exact hrec136 ((a6.1 + 1), a7.2)
  · refine rr_aload_n dX11_holdsRing_156 rfl 0 rfl ?_
    refine rr_get (v := .ref 30) cl11 k11_105 (Nat.le_of_ble_eq_true rfl) rfl rfl dX11_holdsRing_157 ?_
    refine rr_iconst (v := 5) dX11_holdsRing_160 (by decide) ?_
    refine rr_iload_n dX11_holdsRing_161 rfl 2 rfl ?_
    refine rr_imul dX11_holdsRing_162 ?_
    refine rr_iload dX11_holdsRing_163 3 rfl ?_
    refine rr_iadd dX11_holdsRing_165 ?_
    refine rr_aload_n dX11_holdsRing_166 rfl 0 rfl ?_
    refine rr_get (v := .ref 30) cl11 k11_105 (Nat.le_of_ble_eq_true rfl) rfl rfl dX11_holdsRing_167 ?_
    refine rr_iconst (v := 5) dX11_holdsRing_170 (by decide) ?_
    refine rr_iload_n dX11_holdsRing_171 rfl 2 rfl ?_
    refine rr_imul dX11_holdsRing_172 ?_
    refine rr_iload dX11_holdsRing_173 3 rfl ?_
    refine rr_iadd dX11_holdsRing_175 ?_
    refine rr_if (fun z => ?_)
    refine rr_zald (len := 25) rfl (inb_in z) dX11_holdsRing_176 ?_
    refine rr_if_ne (tgt := 207) dX11_holdsRing_177 (by decide) (fun _ => ?_) (fun _ => ?_)
    · refine rr_iconst (v := 1) dX11_holdsRing_207 (by decide) ?_
      refine rr_goto (tgt := 212) dX11_holdsRing_208 (by decide) ?_
      exact tM_holdsRing_212 a6 rec147 a7 a5 hrec147 1
    · refine rr_aload_n dX11_holdsRing_180 rfl 0 rfl ?_
      refine rr_get (v := .ref 30) cl11 k11_105 (Nat.le_of_ble_eq_true rfl) rfl rfl dX11_holdsRing_181 ?_
      refine rr_iconst (v := 5) dX11_holdsRing_184 (by decide) ?_
      refine rr_iload_n dX11_holdsRing_185 rfl 2 rfl ?_
      refine rr_imul dX11_holdsRing_186 ?_
      refine rr_iload_n dX11_holdsRing_187 rfl 1 rfl ?_
      refine rr_iadd dX11_holdsRing_188 ?_
      refine rr_if (fun z => ?_)
      refine rr_zald (len := 25) rfl (inb_in z) dX11_holdsRing_189 ?_
      refine rr_if_eq (tgt := 211) dX11_holdsRing_190 (by decide) (fun _ => ?_) (fun _ => ?_)
      · refine rr_iconst (v := 0) dX11_holdsRing_211 (by decide) ?_
        exact tM_holdsRing_212 a6 rec147 a7 a5 hrec147 0
      · refine rr_aload_n dX11_holdsRing_193 rfl 0 rfl ?_
        refine rr_get (v := .ref 30) cl11 k11_105 (Nat.le_of_ble_eq_true rfl) rfl rfl dX11_holdsRing_194 ?_
        refine rr_iconst (v := 5) dX11_holdsRing_197 (by decide) ?_
        refine rr_iload_n dX11_holdsRing_198 rfl 1 rfl ?_
        refine rr_imul dX11_holdsRing_199 ?_
        refine rr_iload dX11_holdsRing_200 3 rfl ?_
        refine rr_iadd dX11_holdsRing_202 ?_
        refine rr_if (fun z => ?_)
        refine rr_zald (len := 25) rfl (inb_in z) dX11_holdsRing_203 ?_
        refine rr_if_eq (tgt := 211) dX11_holdsRing_204 (by decide) (fun _ => ?_) (fun _ => ?_)
        · refine rr_iconst (v := 0) dX11_holdsRing_211 (by decide) ?_
          exact tM_holdsRing_212 a6 rec147 a7 a5 hrec147 0
        · refine rr_iconst (v := 1) dX11_holdsRing_207 (by decide) ?_
          refine rr_goto (tgt := 212) dX11_holdsRing_208 (by decide) ?_
          exact tM_holdsRing_212 a6 rec147 a7 a5 hrec147 1
def LM_holdsRing_136 (rec126 : (Int32 × rr_T) → Option (Int32 × rr_T)) (a5 : Int32 × rr_T) (rec136 : (Int32 × rr_T) → Option (Int32 × rr_T)) (a6 : Int32 × rr_T) : Option (Int32 × rr_T) :=
  if (a6.2.1 37) ≤ a6.1 then
  rec126 ((a5.1 + 1), a6.2)
else
  rr_loop FU (LM_holdsRing_147 a5 rec136 a6) (0, a6.2)
set_option maxRecDepth 20000 in
theorem tM_holdsRing_136 {l : Launch} {G : rr_G} (rec126 : (Int32 × rr_T) → Option (Int32 × rr_T)) (a5 : Int32 × rr_T) (hrec126 : ∀ a : Int32 × rr_T, RR l G mX11_holdsRing 2 45 fxA rvIS (fun q => mw q.2) z0 z0 0 0 126 [(0, .ref 0), (2, .int a.1)] [] (mw a.2) (rec126 a)) : ∀ (n : Nat) (a : Int32 × rr_T), RR l G mX11_holdsRing 2 45 fxA rvIS (fun q => mw q.2) z0 z0 0 0 136 [(0, .ref 0), (2, .int a5.1), (3, .int a.1)] [] (mw a.2) (rr_loop n (LM_holdsRing_136 rec126 a5) a) := by
  refine rr_lp (α := Int32 × rr_T) 136 (fun a => [(0, .ref 0), (2, .int a5.1), (3, .int a.1)]) (fun a => (mw a.2)) (fun rec136 hrec136 a6 => ?_)
  show RR l G mX11_holdsRing 2 45 fxA rvIS (fun q => mw q.2) z0 z0 0 0 136 [(0, .ref 0), (2, .int a5.1), (3, .int a6.1)] [] (mw a6.2) (LM_holdsRing_136 rec126 a5 rec136 a6)
  unfold LM_holdsRing_136
  refine rr_iload_n dX11_holdsRing_136 rfl 2 rfl ?_
  refine rr_aload_n dX11_holdsRing_137 rfl 0 rfl ?_
  refine rr_get (v := .int (a6.2.1 37)) cl11 k11_162 (Nat.le_of_ble_eq_true rfl) rfl rfl dX11_holdsRing_138 ?_
  refine rr_icmp_ge (tgt := 225) dX11_holdsRing_141 (by decide) (fun _ => ?_) (fun _ => ?_)
  · refine rr_iinc (lv' := [(2, .int (a5.1 + 1)), (0, .ref 0), (3, .int a6.1)]) dX11_holdsRing_225 1 rfl (by decide) rfl ?_
    refine rr_goto (tgt := 126) dX11_holdsRing_228 (by decide) ?_
    refine rr_sub [1, 0] rfl ?_
    exact hrec126 ((a5.1 + 1), a6.2)
  · refine rr_iconst (v := 0) dX11_holdsRing_144 (by decide) ?_
    refine rr_istore (lv' := [(4, .int 0), (0, .ref 0), (2, .int a5.1), (3, .int a6.1)]) dX11_holdsRing_145 (by decide) rfl ?_
    refine rr_sub [1, 2, 3, 0] rfl ?_
    exact tM_holdsRing_147 a5 rec136 a6 hrec136 FU (0, a6.2)
def LM_holdsRing_126 (rec126 : (Int32 × rr_T) → Option (Int32 × rr_T)) (a5 : Int32 × rr_T) : Option (Int32 × rr_T) :=
  if (a5.2.1 37) ≤ a5.1 then
  JM_holdsRing_231 a5.2
else
  rr_loop FU (LM_holdsRing_136 rec126 a5) (0, a5.2)
set_option maxRecDepth 20000 in
theorem tM_holdsRing_126 {l : Launch} {G : rr_G} : ∀ (n : Nat) (a : Int32 × rr_T), RR l G mX11_holdsRing 2 45 fxA rvIS (fun q => mw q.2) z0 z0 0 0 126 [(0, .ref 0), (2, .int a.1)] [] (mw a.2) (rr_loop n (LM_holdsRing_126) a) := by
  refine rr_lp (α := Int32 × rr_T) 126 (fun a => [(0, .ref 0), (2, .int a.1)]) (fun a => (mw a.2)) (fun rec126 hrec126 a5 => ?_)
  show RR l G mX11_holdsRing 2 45 fxA rvIS (fun q => mw q.2) z0 z0 0 0 126 [(0, .ref 0), (2, .int a5.1)] [] (mw a5.2) (LM_holdsRing_126 rec126 a5)
  unfold LM_holdsRing_126
  refine rr_iload_n dX11_holdsRing_126 rfl 1 rfl ?_
  refine rr_aload_n dX11_holdsRing_127 rfl 0 rfl ?_
  refine rr_get (v := .int (a5.2.1 37)) cl11 k11_162 (Nat.le_of_ble_eq_true rfl) rfl rfl dX11_holdsRing_128 ?_
  refine rr_icmp_ge (tgt := 231) dX11_holdsRing_131 (by decide) (fun _ => ?_) (fun _ => ?_)
  · refine rr_sub [0] rfl ?_
    exact tM_holdsRing_231 a5.2
  · refine rr_iconst (v := 0) dX11_holdsRing_134 (by decide) ?_
    refine rr_istore_n (lv' := [(3, .int 0), (0, .ref 0), (2, .int a5.1)]) dX11_holdsRing_135 rfl (by decide) rfl ?_
    refine rr_sub [1, 2, 0] rfl ?_
    exact tM_holdsRing_136 rec126 a5 hrec126 FU (0, a5.2)
def JM_holdsRing_124 (a2 : rr_T) : Option (Int32 × rr_T) :=
  rr_loop FU (LM_holdsRing_126) (0, a2)
set_option maxRecDepth 20000 in
theorem tM_holdsRing_124 {l : Launch} {G : rr_G} (a2 : rr_T) : RR l G mX11_holdsRing 2 45 fxA rvIS (fun q => mw q.2) z0 z0 0 0 124 [(0, .ref 0)] [] (mw a2) (JM_holdsRing_124 a2) := by
  unfold JM_holdsRing_124
  refine rr_iconst (v := 0) dX11_holdsRing_124 (by decide) ?_
  refine rr_istore_n (lv' := [(2, .int 0), (0, .ref 0)]) dX11_holdsRing_125 rfl (by decide) rfl ?_
  refine rr_sub [1, 0] rfl ?_
  exact tM_holdsRing_126 FU (0, a2)
def JM_holdsRing_101 (rec23 : (Int32 × rr_T) → Option (Int32 × rr_T)) (a10 : Int32 × rr_T) (a13 : rr_T) (a14 : Int32) : Option (Int32 × rr_T) :=
  if a14 = (-1) then
  rec23 ((a10.1 + 1), a13)
else
  if inb ((5 * a10.1) + a14) 25 then
    rr_l (pA a13 30 (((5 * a10.1) + a14)) (vp_nar .boolean 1)) (fun S15 =>
      rec23 ((a10.1 + 1), S15))
  else none
set_option maxRecDepth 20000 in
theorem tM_holdsRing_101 {l : Launch} {G : rr_G} (rec23 : (Int32 × rr_T) → Option (Int32 × rr_T)) (a10 : Int32 × rr_T) (a13 : rr_T) (x1 : Int32) (hrec23 : ∀ a : Int32 × rr_T, RR l G mX11_holdsRing 2 45 fxA rvIS (fun q => mw q.2) z0 z0 0 0 23 [(0, .ref 0), (1, .int x1), (2, .int a.1)] [] (mw a.2) (rec23 a)) (a14 : Int32) : RR l G mX11_holdsRing 2 45 fxA rvIS (fun q => mw q.2) z0 z0 0 0 101 [(0, .ref 0), (1, .int x1), (2, .int a10.1)] [.int a14] (mw a13) (JM_holdsRing_101 rec23 a10 a13 a14) := by
  unfold JM_holdsRing_101
  refine rr_istore_n (lv' := [(3, .int a14), (0, .ref 0), (1, .int x1), (2, .int a10.1)]) dX11_holdsRing_101 rfl (by decide) rfl ?_
  refine rr_iload_n dX11_holdsRing_102 rfl 0 rfl ?_
  refine rr_iconst (v := (-1)) dX11_holdsRing_103 (by decide) ?_
  refine rr_icmp_eq (tgt := 118) dX11_holdsRing_104 (by decide) (fun _ => ?_) (fun _ => ?_)
  · refine rr_iinc (lv' := [(2, .int (a10.1 + 1)), (3, .int a14), (0, .ref 0), (1, .int x1)]) dX11_holdsRing_118 3 rfl (by decide) rfl ?_
    refine rr_goto (tgt := 23) dX11_holdsRing_121 (by decide) ?_
    refine rr_sub [2, 3, 0] rfl ?_
    exact hrec23 ((a10.1 + 1), a13)
  · refine rr_aload_n dX11_holdsRing_107 rfl 1 rfl ?_
    refine rr_get (v := .ref 30) cl11 k11_105 (Nat.le_of_ble_eq_true rfl) rfl rfl dX11_holdsRing_108 ?_
    refine rr_iconst (v := 5) dX11_holdsRing_111 (by decide) ?_
    refine rr_iload_n dX11_holdsRing_112 rfl 3 rfl ?_
    refine rr_imul dX11_holdsRing_113 ?_
    refine rr_iload_n dX11_holdsRing_114 rfl 0 rfl ?_
    refine rr_iadd dX11_holdsRing_115 ?_
    refine rr_iconst (v := 1) dX11_holdsRing_116 (by decide) ?_
    refine rr_if (fun z => ?_)
    refine rr_zast (len := 25) rfl (inb_in z) dX11_holdsRing_117 (ma30 a13 (((5 * a10.1) + a14)) 1) ?_
    refine rr_letS (W := mw) (fun S15 => ?_)
    refine rr_iinc (lv' := [(2, .int (a10.1 + 1)), (3, .int a14), (0, .ref 0), (1, .int x1)]) dX11_holdsRing_118 3 rfl (by decide) rfl ?_
    refine rr_goto (tgt := 23) dX11_holdsRing_121 (by decide) ?_
    refine rr_sub [2, 3, 0] rfl ?_
    exact hrec23 ((a10.1 + 1), S15)
def JM_holdsRing_72 (x1 : Int32) (rec23 : (Int32 × rr_T) → Option (Int32 × rr_T)) (a10 : Int32 × rr_T) (a13 : rr_T) : Option (Int32 × rr_T) :=
  if inb x1 6 then
  if (a13.2.1 9 x1.toNatClampNeg) = (-1) then
    JM_holdsRing_101 rec23 a10 a13 (-1)
  else
    if inb x1 6 then
      if inb ((4 * a10.1) + (a13.2.1 9 x1.toNatClampNeg)) 20 then
        JM_holdsRing_101 rec23 a10 a13 ((a13.2.1 29 ((4 * a10.1) + (a13.2.1 9 x1.toNatClampNeg)).toNatClampNeg))
      else none
    else none
else none
set_option maxRecDepth 20000 in
theorem tM_holdsRing_72 {l : Launch} {G : rr_G} (x1 : Int32) (rec23 : (Int32 × rr_T) → Option (Int32 × rr_T)) (a10 : Int32 × rr_T) (hrec23 : ∀ a : Int32 × rr_T, RR l G mX11_holdsRing 2 45 fxA rvIS (fun q => mw q.2) z0 z0 0 0 23 [(0, .ref 0), (1, .int x1), (2, .int a.1)] [] (mw a.2) (rec23 a)) (a13 : rr_T) : RR l G mX11_holdsRing 2 45 fxA rvIS (fun q => mw q.2) z0 z0 0 0 72 [(0, .ref 0), (1, .int x1), (2, .int a10.1)] [] (mw a13) (JM_holdsRing_72 x1 rec23 a10 a13) := by
  unfold JM_holdsRing_72
  refine rr_aload_n dX11_holdsRing_72 rfl 0 rfl ?_
  refine rr_get (v := .ref 9) cl11 k11_38 (Nat.le_of_ble_eq_true rfl) rfl rfl dX11_holdsRing_73 ?_
  refine rr_iload_n dX11_holdsRing_76 rfl 1 rfl ?_
  refine rr_if (fun z => ?_)
  refine rr_iald (len := 6) rfl (inb_in z) dX11_holdsRing_77 ?_
  refine rr_iconst (v := (-1)) dX11_holdsRing_78 (by decide) ?_
  refine rr_icmp_ne (tgt := 86) dX11_holdsRing_79 (by decide) (fun _ => ?_) (fun _ => ?_)
  · refine rr_aload_n dX11_holdsRing_86 rfl 0 rfl ?_
    refine rr_get (v := .ref 29) cl11 k11_102 (Nat.le_of_ble_eq_true rfl) rfl rfl dX11_holdsRing_87 ?_
    refine rr_iconst (v := 4) dX11_holdsRing_90 (by decide) ?_
    refine rr_iload_n dX11_holdsRing_91 rfl 2 rfl ?_
    refine rr_imul dX11_holdsRing_92 ?_
    refine rr_aload_n dX11_holdsRing_93 rfl 0 rfl ?_
    refine rr_get (v := .ref 9) cl11 k11_38 (Nat.le_of_ble_eq_true rfl) rfl rfl dX11_holdsRing_94 ?_
    refine rr_iload_n dX11_holdsRing_97 rfl 1 rfl ?_
    refine rr_if (fun z => ?_)
    refine rr_iald (len := 6) rfl (inb_in z) dX11_holdsRing_98 ?_
    refine rr_iadd dX11_holdsRing_99 ?_
    refine rr_if (fun z => ?_)
    refine rr_iald (len := 20) rfl (inb_in z) dX11_holdsRing_100 ?_
    exact tM_holdsRing_101 rec23 a10 a13 x1 hrec23 ((a13.2.1 29 ((4 * a10.1) + (a13.2.1 9 x1.toNatClampNeg)).toNatClampNeg))
  · refine rr_iconst (v := (-1)) dX11_holdsRing_82 (by decide) ?_
    refine rr_goto (tgt := 101) dX11_holdsRing_83 (by decide) ?_
    exact tM_holdsRing_101 rec23 a10 a13 x1 hrec23 (-1)
def LM_holdsRing_23 (x1 : Int32) (rec23 : (Int32 × rr_T) → Option (Int32 × rr_T)) (a10 : Int32 × rr_T) : Option (Int32 × rr_T) :=
  if (a10.2.1 37) ≤ a10.1 then
  JM_holdsRing_124 a10.2
else
  (fM_isSuch a10.2 a10.1 x1).bind (fun r11 =>
    if r11 = 0 then
    rec23 ((a10.1 + 1), a10.2)
  else
    if inb x1 6 then
      if inb ((4 * a10.1) + (a10.2.2.1 8 x1.toNatClampNeg)) 20 then
        rr_l ((a10.2.2.1 29 ((4 * a10.1) + (a10.2.2.1 8 x1.toNatClampNeg)).toNatClampNeg)) (fun v12 =>
          if v12 = (-1) then
          JM_holdsRing_72 x1 rec23 a10 a10.2
        else
          if inb ((5 * a10.1) + v12) 25 then
            rr_l (pA a10.2 30 (((5 * a10.1) + v12)) (vp_nar .boolean 1)) (fun S16 =>
              JM_holdsRing_72 x1 rec23 a10 S16)
          else none)
      else none
    else none)
set_option maxRecDepth 20000 in
theorem tM_holdsRing_23 {l : Launch} {G : rr_G} (x1 : Int32) : ∀ (n : Nat) (a : Int32 × rr_T), RR l G mX11_holdsRing 2 45 fxA rvIS (fun q => mw q.2) z0 z0 0 0 23 [(0, .ref 0), (1, .int x1), (2, .int a.1)] [] (mw a.2) (rr_loop n (LM_holdsRing_23 x1) a) := by
  refine rr_lp (α := Int32 × rr_T) 23 (fun a => [(0, .ref 0), (1, .int x1), (2, .int a.1)]) (fun a => (mw a.2)) (fun rec23 hrec23 a10 => ?_)
  show RR l G mX11_holdsRing 2 45 fxA rvIS (fun q => mw q.2) z0 z0 0 0 23 [(0, .ref 0), (1, .int x1), (2, .int a10.1)] [] (mw a10.2) (LM_holdsRing_23 x1 rec23 a10)
  unfold LM_holdsRing_23
  refine rr_iload_n dX11_holdsRing_23 rfl 2 rfl ?_
  refine rr_aload_n dX11_holdsRing_24 rfl 0 rfl ?_
  refine rr_get (v := .int (a10.2.1 37)) cl11 k11_162 (Nat.le_of_ble_eq_true rfl) rfl rfl dX11_holdsRing_25 ?_
  refine rr_icmp_ge (tgt := 124) dX11_holdsRing_28 (by decide) (fun _ => ?_) (fun _ => ?_)
  · refine rr_sub [0] rfl ?_
    exact tM_holdsRing_124 a10.2
  · refine rr_aload_n dX11_holdsRing_31 rfl 0 rfl ?_
    refine rr_iload_n dX11_holdsRing_32 rfl 2 rfl ?_
    refine rr_iload_n dX11_holdsRing_33 rfl 1 rfl ?_
    refine rr_vi (As := [.int a10.1, .int x1]) (rest := []) (tM_isSuch a10.2 a10.1 x1) v11_193 rfl rfl ⟨Nat.le_of_ble_eq_true rfl, Nat.le_of_ble_eq_true rfl⟩ rfl rfl (Nat.le_of_ble_eq_true rfl) rfl dX11_holdsRing_34 (fun r11 => ?_)
    refine rr_if_eq (tgt := 118) dX11_holdsRing_37 (by decide) (fun _ => ?_) (fun _ => ?_)
    · refine rr_iinc (lv' := [(2, .int (a10.1 + 1)), (0, .ref 0), (1, .int x1)]) dX11_holdsRing_118 2 rfl (by decide) rfl ?_
      refine rr_goto (tgt := 23) dX11_holdsRing_121 (by decide) ?_
      refine rr_sub [1, 2, 0] rfl ?_
      exact hrec23 ((a10.1 + 1), a10.2)
    · refine rr_aload_n dX11_holdsRing_40 rfl 0 rfl ?_
      refine rr_get (v := .ref 29) cl11 k11_102 (Nat.le_of_ble_eq_true rfl) rfl rfl dX11_holdsRing_41 ?_
      refine rr_iconst (v := 4) dX11_holdsRing_44 (by decide) ?_
      refine rr_iload_n dX11_holdsRing_45 rfl 2 rfl ?_
      refine rr_imul dX11_holdsRing_46 ?_
      refine rr_aload_n dX11_holdsRing_47 rfl 0 rfl ?_
      refine rr_get (v := .ref 8) cl11 k11_35 (Nat.le_of_ble_eq_true rfl) rfl rfl dX11_holdsRing_48 ?_
      refine rr_iload_n dX11_holdsRing_51 rfl 1 rfl ?_
      refine rr_if (fun z => ?_)
      refine rr_iald (len := 6) rfl (inb_in z) dX11_holdsRing_52 ?_
      refine rr_iadd dX11_holdsRing_53 ?_
      refine rr_if (fun z => ?_)
      refine rr_iald (len := 20) rfl (inb_in z) dX11_holdsRing_54 ?_
      refine rr_letI (fun v12 => ?_)
      refine rr_istore_n (lv' := [(3, .int v12), (0, .ref 0), (1, .int x1), (2, .int a10.1)]) dX11_holdsRing_55 rfl (by decide) rfl ?_
      refine rr_iload_n dX11_holdsRing_56 rfl 0 rfl ?_
      refine rr_iconst (v := (-1)) dX11_holdsRing_57 (by decide) ?_
      refine rr_icmp_eq (tgt := 72) dX11_holdsRing_58 (by decide) (fun _ => ?_) (fun _ => ?_)
      · refine rr_sub [1, 2, 3] rfl ?_
        exact tM_holdsRing_72 x1 rec23 a10 hrec23 a10.2
      · refine rr_aload_n dX11_holdsRing_61 rfl 1 rfl ?_
        refine rr_get (v := .ref 30) cl11 k11_105 (Nat.le_of_ble_eq_true rfl) rfl rfl dX11_holdsRing_62 ?_
        refine rr_iconst (v := 5) dX11_holdsRing_65 (by decide) ?_
        refine rr_iload_n dX11_holdsRing_66 rfl 3 rfl ?_
        refine rr_imul dX11_holdsRing_67 ?_
        refine rr_iload_n dX11_holdsRing_68 rfl 0 rfl ?_
        refine rr_iadd dX11_holdsRing_69 ?_
        refine rr_iconst (v := 1) dX11_holdsRing_70 (by decide) ?_
        refine rr_if (fun z => ?_)
        refine rr_zast (len := 25) rfl (inb_in z) dX11_holdsRing_71 (ma30 a10.2 (((5 * a10.1) + v12)) 1) ?_
        refine rr_letS (W := mw) (fun S16 => ?_)
        refine rr_sub [1, 2, 3] rfl ?_
        exact tM_holdsRing_72 x1 rec23 a10 hrec23 S16
def JM_holdsRing_21 (x1 : Int32) (a1 : rr_T) : Option (Int32 × rr_T) :=
  rr_loop FU (LM_holdsRing_23 x1) (0, a1)
set_option maxRecDepth 20000 in
theorem tM_holdsRing_21 {l : Launch} {G : rr_G} (x1 : Int32) (a1 : rr_T) : RR l G mX11_holdsRing 2 45 fxA rvIS (fun q => mw q.2) z0 z0 0 0 21 [(0, .ref 0), (1, .int x1)] [] (mw a1) (JM_holdsRing_21 x1 a1) := by
  unfold JM_holdsRing_21
  refine rr_iconst (v := 0) dX11_holdsRing_21 (by decide) ?_
  refine rr_istore_n (lv' := [(2, .int 0), (0, .ref 0), (1, .int x1)]) dX11_holdsRing_22 rfl (by decide) rfl ?_
  refine rr_sub [1, 2, 0] rfl ?_
  exact tM_holdsRing_23 x1 FU (0, a1)
def LM_holdsRing_2 (x1 : Int32) (rec2 : (Int32 × rr_T) → Option (Int32 × rr_T)) (a17 : Int32 × rr_T) : Option (Int32 × rr_T) :=
  if 25 ≤ a17.1 then
  JM_holdsRing_21 x1 a17.2
else
  if inb a17.1 25 then
    rr_l (pA a17.2 30 a17.1 (vp_nar .boolean 0)) (fun S18 =>
      rec2 ((a17.1 + 1), S18))
  else none
set_option maxRecDepth 20000 in
theorem tM_holdsRing_2 {l : Launch} {G : rr_G} (x1 : Int32) : ∀ (n : Nat) (a : Int32 × rr_T), RR l G mX11_holdsRing 2 45 fxA rvIS (fun q => mw q.2) z0 z0 0 0 2 [(0, .ref 0), (1, .int x1), (2, .int a.1)] [] (mw a.2) (rr_loop n (LM_holdsRing_2 x1) a) := by
  refine rr_lp (α := Int32 × rr_T) 2 (fun a => [(0, .ref 0), (1, .int x1), (2, .int a.1)]) (fun a => (mw a.2)) (fun rec2 hrec2 a17 => ?_)
  show RR l G mX11_holdsRing 2 45 fxA rvIS (fun q => mw q.2) z0 z0 0 0 2 [(0, .ref 0), (1, .int x1), (2, .int a17.1)] [] (mw a17.2) (LM_holdsRing_2 x1 rec2 a17)
  unfold LM_holdsRing_2
  refine rr_iload_n dX11_holdsRing_2 rfl 2 rfl ?_
  refine rr_bipush (v := 25) dX11_holdsRing_3 (by decide) ?_
  refine rr_icmp_ge (tgt := 21) dX11_holdsRing_5 (by decide) (fun _ => ?_) (fun _ => ?_)
  · refine rr_sub [0, 1] rfl ?_
    exact tM_holdsRing_21 x1 a17.2
  · refine rr_aload_n dX11_holdsRing_8 rfl 0 rfl ?_
    refine rr_get (v := .ref 30) cl11 k11_105 (Nat.le_of_ble_eq_true rfl) rfl rfl dX11_holdsRing_9 ?_
    refine rr_iload_n dX11_holdsRing_12 rfl 2 rfl ?_
    refine rr_iconst (v := 0) dX11_holdsRing_13 (by decide) ?_
    refine rr_if (fun z => ?_)
    refine rr_zast (len := 25) rfl (inb_in z) dX11_holdsRing_14 (ma30 a17.2 a17.1 0) ?_
    refine rr_letS (W := mw) (fun S18 => ?_)
    refine rr_iinc (lv' := [(2, .int (a17.1 + 1)), (0, .ref 0), (1, .int x1)]) dX11_holdsRing_15 2 rfl (by decide) rfl ?_
    refine rr_goto (tgt := 2) dX11_holdsRing_18 (by decide) ?_
    refine rr_sub [1, 2, 0] rfl ?_
    exact hrec2 ((a17.1 + 1), S18)
def fM_holdsRing (S : rr_T) (x1 : Int32) : Option (Int32 × rr_T) :=
  rr_loop FU (LM_holdsRing_2 x1) (0, S)
set_option maxRecDepth 20000 in
theorem tM_holdsRing {l : Launch} {G : rr_G} (S : rr_T) (x1 : Int32) : TT l G mX11_holdsRing 2 45 fxA rvIS (fun q => mw q.2) z0 z0 0 0 [.ref 0, .int x1] (mw S) (fM_holdsRing S x1) := by
  refine TT.by (by decide) (Nat.le_of_ble_eq_true rfl) (lv := [(0, .ref 0), (1, .int x1)]) rfl ?_
  show RR l G mX11_holdsRing 2 45 fxA rvIS (fun q => mw q.2) z0 z0 0 0 0 [(0, .ref 0), (1, .int x1)] [] (mw S) (fM_holdsRing S x1)
  unfold fM_holdsRing
  refine rr_iconst (v := 0) dX11_holdsRing_0 (by decide) ?_
  refine rr_istore_n (lv' := [(2, .int 0), (0, .ref 0), (1, .int x1)]) dX11_holdsRing_1 rfl (by decide) rfl ?_
  refine rr_sub [1, 2, 0] rfl ?_
  exact tM_holdsRing_2 x1 FU (0, S)
def JM_holdsApart_128 (rec4 : (Int32 × Int32) → Option Int32) (a1 : Int32 × Int32) (a2 : Int32) : Option Int32 :=
  if a1.1 = 0 then
  rec4 (0, (a1.2 + 1))
else
  if 2 ≤ a2 then
    rec4 (0, (a1.2 + 1))
  else
    rec4 (1, (a1.2 + 1))
set_option maxRecDepth 20000 in
theorem tM_holdsApart_128 {l : Launch} {G : rr_G} (rec4 : (Int32 × Int32) → Option Int32) (a1 : Int32 × Int32) (S : rr_T) (x1 : Int32) (hrec4 : ∀ a : Int32 × Int32, RR l G mX11_holdsApart 2 45 fxA rvI (fun _ => mw S) z0 z0 0 0 4 [(0, .ref 0), (1, .int x1), (2, .int a.1), (3, .int a.2)] [] (mw S) (rec4 a)) (a2 : Int32) : RR l G mX11_holdsApart 2 45 fxA rvI (fun _ => mw S) z0 z0 0 0 128 [(0, .ref 0), (1, .int x1), (2, .int a1.1), (3, .int a1.2), (4, .int a2)] [] (mw S) (JM_holdsApart_128 rec4 a1 a2) := by
  unfold JM_holdsApart_128
  refine rr_iload_n dX11_holdsApart_128 rfl 2 rfl ?_
  refine rr_if_eq (tgt := 142) dX11_holdsApart_129 (by decide) (fun _ => ?_) (fun _ => ?_)
  · refine rr_iconst (v := 0) dX11_holdsApart_142 (by decide) ?_
    refine rr_istore_n (lv' := [(2, .int 0), (0, .ref 0), (1, .int x1), (3, .int a1.2), (4, .int a2)]) dX11_holdsApart_143 rfl (by decide) rfl ?_
    refine rr_iinc (lv' := [(3, .int (a1.2 + 1)), (2, .int 0), (0, .ref 0), (1, .int x1), (4, .int a2)]) dX11_holdsApart_144 3 rfl (by decide) rfl ?_
    refine rr_goto (tgt := 4) dX11_holdsApart_147 (by decide) ?_
    refine rr_sub [2, 3, 1, 0] rfl ?_
    exact hrec4 (0, (a1.2 + 1))
  · refine rr_iload dX11_holdsApart_132 4 rfl ?_
    refine rr_iconst (v := 2) dX11_holdsApart_134 (by decide) ?_
    refine rr_icmp_ge (tgt := 142) dX11_holdsApart_135 (by decide) (fun _ => ?_) (fun _ => ?_)
    · refine rr_iconst (v := 0) dX11_holdsApart_142 (by decide) ?_
      refine rr_istore_n (lv' := [(2, .int 0), (0, .ref 0), (1, .int x1), (3, .int a1.2), (4, .int a2)]) dX11_holdsApart_143 rfl (by decide) rfl ?_
      refine rr_iinc (lv' := [(3, .int (a1.2 + 1)), (2, .int 0), (0, .ref 0), (1, .int x1), (4, .int a2)]) dX11_holdsApart_144 3 rfl (by decide) rfl ?_
      refine rr_goto (tgt := 4) dX11_holdsApart_147 (by decide) ?_
      refine rr_sub [2, 3, 1, 0] rfl ?_
      exact hrec4 (0, (a1.2 + 1))
    · refine rr_iconst (v := 1) dX11_holdsApart_138 (by decide) ?_
      refine rr_goto (tgt := 143) dX11_holdsApart_139 (by decide) ?_
      refine rr_istore_n (lv' := [(2, .int 1), (0, .ref 0), (1, .int x1), (3, .int a1.2), (4, .int a2)]) dX11_holdsApart_143 rfl (by decide) rfl ?_
      refine rr_iinc (lv' := [(3, .int (a1.2 + 1)), (2, .int 1), (0, .ref 0), (1, .int x1), (4, .int a2)]) dX11_holdsApart_144 3 rfl (by decide) rfl ?_
      refine rr_goto (tgt := 4) dX11_holdsApart_147 (by decide) ?_
      refine rr_sub [2, 3, 1, 0] rfl ?_
      exact hrec4 (1, (a1.2 + 1))
def JM_holdsApart_64 (S : rr_T) (x1 : Int32) (a1 : Int32 × Int32) (rec18 : (Int32 × Int32) → Option Int32) (a3 : Int32 × Int32) (a5 : Int32) : Option Int32 :=
  rr_l ((a3.1 + a5)) (fun v6 =>
  if inb x1 6 then
  if (S.2.1 9 x1.toNatClampNeg) = (-1) then
    rr_l ((v6 + 0)) (fun v7 =>
      rec18 (v7, (a3.2 + 1)))
  else
    if inb x1 6 then
      if inb x1 6 then
        if (S.2.1 9 x1.toNatClampNeg) = (S.2.1 8 x1.toNatClampNeg) then
          rr_l ((v6 + 0)) (fun v8 =>
            rec18 (v8, (a3.2 + 1)))
        else
          if inb x1 6 then
            if inb ((4 * a3.2) + (S.2.1 9 x1.toNatClampNeg)) 20 then
              if (S.2.1 29 ((4 * a3.2) + (S.2.1 9 x1.toNatClampNeg)).toNatClampNeg) = a1.2 then
                rr_l ((v6 + 1)) (fun v10 =>
                  rec18 (v10, (a3.2 + 1)))
              else
                rr_l ((v6 + 0)) (fun v9 =>
                  rec18 (v9, (a3.2 + 1)))
            else none
          else none
      else none
    else none
else none)
set_option maxRecDepth 20000 in
theorem tM_holdsApart_64 {l : Launch} {G : rr_G} (S : rr_T) (x1 : Int32) (a1 : Int32 × Int32) (rec18 : (Int32 × Int32) → Option Int32) (a3 : Int32 × Int32) (hrec18 : ∀ a : Int32 × Int32, RR l G mX11_holdsApart 2 45 fxA rvI (fun _ => mw S) z0 z0 0 0 18 [(0, .ref 0), (1, .int x1), (2, .int a1.1), (3, .int a1.2), (4, .int a.1), (5, .int a.2)] [] (mw S) (rec18 a)) (a5 : Int32) : RR l G mX11_holdsApart 2 45 fxA rvI (fun _ => mw S) z0 z0 0 0 64 [(0, .ref 0), (1, .int x1), (2, .int a1.1), (3, .int a1.2), (5, .int a3.2)] [.int a5, .int a3.1] (mw S) (JM_holdsApart_64 S x1 a1 rec18 a3 a5) := by
  unfold JM_holdsApart_64
  refine rr_iadd dX11_holdsApart_64 ?_
  refine rr_letI (fun v6 => ?_)
  refine rr_istore (lv' := [(4, .int v6), (0, .ref 0), (1, .int x1), (2, .int a1.1), (3, .int a1.2), (5, .int a3.2)]) dX11_holdsApart_65 (by decide) rfl ?_
  refine rr_iload dX11_holdsApart_67 0 rfl ?_
  refine rr_aload_n dX11_holdsApart_69 rfl 1 rfl ?_
  refine rr_get (v := .ref 9) cl11 k11_38 (Nat.le_of_ble_eq_true rfl) rfl rfl dX11_holdsApart_70 ?_
  refine rr_iload_n dX11_holdsApart_73 rfl 2 rfl ?_
  refine rr_if (fun z => ?_)
  refine rr_iald (len := 6) rfl (inb_in z) dX11_holdsApart_74 ?_
  refine rr_iconst (v := (-1)) dX11_holdsApart_75 (by decide) ?_
  refine rr_icmp_eq (tgt := 118) dX11_holdsApart_76 (by decide) (fun _ => ?_) (fun _ => ?_)
  · refine rr_iconst (v := 0) dX11_holdsApart_118 (by decide) ?_
    refine rr_iadd dX11_holdsApart_119 ?_
    refine rr_letI (fun v7 => ?_)
    refine rr_istore (lv' := [(4, .int v7), (0, .ref 0), (1, .int x1), (2, .int a1.1), (3, .int a1.2), (5, .int a3.2)]) dX11_holdsApart_120 (by decide) rfl ?_
    refine rr_iinc (lv' := [(5, .int (a3.2 + 1)), (4, .int v7), (0, .ref 0), (1, .int x1), (2, .int a1.1), (3, .int a1.2)]) dX11_holdsApart_122 5 rfl (by decide) rfl ?_
    refine rr_goto (tgt := 18) dX11_holdsApart_125 (by decide) ?_
    refine rr_sub [2, 3, 4, 5, 1, 0] rfl ?_
    exact hrec18 (v7, (a3.2 + 1))
  · refine rr_aload_n dX11_holdsApart_79 rfl 1 rfl ?_
    refine rr_get (v := .ref 9) cl11 k11_38 (Nat.le_of_ble_eq_true rfl) rfl rfl dX11_holdsApart_80 ?_
    refine rr_iload_n dX11_holdsApart_83 rfl 2 rfl ?_
    refine rr_if (fun z => ?_)
    refine rr_iald (len := 6) rfl (inb_in z) dX11_holdsApart_84 ?_
    refine rr_aload_n dX11_holdsApart_85 rfl 1 rfl ?_
    refine rr_get (v := .ref 8) cl11 k11_35 (Nat.le_of_ble_eq_true rfl) rfl rfl dX11_holdsApart_86 ?_
    refine rr_iload_n dX11_holdsApart_89 rfl 2 rfl ?_
    refine rr_if (fun z => ?_)
    refine rr_iald (len := 6) rfl (inb_in z) dX11_holdsApart_90 ?_
    refine rr_icmp_eq (tgt := 118) dX11_holdsApart_91 (by decide) (fun _ => ?_) (fun _ => ?_)
    · refine rr_iconst (v := 0) dX11_holdsApart_118 (by decide) ?_
      refine rr_iadd dX11_holdsApart_119 ?_
      refine rr_letI (fun v8 => ?_)
      refine rr_istore (lv' := [(4, .int v8), (0, .ref 0), (1, .int x1), (2, .int a1.1), (3, .int a1.2), (5, .int a3.2)]) dX11_holdsApart_120 (by decide) rfl ?_
      refine rr_iinc (lv' := [(5, .int (a3.2 + 1)), (4, .int v8), (0, .ref 0), (1, .int x1), (2, .int a1.1), (3, .int a1.2)]) dX11_holdsApart_122 5 rfl (by decide) rfl ?_
      refine rr_goto (tgt := 18) dX11_holdsApart_125 (by decide) ?_
      refine rr_sub [2, 3, 4, 5, 1, 0] rfl ?_
      exact hrec18 (v8, (a3.2 + 1))
    · refine rr_aload_n dX11_holdsApart_94 rfl 1 rfl ?_
      refine rr_get (v := .ref 29) cl11 k11_102 (Nat.le_of_ble_eq_true rfl) rfl rfl dX11_holdsApart_95 ?_
      refine rr_iconst (v := 4) dX11_holdsApart_98 (by decide) ?_
      refine rr_iload dX11_holdsApart_99 5 rfl ?_
      refine rr_imul dX11_holdsApart_101 ?_
      refine rr_aload_n dX11_holdsApart_102 rfl 1 rfl ?_
      refine rr_get (v := .ref 9) cl11 k11_38 (Nat.le_of_ble_eq_true rfl) rfl rfl dX11_holdsApart_103 ?_
      refine rr_iload_n dX11_holdsApart_106 rfl 2 rfl ?_
      refine rr_if (fun z => ?_)
      refine rr_iald (len := 6) rfl (inb_in z) dX11_holdsApart_107 ?_
      refine rr_iadd dX11_holdsApart_108 ?_
      refine rr_if (fun z => ?_)
      refine rr_iald (len := 20) rfl (inb_in z) dX11_holdsApart_109 ?_
      refine rr_iload_n dX11_holdsApart_110 rfl 4 rfl ?_
      refine rr_icmp_ne (tgt := 118) dX11_holdsApart_111 (by decide) (fun _ => ?_) (fun _ => ?_)
      · refine rr_iconst (v := 0) dX11_holdsApart_118 (by decide) ?_
        refine rr_iadd dX11_holdsApart_119 ?_
        refine rr_letI (fun v9 => ?_)
        refine rr_istore (lv' := [(4, .int v9), (0, .ref 0), (1, .int x1), (2, .int a1.1), (3, .int a1.2), (5, .int a3.2)]) dX11_holdsApart_120 (by decide) rfl ?_
        refine rr_iinc (lv' := [(5, .int (a3.2 + 1)), (4, .int v9), (0, .ref 0), (1, .int x1), (2, .int a1.1), (3, .int a1.2)]) dX11_holdsApart_122 5 rfl (by decide) rfl ?_
        refine rr_goto (tgt := 18) dX11_holdsApart_125 (by decide) ?_
        refine rr_sub [2, 3, 4, 5, 1, 0] rfl ?_
        exact hrec18 (v9, (a3.2 + 1))
      · refine rr_iconst (v := 1) dX11_holdsApart_114 (by decide) ?_
        refine rr_goto (tgt := 119) dX11_holdsApart_115 (by decide) ?_
        refine rr_iadd dX11_holdsApart_119 ?_
        refine rr_letI (fun v10 => ?_)
        refine rr_istore (lv' := [(4, .int v10), (0, .ref 0), (1, .int x1), (2, .int a1.1), (3, .int a1.2), (5, .int a3.2)]) dX11_holdsApart_120 (by decide) rfl ?_
        refine rr_iinc (lv' := [(5, .int (a3.2 + 1)), (4, .int v10), (0, .ref 0), (1, .int x1), (2, .int a1.1), (3, .int a1.2)]) dX11_holdsApart_122 5 rfl (by decide) rfl ?_
        refine rr_goto (tgt := 18) dX11_holdsApart_125 (by decide) ?_
        refine rr_sub [2, 3, 4, 5, 1, 0] rfl ?_
        exact hrec18 (v10, (a3.2 + 1))
def LM_holdsApart_18 (S : rr_T) (x1 : Int32) (rec4 : (Int32 × Int32) → Option Int32) (a1 : Int32 × Int32) (rec18 : (Int32 × Int32) → Option Int32) (a3 : Int32 × Int32) : Option Int32 :=
  if (S.1 37) ≤ a3.2 then
  JM_holdsApart_128 rec4 a1 a3.1
else
  (fM_isSuch S a3.2 x1).bind (fun r4 =>
    if r4 = 0 then
    rec18 (a3.1, (a3.2 + 1))
  else
    if inb x1 6 then
      if inb ((4 * a3.2) + (S.2.1 8 x1.toNatClampNeg)) 20 then
        if (S.2.1 29 ((4 * a3.2) + (S.2.1 8 x1.toNatClampNeg)).toNatClampNeg) = a1.2 then
          JM_holdsApart_64 S x1 a1 rec18 a3 1
        else
          JM_holdsApart_64 S x1 a1 rec18 a3 0
      else none
    else none)
set_option maxRecDepth 20000 in
theorem tM_holdsApart_18 {l : Launch} {G : rr_G} (S : rr_T) (x1 : Int32) (rec4 : (Int32 × Int32) → Option Int32) (a1 : Int32 × Int32) (hrec4 : ∀ a : Int32 × Int32, RR l G mX11_holdsApart 2 45 fxA rvI (fun _ => mw S) z0 z0 0 0 4 [(0, .ref 0), (1, .int x1), (2, .int a.1), (3, .int a.2)] [] (mw S) (rec4 a)) : ∀ (n : Nat) (a : Int32 × Int32), RR l G mX11_holdsApart 2 45 fxA rvI (fun _ => mw S) z0 z0 0 0 18 [(0, .ref 0), (1, .int x1), (2, .int a1.1), (3, .int a1.2), (4, .int a.1), (5, .int a.2)] [] (mw S) (rr_loop n (LM_holdsApart_18 S x1 rec4 a1) a) := by
  refine rr_lp (α := Int32 × Int32) 18 (fun a => [(0, .ref 0), (1, .int x1), (2, .int a1.1), (3, .int a1.2), (4, .int a.1), (5, .int a.2)]) (fun a => (mw S)) (fun rec18 hrec18 a3 => ?_)
  show RR l G mX11_holdsApart 2 45 fxA rvI (fun _ => mw S) z0 z0 0 0 18 [(0, .ref 0), (1, .int x1), (2, .int a1.1), (3, .int a1.2), (4, .int a3.1), (5, .int a3.2)] [] (mw S) (LM_holdsApart_18 S x1 rec4 a1 rec18 a3)
  unfold LM_holdsApart_18
  refine rr_iload dX11_holdsApart_18 5 rfl ?_
  refine rr_aload_n dX11_holdsApart_20 rfl 0 rfl ?_
  refine rr_get (v := .int (S.1 37)) cl11 k11_162 (Nat.le_of_ble_eq_true rfl) rfl rfl dX11_holdsApart_21 ?_
  refine rr_icmp_ge (tgt := 128) dX11_holdsApart_24 (by decide) (fun _ => ?_) (fun _ => ?_)
  · refine rr_sub [0, 1, 2, 3, 4] rfl ?_
    exact tM_holdsApart_128 rec4 a1 S x1 hrec4 a3.1
  · refine rr_aload_n dX11_holdsApart_27 rfl 0 rfl ?_
    refine rr_iload dX11_holdsApart_28 5 rfl ?_
    refine rr_iload_n dX11_holdsApart_30 rfl 1 rfl ?_
    refine rr_vi (As := [.int a3.2, .int x1]) (rest := []) (tM_isSuch S a3.2 x1) v11_193 rfl rfl ⟨Nat.le_of_ble_eq_true rfl, Nat.le_of_ble_eq_true rfl⟩ rfl rfl (Nat.le_of_ble_eq_true rfl) rfl dX11_holdsApart_31 (fun r4 => ?_)
    refine rr_if_eq (tgt := 122) dX11_holdsApart_34 (by decide) (fun _ => ?_) (fun _ => ?_)
    · refine rr_iinc (lv' := [(5, .int (a3.2 + 1)), (0, .ref 0), (1, .int x1), (2, .int a1.1), (3, .int a1.2), (4, .int a3.1)]) dX11_holdsApart_122 5 rfl (by decide) rfl ?_
      refine rr_goto (tgt := 18) dX11_holdsApart_125 (by decide) ?_
      refine rr_sub [1, 2, 3, 4, 5, 0] rfl ?_
      exact hrec18 (a3.1, (a3.2 + 1))
    · refine rr_iload dX11_holdsApart_37 4 rfl ?_
      refine rr_aload_n dX11_holdsApart_39 rfl 0 rfl ?_
      refine rr_get (v := .ref 29) cl11 k11_102 (Nat.le_of_ble_eq_true rfl) rfl rfl dX11_holdsApart_40 ?_
      refine rr_iconst (v := 4) dX11_holdsApart_43 (by decide) ?_
      refine rr_iload dX11_holdsApart_44 5 rfl ?_
      refine rr_imul dX11_holdsApart_46 ?_
      refine rr_aload_n dX11_holdsApart_47 rfl 0 rfl ?_
      refine rr_get (v := .ref 8) cl11 k11_35 (Nat.le_of_ble_eq_true rfl) rfl rfl dX11_holdsApart_48 ?_
      refine rr_iload_n dX11_holdsApart_51 rfl 1 rfl ?_
      refine rr_if (fun z => ?_)
      refine rr_iald (len := 6) rfl (inb_in z) dX11_holdsApart_52 ?_
      refine rr_iadd dX11_holdsApart_53 ?_
      refine rr_if (fun z => ?_)
      refine rr_iald (len := 20) rfl (inb_in z) dX11_holdsApart_54 ?_
      refine rr_iload_n dX11_holdsApart_55 rfl 3 rfl ?_
      refine rr_icmp_ne (tgt := 63) dX11_holdsApart_56 (by decide) (fun _ => ?_) (fun _ => ?_)
      · refine rr_iconst (v := 0) dX11_holdsApart_63 (by decide) ?_
        refine rr_sub [0, 1, 2, 3, 5] rfl ?_
        exact tM_holdsApart_64 S x1 a1 rec18 a3 hrec18 0
      · refine rr_iconst (v := 1) dX11_holdsApart_59 (by decide) ?_
        refine rr_goto (tgt := 64) dX11_holdsApart_60 (by decide) ?_
        refine rr_sub [0, 1, 2, 3, 5] rfl ?_
        exact tM_holdsApart_64 S x1 a1 rec18 a3 hrec18 1
def LM_holdsApart_4 (S : rr_T) (x1 : Int32) (rec4 : (Int32 × Int32) → Option Int32) (a1 : Int32 × Int32) : Option Int32 :=
  if (S.1 37) ≤ a1.2 then
  if a1.1 &&& 1 = a1.1 then
    some a1.1
  else none
else
  rr_loop FU (LM_holdsApart_18 S x1 rec4 a1) (0, 0)
set_option maxRecDepth 20000 in
theorem tM_holdsApart_4 {l : Launch} {G : rr_G} (S : rr_T) (x1 : Int32) : ∀ (n : Nat) (a : Int32 × Int32), RR l G mX11_holdsApart 2 45 fxA rvI (fun _ => mw S) z0 z0 0 0 4 [(0, .ref 0), (1, .int x1), (2, .int a.1), (3, .int a.2)] [] (mw S) (rr_loop n (LM_holdsApart_4 S x1) a) := by
  refine rr_lp (α := Int32 × Int32) 4 (fun a => [(0, .ref 0), (1, .int x1), (2, .int a.1), (3, .int a.2)]) (fun a => (mw S)) (fun rec4 hrec4 a1 => ?_)
  show RR l G mX11_holdsApart 2 45 fxA rvI (fun _ => mw S) z0 z0 0 0 4 [(0, .ref 0), (1, .int x1), (2, .int a1.1), (3, .int a1.2)] [] (mw S) (LM_holdsApart_4 S x1 rec4 a1)
  unfold LM_holdsApart_4
  refine rr_iload_n dX11_holdsApart_4 rfl 3 rfl ?_
  refine rr_aload_n dX11_holdsApart_5 rfl 0 rfl ?_
  refine rr_get (v := .int (S.1 37)) cl11 k11_162 (Nat.le_of_ble_eq_true rfl) rfl rfl dX11_holdsApart_6 ?_
  refine rr_icmp_ge (tgt := 150) dX11_holdsApart_9 (by decide) (fun _ => ?_) (fun _ => ?_)
  · refine rr_iload_n dX11_holdsApart_150 rfl 2 rfl ?_
    refine rr_if (fun z => ?_)
    exact rr_zret dX11_holdsApart_151 rfl z rfl rfl rfl rfl
  · refine rr_iconst (v := 0) dX11_holdsApart_12 (by decide) ?_
    refine rr_istore (lv' := [(4, .int 0), (0, .ref 0), (1, .int x1), (2, .int a1.1), (3, .int a1.2)]) dX11_holdsApart_13 (by decide) rfl ?_
    refine rr_iconst (v := 0) dX11_holdsApart_15 (by decide) ?_
    refine rr_istore (lv' := [(5, .int 0), (4, .int 0), (0, .ref 0), (1, .int x1), (2, .int a1.1), (3, .int a1.2)]) dX11_holdsApart_16 (by decide) rfl ?_
    refine rr_sub [2, 3, 4, 5, 1, 0] rfl ?_
    exact tM_holdsApart_18 S x1 rec4 a1 hrec4 FU (0, 0)
def fM_holdsApart (S : rr_T) (x1 : Int32) : Option Int32 :=
  rr_loop FU (LM_holdsApart_4 S x1) (1, 0)
set_option maxRecDepth 20000 in
theorem tM_holdsApart {l : Launch} {G : rr_G} (S : rr_T) (x1 : Int32) : TT l G mX11_holdsApart 2 45 fxA rvI (fun _ => mw S) z0 z0 0 0 [.ref 0, .int x1] (mw S) (fM_holdsApart S x1) := by
  refine TT.by (by decide) (Nat.le_of_ble_eq_true rfl) (lv := [(0, .ref 0), (1, .int x1)]) rfl ?_
  show RR l G mX11_holdsApart 2 45 fxA rvI (fun _ => mw S) z0 z0 0 0 0 [(0, .ref 0), (1, .int x1)] [] (mw S) (fM_holdsApart S x1)
  unfold fM_holdsApart
  refine rr_iconst (v := 1) dX11_holdsApart_0 (by decide) ?_
  refine rr_istore_n (lv' := [(2, .int 1), (0, .ref 0), (1, .int x1)]) dX11_holdsApart_1 rfl (by decide) rfl ?_
  refine rr_iconst (v := 0) dX11_holdsApart_2 (by decide) ?_
  refine rr_istore_n (lv' := [(3, .int 0), (2, .int 1), (0, .ref 0), (1, .int x1)]) dX11_holdsApart_3 rfl (by decide) rfl ?_
  refine rr_sub [2, 3, 1, 0] rfl ?_
  exact tM_holdsApart_4 S x1 FU (1, 0)
def JM_holdsAt_192 (a3 : Int32) (a4 : Int32) : Option Int32 :=
  if a3 = a4 then
  some 1
else
  some 0
set_option maxRecDepth 20000 in
theorem tM_holdsAt_192 {l : Launch} {G : rr_G} (a3 : Int32) (S : rr_T) (a4 : Int32) : RR l G mX11_holdsAt 2 45 fxA rvI (fun _ => mw S) z0 z0 0 0 192 [] [.int a4, .int a3] (mw S) (JM_holdsAt_192 a3 a4) := by
  unfold JM_holdsAt_192
  refine rr_icmp_ne (tgt := 199) dX11_holdsAt_192 (by decide) (fun _ => ?_) (fun _ => ?_)
  · refine rr_iconst (v := 0) dX11_holdsAt_199 (by decide) ?_
    exact rr_zret dX11_holdsAt_200 rfl (by decide) rfl rfl rfl rfl
  · refine rr_iconst (v := 1) dX11_holdsAt_195 (by decide) ?_
    refine rr_goto (tgt := 200) dX11_holdsAt_196 (by decide) ?_
    exact rr_zret dX11_holdsAt_200 rfl (by decide) rfl rfl rfl rfl
def JM_holdsAt_169 (S : rr_T) (x1 : Int32) (x2 : Int32) (a3 : Int32) : Option Int32 :=
  if inb x1 6 then
  if inb ((4 * x2) + (S.2.1 9 x1.toNatClampNeg)) 20 then
    if (S.2.1 29 ((4 * x2) + (S.2.1 9 x1.toNatClampNeg)).toNatClampNeg) = 0 then
      JM_holdsAt_192 a3 1
    else
      JM_holdsAt_192 a3 0
  else none
else none
set_option maxRecDepth 20000 in
theorem tM_holdsAt_169 {l : Launch} {G : rr_G} (S : rr_T) (x1 : Int32) (x2 : Int32) (a3 : Int32) : RR l G mX11_holdsAt 2 45 fxA rvI (fun _ => mw S) z0 z0 0 0 169 [(0, .ref 0), (1, .int x1), (2, .int x2)] [.int a3] (mw S) (JM_holdsAt_169 S x1 x2 a3) := by
  unfold JM_holdsAt_169
  refine rr_aload_n dX11_holdsAt_169 rfl 0 rfl ?_
  refine rr_get (v := .ref 29) cl11 k11_102 (Nat.le_of_ble_eq_true rfl) rfl rfl dX11_holdsAt_170 ?_
  refine rr_iconst (v := 4) dX11_holdsAt_173 (by decide) ?_
  refine rr_iload_n dX11_holdsAt_174 rfl 2 rfl ?_
  refine rr_imul dX11_holdsAt_175 ?_
  refine rr_aload_n dX11_holdsAt_176 rfl 0 rfl ?_
  refine rr_get (v := .ref 9) cl11 k11_38 (Nat.le_of_ble_eq_true rfl) rfl rfl dX11_holdsAt_177 ?_
  refine rr_iload_n dX11_holdsAt_180 rfl 1 rfl ?_
  refine rr_if (fun z => ?_)
  refine rr_iald (len := 6) rfl (inb_in z) dX11_holdsAt_181 ?_
  refine rr_iadd dX11_holdsAt_182 ?_
  refine rr_if (fun z => ?_)
  refine rr_iald (len := 20) rfl (inb_in z) dX11_holdsAt_183 ?_
  refine rr_if_ne (tgt := 191) dX11_holdsAt_184 (by decide) (fun _ => ?_) (fun _ => ?_)
  · refine rr_iconst (v := 0) dX11_holdsAt_191 (by decide) ?_
    refine rr_sub [] rfl ?_
    exact tM_holdsAt_192 a3 S 0
  · refine rr_iconst (v := 1) dX11_holdsAt_187 (by decide) ?_
    refine rr_goto (tgt := 192) dX11_holdsAt_188 (by decide) ?_
    refine rr_sub [] rfl ?_
    exact tM_holdsAt_192 a3 S 1
def JM_holdsAt_159 (S : rr_T) (x1 : Int32) (x2 : Int32) (v1 : Int32) (a2 : Unit) : Option Int32 :=
  if v1 = (-1) then
  JM_holdsAt_169 S x1 x2 1
else
  JM_holdsAt_169 S x1 x2 0
set_option maxRecDepth 20000 in
theorem tM_holdsAt_159 {l : Launch} {G : rr_G} (S : rr_T) (x1 : Int32) (x2 : Int32) (v1 : Int32) (a2 : Unit) : RR l G mX11_holdsAt 2 45 fxA rvI (fun _ => mw S) z0 z0 0 0 159 [(0, .ref 0), (1, .int x1), (2, .int x2), (3, .int v1)] [] (mw S) (JM_holdsAt_159 S x1 x2 v1 a2) := by
  unfold JM_holdsAt_159
  refine rr_iload_n dX11_holdsAt_159 rfl 3 rfl ?_
  refine rr_iconst (v := (-1)) dX11_holdsAt_160 (by decide) ?_
  refine rr_icmp_ne (tgt := 168) dX11_holdsAt_161 (by decide) (fun _ => ?_) (fun _ => ?_)
  · refine rr_iconst (v := 0) dX11_holdsAt_168 (by decide) ?_
    refine rr_sub [0, 1, 2] rfl ?_
    exact tM_holdsAt_169 S x1 x2 0
  · refine rr_iconst (v := 1) dX11_holdsAt_164 (by decide) ?_
    refine rr_goto (tgt := 169) dX11_holdsAt_165 (by decide) ?_
    refine rr_sub [0, 1, 2] rfl ?_
    exact tM_holdsAt_169 S x1 x2 1
def fM_holdsAt (S : rr_T) (x1 : Int32) (x2 : Int32) : Option Int32 :=
  if inb x1 6 then
  if inb ((4 * x2) + (S.2.1 8 x1.toNatClampNeg)) 20 then
    rr_l ((S.2.1 29 ((4 * x2) + (S.2.1 8 x1.toNatClampNeg)).toNatClampNeg)) (fun v1 =>
      if inb x1 6 then
      if (S.2.1 6 x1.toNatClampNeg) = 0 then
        if v1 = (-1) then
          some 0
        else
          some 1
      else
        if (S.2.1 6 x1.toNatClampNeg) = 1 then
          JM_holdsAt_159 S x1 x2 v1 ()
        else
          if (S.2.1 6 x1.toNatClampNeg) = 2 then
            JM_holdsAt_159 S x1 x2 v1 ()
          else
            if (S.2.1 6 x1.toNatClampNeg) = 3 then
              if v1 = (-1) then
                some 1
              else
                (fM_isSuch S v1 x1).bind (fun r5 =>
                  if r5 = 0 then
                  some 0
                else
                  if inb x1 6 then
                    if inb ((4 * v1) + (S.2.1 9 x1.toNatClampNeg)) 20 then
                      if (S.2.1 29 ((4 * v1) + (S.2.1 9 x1.toNatClampNeg)).toNatClampNeg) = x2 then
                        some 1
                      else
                        some 0
                    else none
                  else none)
            else
              if (S.2.1 6 x1.toNatClampNeg) = 4 then
                if v1 = (-1) then
                  some 1
                else
                  (fM_isSuch S v1 x1).bind (fun r6 =>
                    if r6 = 0 then
                    some 1
                  else
                    if inb x1 6 then
                      if inb ((4 * x2) + (S.2.1 9 x1.toNatClampNeg)) 20 then
                        if inb x1 6 then
                          if inb ((4 * v1) + (S.2.1 9 x1.toNatClampNeg)) 20 then
                            if (S.2.1 29 ((4 * v1) + (S.2.1 9 x1.toNatClampNeg)).toNatClampNeg) < (S.2.1 29 ((4 * x2) + (S.2.1 9 x1.toNatClampNeg)).toNatClampNeg) then
                              some 0
                            else
                              some 1
                          else none
                        else none
                      else none
                    else none)
              else
                JM_holdsAt_159 S x1 x2 v1 ()
    else none)
  else none
else none
set_option maxRecDepth 20000 in
theorem tM_holdsAt {l : Launch} {G : rr_G} (S : rr_T) (x1 : Int32) (x2 : Int32) : TT l G mX11_holdsAt 2 45 fxA rvI (fun _ => mw S) z0 z0 0 0 [.ref 0, .int x1, .int x2] (mw S) (fM_holdsAt S x1 x2) := by
  refine TT.by (by decide) (Nat.le_of_ble_eq_true rfl) (lv := [(0, .ref 0), (1, .int x1), (2, .int x2)]) rfl ?_
  show RR l G mX11_holdsAt 2 45 fxA rvI (fun _ => mw S) z0 z0 0 0 0 [(0, .ref 0), (1, .int x1), (2, .int x2)] [] (mw S) (fM_holdsAt S x1 x2)
  unfold fM_holdsAt
  refine rr_aload_n dX11_holdsAt_0 rfl 0 rfl ?_
  refine rr_get (v := .ref 29) cl11 k11_102 (Nat.le_of_ble_eq_true rfl) rfl rfl dX11_holdsAt_1 ?_
  refine rr_iconst (v := 4) dX11_holdsAt_4 (by decide) ?_
  refine rr_iload_n dX11_holdsAt_5 rfl 2 rfl ?_
  refine rr_imul dX11_holdsAt_6 ?_
  refine rr_aload_n dX11_holdsAt_7 rfl 0 rfl ?_
  refine rr_get (v := .ref 8) cl11 k11_35 (Nat.le_of_ble_eq_true rfl) rfl rfl dX11_holdsAt_8 ?_
  refine rr_iload_n dX11_holdsAt_11 rfl 1 rfl ?_
  refine rr_if (fun z => ?_)
  refine rr_iald (len := 6) rfl (inb_in z) dX11_holdsAt_12 ?_
  refine rr_iadd dX11_holdsAt_13 ?_
  refine rr_if (fun z => ?_)
  refine rr_iald (len := 20) rfl (inb_in z) dX11_holdsAt_14 ?_
  refine rr_letI (fun v1 => ?_)
  refine rr_istore_n (lv' := [(3, .int v1), (0, .ref 0), (1, .int x1), (2, .int x2)]) dX11_holdsAt_15 rfl (by decide) rfl ?_
  refine rr_aload_n dX11_holdsAt_16 rfl 1 rfl ?_
  refine rr_get (v := .ref 6) cl11 k11_29 (Nat.le_of_ble_eq_true rfl) rfl rfl dX11_holdsAt_17 ?_
  refine rr_iload_n dX11_holdsAt_20 rfl 2 rfl ?_
  refine rr_if (fun z => ?_)
  refine rr_iald (len := 6) rfl (inb_in z) dX11_holdsAt_21 ?_
  refine rr_ite (fun z => ?_) (fun z0 => ?_)
  · refine rr_tableIn (off := 34) (tgt := 56) dX11_holdsAt_22 (by rw [z]; decide) (by rw [z]; decide) (by rw [z]; decide) (by decide) ?_
    refine rr_iload_n dX11_holdsAt_56 rfl 0 rfl ?_
    refine rr_iconst (v := (-1)) dX11_holdsAt_57 (by decide) ?_
    refine rr_icmp_eq (tgt := 65) dX11_holdsAt_58 (by decide) (fun _ => ?_) (fun _ => ?_)
    · refine rr_iconst (v := 0) dX11_holdsAt_65 (by decide) ?_
      exact rr_zret dX11_holdsAt_66 rfl (by decide) rfl rfl rfl rfl
    · refine rr_iconst (v := 1) dX11_holdsAt_61 (by decide) ?_
      refine rr_goto (tgt := 66) dX11_holdsAt_62 (by decide) ?_
      exact rr_zret dX11_holdsAt_66 rfl (by decide) rfl rfl rfl rfl
  · refine rr_ite (fun z => ?_) (fun z1 => ?_)
    · refine rr_tableIn (off := 137) (tgt := 159) dX11_holdsAt_22 (by rw [z]; decide) (by rw [z]; decide) (by rw [z]; decide) (by decide) ?_
      refine rr_sub [1, 2, 3, 0] rfl ?_
      exact tM_holdsAt_159 S x1 x2 v1 ()
    · refine rr_ite (fun z => ?_) (fun z2 => ?_)
      · refine rr_tableIn (off := 137) (tgt := 159) dX11_holdsAt_22 (by rw [z]; decide) (by rw [z]; decide) (by rw [z]; decide) (by decide) ?_
        refine rr_sub [1, 2, 3, 0] rfl ?_
        exact tM_holdsAt_159 S x1 x2 v1 ()
      · refine rr_ite (fun z => ?_) (fun z3 => ?_)
        · refine rr_tableIn (off := 45) (tgt := 67) dX11_holdsAt_22 (by rw [z]; decide) (by rw [z]; decide) (by rw [z]; decide) (by decide) ?_
          refine rr_iload_n dX11_holdsAt_67 rfl 0 rfl ?_
          refine rr_iconst (v := (-1)) dX11_holdsAt_68 (by decide) ?_
          refine rr_icmp_eq (tgt := 100) dX11_holdsAt_69 (by decide) (fun _ => ?_) (fun _ => ?_)
          · refine rr_iconst (v := 1) dX11_holdsAt_100 (by decide) ?_
            refine rr_goto (tgt := 105) dX11_holdsAt_101 (by decide) ?_
            exact rr_zret dX11_holdsAt_105 rfl (by decide) rfl rfl rfl rfl
          · refine rr_aload_n dX11_holdsAt_72 rfl 1 rfl ?_
            refine rr_iload_n dX11_holdsAt_73 rfl 0 rfl ?_
            refine rr_iload_n dX11_holdsAt_74 rfl 2 rfl ?_
            refine rr_vi (As := [.int v1, .int x1]) (rest := []) (tM_isSuch S v1 x1) v11_193 rfl rfl ⟨Nat.le_of_ble_eq_true rfl, Nat.le_of_ble_eq_true rfl⟩ rfl rfl (Nat.le_of_ble_eq_true rfl) rfl dX11_holdsAt_75 (fun r5 => ?_)
            refine rr_if_eq (tgt := 104) dX11_holdsAt_78 (by decide) (fun _ => ?_) (fun _ => ?_)
            · refine rr_iconst (v := 0) dX11_holdsAt_104 (by decide) ?_
              exact rr_zret dX11_holdsAt_105 rfl (by decide) rfl rfl rfl rfl
            · refine rr_aload_n dX11_holdsAt_81 rfl 1 rfl ?_
              refine rr_get (v := .ref 29) cl11 k11_102 (Nat.le_of_ble_eq_true rfl) rfl rfl dX11_holdsAt_82 ?_
              refine rr_iconst (v := 4) dX11_holdsAt_85 (by decide) ?_
              refine rr_iload_n dX11_holdsAt_86 rfl 0 rfl ?_
              refine rr_imul dX11_holdsAt_87 ?_
              refine rr_aload_n dX11_holdsAt_88 rfl 1 rfl ?_
              refine rr_get (v := .ref 9) cl11 k11_38 (Nat.le_of_ble_eq_true rfl) rfl rfl dX11_holdsAt_89 ?_
              refine rr_iload_n dX11_holdsAt_92 rfl 2 rfl ?_
              refine rr_if (fun z => ?_)
              refine rr_iald (len := 6) rfl (inb_in z) dX11_holdsAt_93 ?_
              refine rr_iadd dX11_holdsAt_94 ?_
              refine rr_if (fun z => ?_)
              refine rr_iald (len := 20) rfl (inb_in z) dX11_holdsAt_95 ?_
              refine rr_iload_n dX11_holdsAt_96 rfl 3 rfl ?_
              refine rr_icmp_ne (tgt := 104) dX11_holdsAt_97 (by decide) (fun _ => ?_) (fun _ => ?_)
              · refine rr_iconst (v := 0) dX11_holdsAt_104 (by decide) ?_
                exact rr_zret dX11_holdsAt_105 rfl (by decide) rfl rfl rfl rfl
              · refine rr_iconst (v := 1) dX11_holdsAt_100 (by decide) ?_
                refine rr_goto (tgt := 105) dX11_holdsAt_101 (by decide) ?_
                exact rr_zret dX11_holdsAt_105 rfl (by decide) rfl rfl rfl rfl
        · refine rr_ite (fun z => ?_) (fun z4 => ?_)
          · refine rr_tableIn (off := 84) (tgt := 106) dX11_holdsAt_22 (by rw [z]; decide) (by rw [z]; decide) (by rw [z]; decide) (by decide) ?_
            refine rr_iload_n dX11_holdsAt_106 rfl 0 rfl ?_
            refine rr_iconst (v := (-1)) dX11_holdsAt_107 (by decide) ?_
            refine rr_icmp_eq (tgt := 153) dX11_holdsAt_108 (by decide) (fun _ => ?_) (fun _ => ?_)
            · refine rr_iconst (v := 1) dX11_holdsAt_153 (by decide) ?_
              refine rr_goto (tgt := 158) dX11_holdsAt_154 (by decide) ?_
              exact rr_zret dX11_holdsAt_158 rfl (by decide) rfl rfl rfl rfl
            · refine rr_aload_n dX11_holdsAt_111 rfl 1 rfl ?_
              refine rr_iload_n dX11_holdsAt_112 rfl 0 rfl ?_
              refine rr_iload_n dX11_holdsAt_113 rfl 2 rfl ?_
              refine rr_vi (As := [.int v1, .int x1]) (rest := []) (tM_isSuch S v1 x1) v11_193 rfl rfl ⟨Nat.le_of_ble_eq_true rfl, Nat.le_of_ble_eq_true rfl⟩ rfl rfl (Nat.le_of_ble_eq_true rfl) rfl dX11_holdsAt_114 (fun r6 => ?_)
              refine rr_if_eq (tgt := 153) dX11_holdsAt_117 (by decide) (fun _ => ?_) (fun _ => ?_)
              · refine rr_iconst (v := 1) dX11_holdsAt_153 (by decide) ?_
                refine rr_goto (tgt := 158) dX11_holdsAt_154 (by decide) ?_
                exact rr_zret dX11_holdsAt_158 rfl (by decide) rfl rfl rfl rfl
              · refine rr_aload_n dX11_holdsAt_120 rfl 1 rfl ?_
                refine rr_get (v := .ref 29) cl11 k11_102 (Nat.le_of_ble_eq_true rfl) rfl rfl dX11_holdsAt_121 ?_
                refine rr_iconst (v := 4) dX11_holdsAt_124 (by decide) ?_
                refine rr_iload_n dX11_holdsAt_125 rfl 3 rfl ?_
                refine rr_imul dX11_holdsAt_126 ?_
                refine rr_aload_n dX11_holdsAt_127 rfl 1 rfl ?_
                refine rr_get (v := .ref 9) cl11 k11_38 (Nat.le_of_ble_eq_true rfl) rfl rfl dX11_holdsAt_128 ?_
                refine rr_iload_n dX11_holdsAt_131 rfl 2 rfl ?_
                refine rr_if (fun z => ?_)
                refine rr_iald (len := 6) rfl (inb_in z) dX11_holdsAt_132 ?_
                refine rr_iadd dX11_holdsAt_133 ?_
                refine rr_if (fun z => ?_)
                refine rr_iald (len := 20) rfl (inb_in z) dX11_holdsAt_134 ?_
                refine rr_aload_n dX11_holdsAt_135 rfl 1 rfl ?_
                refine rr_get (v := .ref 29) cl11 k11_102 (Nat.le_of_ble_eq_true rfl) rfl rfl dX11_holdsAt_136 ?_
                refine rr_iconst (v := 4) dX11_holdsAt_139 (by decide) ?_
                refine rr_iload_n dX11_holdsAt_140 rfl 0 rfl ?_
                refine rr_imul dX11_holdsAt_141 ?_
                refine rr_aload_n dX11_holdsAt_142 rfl 1 rfl ?_
                refine rr_get (v := .ref 9) cl11 k11_38 (Nat.le_of_ble_eq_true rfl) rfl rfl dX11_holdsAt_143 ?_
                refine rr_iload_n dX11_holdsAt_146 rfl 2 rfl ?_
                refine rr_if (fun z => ?_)
                refine rr_iald (len := 6) rfl (inb_in z) dX11_holdsAt_147 ?_
                refine rr_iadd dX11_holdsAt_148 ?_
                refine rr_if (fun z => ?_)
                refine rr_iald (len := 20) rfl (inb_in z) dX11_holdsAt_149 ?_
                refine rr_icmp_gt (tgt := 157) dX11_holdsAt_150 (by decide) (fun _ => ?_) (fun _ => ?_)
                · refine rr_iconst (v := 0) dX11_holdsAt_157 (by decide) ?_
                  exact rr_zret dX11_holdsAt_158 rfl (by decide) rfl rfl rfl rfl
                · refine rr_iconst (v := 1) dX11_holdsAt_153 (by decide) ?_
                  refine rr_goto (tgt := 158) dX11_holdsAt_154 (by decide) ?_
                  exact rr_zret dX11_holdsAt_158 rfl (by decide) rfl rfl rfl rfl
          · refine rr_tableOut (tgt := 159) dX11_holdsAt_22 (by have h0 := lv_neT (a := 0) z0 (by decide); have h1 := lv_neT (a := 1) z1 (by decide); have h2 := lv_neT (a := 2) z2 (by decide); have h3 := lv_neT (a := 3) z3 (by decide); have h4 := lv_neT (a := 4) z4 (by decide); omega) (by decide) ?_
            refine rr_sub [1, 2, 3, 0] rfl ?_
            exact tM_holdsAt_159 S x1 x2 v1 ()
def LM_holds_95 (S : rr_T) (x1 : Int32) (rec95 : (Int32 × Int32) → Option (Int32 × rr_T)) (a3 : Int32 × Int32) : Option (Int32 × rr_T) :=
  if (S.1 37) ≤ a3.2 then
  if a3.1 &&& 1 = a3.1 then
    some ((a3.1, S))
  else none
else
  if a3.1 = 0 then
    if a3.1 &&& 1 = a3.1 then
      some ((a3.1, S))
    else none
  else
    (fM_isSuch S a3.2 x1).bind (fun r4 =>
      if r4 = 0 then
      rec95 (1, (a3.2 + 1))
    else
      (fM_holdsAt S x1 a3.2).bind (fun r5 =>
        if r5 = 0 then
        rec95 (0, (a3.2 + 1))
      else
        rec95 (1, (a3.2 + 1))))
set_option maxRecDepth 20000 in
theorem tM_holds_95 {l : Launch} {G : rr_G} (S : rr_T) (x1 : Int32) : ∀ (n : Nat) (a : Int32 × Int32), RR l G mX11_holds 3 70 fxA rvIS (fun q => mw q.2) z0 z0 0 0 95 [(0, .ref 0), (1, .int x1), (2, .int a.1), (3, .int a.2)] [] (mw S) (rr_loop n (LM_holds_95 S x1) a) := by
  refine rr_lp (α := Int32 × Int32) 95 (fun a => [(0, .ref 0), (1, .int x1), (2, .int a.1), (3, .int a.2)]) (fun a => (mw S)) (fun rec95 hrec95 a3 => ?_)
  show RR l G mX11_holds 3 70 fxA rvIS (fun q => mw q.2) z0 z0 0 0 95 [(0, .ref 0), (1, .int x1), (2, .int a3.1), (3, .int a3.2)] [] (mw S) (LM_holds_95 S x1 rec95 a3)
  unfold LM_holds_95
  refine rr_iload_n dX11_holds_95 rfl 3 rfl ?_
  refine rr_aload_n dX11_holds_96 rfl 0 rfl ?_
  refine rr_get (v := .int (S.1 37)) cl11 k11_162 (Nat.le_of_ble_eq_true rfl) rfl rfl dX11_holds_97 ?_
  refine rr_icmp_ge (tgt := 137) dX11_holds_100 (by decide) (fun _ => ?_) (fun _ => ?_)
  · refine rr_iload_n dX11_holds_137 rfl 2 rfl ?_
    refine rr_if (fun z => ?_)
    exact rr_zret dX11_holds_138 rfl z rfl rfl rfl rfl
  · refine rr_iload_n dX11_holds_103 rfl 2 rfl ?_
    refine rr_if_eq (tgt := 137) dX11_holds_104 (by decide) (fun _ => ?_) (fun _ => ?_)
    · refine rr_iload_n dX11_holds_137 rfl 2 rfl ?_
      refine rr_if (fun z => ?_)
      exact rr_zret dX11_holds_138 rfl z rfl rfl rfl rfl
    · refine rr_aload_n dX11_holds_107 rfl 0 rfl ?_
      refine rr_iload_n dX11_holds_108 rfl 3 rfl ?_
      refine rr_iload_n dX11_holds_109 rfl 1 rfl ?_
      refine rr_vi (As := [.int a3.2, .int x1]) (rest := []) (tM_isSuch S a3.2 x1) v11_193 rfl rfl ⟨Nat.le_of_ble_eq_true rfl, Nat.le_of_ble_eq_true rfl⟩ rfl rfl (Nat.le_of_ble_eq_true rfl) rfl dX11_holds_110 (fun r4 => ?_)
      refine rr_if_eq (tgt := 125) dX11_holds_113 (by decide) (fun _ => ?_) (fun _ => ?_)
      · refine rr_iconst (v := 1) dX11_holds_125 (by decide) ?_
        refine rr_goto (tgt := 130) dX11_holds_126 (by decide) ?_
        refine rr_istore_n (lv' := [(2, .int 1), (0, .ref 0), (1, .int x1), (3, .int a3.2)]) dX11_holds_130 rfl (by decide) rfl ?_
        refine rr_iinc (lv' := [(3, .int (a3.2 + 1)), (2, .int 1), (0, .ref 0), (1, .int x1)]) dX11_holds_131 3 rfl (by decide) rfl ?_
        refine rr_goto (tgt := 95) dX11_holds_134 (by decide) ?_
        refine rr_sub [2, 3, 1, 0] rfl ?_
        exact hrec95 (1, (a3.2 + 1))
      · refine rr_aload_n dX11_holds_116 rfl 0 rfl ?_
        refine rr_iload_n dX11_holds_117 rfl 1 rfl ?_
        refine rr_iload_n dX11_holds_118 rfl 3 rfl ?_
        refine rr_vi (As := [.int x1, .int a3.2]) (rest := []) (tM_holdsAt S x1 a3.2) v11_202 rfl rfl ⟨Nat.le_of_ble_eq_true rfl, Nat.le_of_ble_eq_true rfl⟩ rfl rfl (Nat.le_of_ble_eq_true rfl) rfl dX11_holds_119 (fun r5 => ?_)
        refine rr_if_eq (tgt := 129) dX11_holds_122 (by decide) (fun _ => ?_) (fun _ => ?_)
        · refine rr_iconst (v := 0) dX11_holds_129 (by decide) ?_
          refine rr_istore_n (lv' := [(2, .int 0), (0, .ref 0), (1, .int x1), (3, .int a3.2)]) dX11_holds_130 rfl (by decide) rfl ?_
          refine rr_iinc (lv' := [(3, .int (a3.2 + 1)), (2, .int 0), (0, .ref 0), (1, .int x1)]) dX11_holds_131 3 rfl (by decide) rfl ?_
          refine rr_goto (tgt := 95) dX11_holds_134 (by decide) ?_
          refine rr_sub [2, 3, 1, 0] rfl ?_
          exact hrec95 (0, (a3.2 + 1))
        · refine rr_iconst (v := 1) dX11_holds_125 (by decide) ?_
          refine rr_goto (tgt := 130) dX11_holds_126 (by decide) ?_
          refine rr_istore_n (lv' := [(2, .int 1), (0, .ref 0), (1, .int x1), (3, .int a3.2)]) dX11_holds_130 rfl (by decide) rfl ?_
          refine rr_iinc (lv' := [(3, .int (a3.2 + 1)), (2, .int 1), (0, .ref 0), (1, .int x1)]) dX11_holds_131 3 rfl (by decide) rfl ?_
          refine rr_goto (tgt := 95) dX11_holds_134 (by decide) ?_
          refine rr_sub [2, 3, 1, 0] rfl ?_
          exact hrec95 (1, (a3.2 + 1))
def fM_holds (S : rr_T) (x1 : Int32) : Option (Int32 × rr_T) :=
  if inb x1 6 then
  if (S.2.1 6 x1.toNatClampNeg) = 1 then
    (fM_holdsRing S x1).bind (fun q1 =>
      if q1.1 &&& 1 = q1.1 then
      some ((q1.1, q1.2))
    else none)
  else
    if (S.2.1 6 x1.toNatClampNeg) = 2 then
      (fM_holdsApart S x1).bind (fun r2 =>
        if r2 &&& 1 = r2 then
        some ((r2, S))
      else none)
    else
      if (S.2.1 6 x1.toNatClampNeg) = 6 then
        if (S.1 5) < 2 then
          some ((1, S))
        else
          if inb 0 2 then
            if (S.2.1 28 (0 : Int32).toNatClampNeg) = (-1) then
              some ((1, S))
            else
              if inb 0 2 then
                if inb 1 2 then
                  if (S.2.1 28 (0 : Int32).toNatClampNeg) = (S.2.1 28 (1 : Int32).toNatClampNeg) then
                    some ((0, S))
                  else
                    some ((1, S))
                else none
              else none
          else none
      else
        rr_loop FU (LM_holds_95 S x1) (1, 0)
else none
set_option maxRecDepth 20000 in
theorem tM_holds {l : Launch} {G : rr_G} (S : rr_T) (x1 : Int32) : TT l G mX11_holds 3 70 fxA rvIS (fun q => mw q.2) z0 z0 0 0 [.ref 0, .int x1] (mw S) (fM_holds S x1) := by
  refine TT.by (by decide) (Nat.le_of_ble_eq_true rfl) (lv := [(0, .ref 0), (1, .int x1)]) rfl ?_
  show RR l G mX11_holds 3 70 fxA rvIS (fun q => mw q.2) z0 z0 0 0 0 [(0, .ref 0), (1, .int x1)] [] (mw S) (fM_holds S x1)
  unfold fM_holds
  refine rr_aload_n dX11_holds_0 rfl 0 rfl ?_
  refine rr_get (v := .ref 6) cl11 k11_29 (Nat.le_of_ble_eq_true rfl) rfl rfl dX11_holds_1 ?_
  refine rr_iload_n dX11_holds_4 rfl 1 rfl ?_
  refine rr_if (fun z => ?_)
  refine rr_iald (len := 6) rfl (inb_in z) dX11_holds_5 ?_
  refine rr_ite (fun z => ?_) (fun z0 => ?_)
  · refine rr_lookup (off := 34) (tgt := 40) dX11_holds_6 (by decide) (by rw [z]; decide) (by decide) ?_
    refine rr_aload_n dX11_holds_40 rfl 0 rfl ?_
    refine rr_iload_n dX11_holds_41 rfl 1 rfl ?_
    refine rr_vis (W := mw) (As := [.int x1]) (rest := []) (tM_holdsRing S x1) v11_196 rfl rfl ⟨Nat.le_of_ble_eq_true rfl, Nat.le_of_ble_eq_true rfl⟩ (fun _ z => z) rfl rfl (Nat.le_of_ble_eq_true rfl) rfl dX11_holds_42 (fun q1 => ?_)
    refine rr_if (fun z => ?_)
    exact rr_zret dX11_holds_45 rfl z rfl rfl rfl rfl
  · refine rr_ite (fun z => ?_) (fun z1 => ?_)
    · refine rr_lookup (off := 40) (tgt := 46) dX11_holds_6 (by decide) (by rw [z]; decide) (by decide) ?_
      refine rr_aload_n dX11_holds_46 rfl 0 rfl ?_
      refine rr_iload_n dX11_holds_47 rfl 1 rfl ?_
      refine rr_vi (As := [.int x1]) (rest := []) (tM_holdsApart S x1) v11_199 rfl rfl ⟨Nat.le_of_ble_eq_true rfl, Nat.le_of_ble_eq_true rfl⟩ rfl rfl (Nat.le_of_ble_eq_true rfl) rfl dX11_holds_48 (fun r2 => ?_)
      refine rr_if (fun z => ?_)
      exact rr_zret dX11_holds_51 rfl z rfl rfl rfl rfl
    · refine rr_ite (fun z => ?_) (fun z2 => ?_)
      · refine rr_lookup (off := 46) (tgt := 52) dX11_holds_6 (by decide) (by rw [z]; decide) (by decide) ?_
        refine rr_aload_n dX11_holds_52 rfl 0 rfl ?_
        refine rr_get (v := .int (S.1 5)) cl11 k11_143 (Nat.le_of_ble_eq_true rfl) rfl rfl dX11_holds_53 ?_
        refine rr_iconst (v := 2) dX11_holds_56 (by decide) ?_
        refine rr_icmp_lt (tgt := 85) dX11_holds_57 (by decide) (fun _ => ?_) (fun _ => ?_)
        · refine rr_iconst (v := 1) dX11_holds_85 (by decide) ?_
          refine rr_goto (tgt := 90) dX11_holds_86 (by decide) ?_
          exact rr_zret dX11_holds_90 rfl (by decide) rfl rfl rfl rfl
        · refine rr_aload_n dX11_holds_60 rfl 0 rfl ?_
          refine rr_get (v := .ref 28) cl11 k11_99 (Nat.le_of_ble_eq_true rfl) rfl rfl dX11_holds_61 ?_
          refine rr_iconst (v := 0) dX11_holds_64 (by decide) ?_
          refine rr_if (fun z => ?_)
          refine rr_iald (len := 2) rfl (inb_in z) dX11_holds_65 ?_
          refine rr_iconst (v := (-1)) dX11_holds_66 (by decide) ?_
          refine rr_icmp_eq (tgt := 85) dX11_holds_67 (by decide) (fun _ => ?_) (fun _ => ?_)
          · refine rr_iconst (v := 1) dX11_holds_85 (by decide) ?_
            refine rr_goto (tgt := 90) dX11_holds_86 (by decide) ?_
            exact rr_zret dX11_holds_90 rfl (by decide) rfl rfl rfl rfl
          · refine rr_aload_n dX11_holds_70 rfl 0 rfl ?_
            refine rr_get (v := .ref 28) cl11 k11_99 (Nat.le_of_ble_eq_true rfl) rfl rfl dX11_holds_71 ?_
            refine rr_iconst (v := 0) dX11_holds_74 (by decide) ?_
            refine rr_if (fun z => ?_)
            refine rr_iald (len := 2) rfl (inb_in z) dX11_holds_75 ?_
            refine rr_aload_n dX11_holds_76 rfl 0 rfl ?_
            refine rr_get (v := .ref 28) cl11 k11_99 (Nat.le_of_ble_eq_true rfl) rfl rfl dX11_holds_77 ?_
            refine rr_iconst (v := 1) dX11_holds_80 (by decide) ?_
            refine rr_if (fun z => ?_)
            refine rr_iald (len := 2) rfl (inb_in z) dX11_holds_81 ?_
            refine rr_icmp_eq (tgt := 89) dX11_holds_82 (by decide) (fun _ => ?_) (fun _ => ?_)
            · refine rr_iconst (v := 0) dX11_holds_89 (by decide) ?_
              exact rr_zret dX11_holds_90 rfl (by decide) rfl rfl rfl rfl
            · refine rr_iconst (v := 1) dX11_holds_85 (by decide) ?_
              refine rr_goto (tgt := 90) dX11_holds_86 (by decide) ?_
              exact rr_zret dX11_holds_90 rfl (by decide) rfl rfl rfl rfl
      · refine rr_lookup (off := 85) (tgt := 91) dX11_holds_6 (by decide) (by show Op.lookupswitch.offset [(1, _), (2, _), (6, _)] _ _ = _; rw [lv_osw (k := 1) z0 (by decide), lv_osw (k := 2) z1 (by decide), lv_osw (k := 6) z2 (by decide)]; rfl) (by decide) ?_
        refine rr_iconst (v := 1) dX11_holds_91 (by decide) ?_
        refine rr_istore_n (lv' := [(2, .int 1), (0, .ref 0), (1, .int x1)]) dX11_holds_92 rfl (by decide) rfl ?_
        refine rr_iconst (v := 0) dX11_holds_93 (by decide) ?_
        refine rr_istore_n (lv' := [(3, .int 0), (2, .int 1), (0, .ref 0), (1, .int x1)]) dX11_holds_94 rfl (by decide) rfl ?_
        refine rr_sub [2, 3, 1, 0] rfl ?_
        exact tM_holds_95 S x1 FU (1, 0)
def JM_freshen_203 (a5 : rr_T) : Option (Int32 × rr_T) :=
  if 4000 < (a5.1 22) then
  some ((0, a5))
else
  some ((1, a5))
set_option maxRecDepth 20000 in
theorem tM_freshen_203 {l : Launch} {G : rr_G} (a5 : rr_T) : RR l G mX11_freshen 5 111 fxA rvIS (fun q => mw q.2) z0 z0 0 0 203 [(0, .ref 0)] [] (mw a5) (JM_freshen_203 a5) := by
  unfold JM_freshen_203
  refine rr_aload_n dX11_freshen_203 rfl 0 rfl ?_
  refine rr_get (v := .int (a5.1 22)) cl11 k11_205 (Nat.le_of_ble_eq_true rfl) rfl rfl dX11_freshen_204 ?_
  refine rr_sipush (v := 4000) dX11_freshen_207 (by decide) ?_
  refine rr_icmp_gt (tgt := 217) dX11_freshen_210 (by decide) (fun _ => ?_) (fun _ => ?_)
  · refine rr_iconst (v := 0) dX11_freshen_217 (by decide) ?_
    exact rr_zret dX11_freshen_218 rfl (by decide) rfl rfl rfl rfl
  · refine rr_iconst (v := 1) dX11_freshen_213 (by decide) ?_
    refine rr_goto (tgt := 218) dX11_freshen_214 (by decide) ?_
    exact rr_zret dX11_freshen_218 rfl (by decide) rfl rfl rfl rfl
def JM_freshen_184 (rec44 : (Int32 × rr_T) → Option (Int32 × rr_T)) (a6 : Int32 × rr_T) (a7 : rr_T) : Option (Int32 × rr_T) :=
  rr_l (pI a7 22 (((a7.1 22) + 1))) (fun S8 =>
  (fM_nextRow S8 a6.1).bind (fun q9 =>
  rec44 (q9.1, q9.2)))
set_option maxRecDepth 20000 in
theorem tM_freshen_184 {l : Launch} {G : rr_G} (rec44 : (Int32 × rr_T) → Option (Int32 × rr_T)) (a6 : Int32 × rr_T) (hrec44 : ∀ a : Int32 × rr_T, RR l G mX11_freshen 5 111 fxA rvIS (fun q => mw q.2) z0 z0 0 0 44 [(0, .ref 0), (1, .int a.1)] [] (mw a.2) (rec44 a)) (a7 : rr_T) : RR l G mX11_freshen 5 111 fxA rvIS (fun q => mw q.2) z0 z0 0 0 184 [(0, .ref 0), (1, .int a6.1)] [] (mw a7) (JM_freshen_184 rec44 a6 a7) := by
  unfold JM_freshen_184
  refine rr_aload_n dX11_freshen_184 rfl 0 rfl ?_
  refine rr_dup dX11_freshen_185 rfl ?_
  refine rr_get (v := .int (a7.1 22)) cl11 k11_205 (Nat.le_of_ble_eq_true rfl) rfl rfl dX11_freshen_186 ?_
  refine rr_iconst (v := 1) dX11_freshen_189 (by decide) ?_
  refine rr_iadd dX11_freshen_190 ?_
  refine rr_put cl11 k11_205 (Nat.le_of_ble_eq_true rfl) rfl rfl rfl rfl (Nat.le_of_ble_eq_true rfl) dX11_freshen_191 (mp22 a7 (((a7.1 22) + 1))) ?_
  refine rr_letS (W := mw) (fun S8 => ?_)
  refine rr_aload_n dX11_freshen_194 rfl 0 rfl ?_
  refine rr_iload_n dX11_freshen_195 rfl 1 rfl ?_
  refine rr_vis (W := mw) (As := [.int a6.1]) (rest := []) (tM_nextRow S8 a6.1) v11_214 rfl rfl ⟨Nat.le_of_ble_eq_true rfl, Nat.le_of_ble_eq_true rfl⟩ (fun _ z => z) rfl rfl (Nat.le_of_ble_eq_true rfl) rfl dX11_freshen_196 (fun q9 => ?_)
  refine rr_istore_n (lv' := [(1, .int q9.1), (0, .ref 0)]) dX11_freshen_199 rfl (by decide) rfl ?_
  refine rr_goto (tgt := 44) dX11_freshen_200 (by decide) ?_
  refine rr_sub [1, 0] rfl ?_
  exact hrec44 (q9.1, q9.2)
def JM_freshen_147 (rec44 : (Int32 × rr_T) → Option (Int32 × rr_T)) (a6 : Int32 × rr_T) (a13 : Int32 × rr_T) : Option (Int32 × rr_T) :=
  if inb (a13.2.1 22) 4000 then
  rr_l (pA a13.2 19 ((a13.2.1 22)) (vp_nar .boolean a13.1)) (fun S14 =>
    if a13.1 = 0 then
    JM_freshen_184 rec44 a6 S14
  else
    if inb (S14.1 25) 4000 then
      rr_l (pA S14 18 ((S14.1 25)) ((S14.1 22))) (fun S15 =>
        rr_l (pI S15 25 (((S15.1 25) + 1))) (fun S16 =>
        JM_freshen_184 rec44 a6 S16))
    else none)
else none
set_option maxRecDepth 20000 in
theorem tM_freshen_147 {l : Launch} {G : rr_G} (rec44 : (Int32 × rr_T) → Option (Int32 × rr_T)) (a6 : Int32 × rr_T) (hrec44 : ∀ a : Int32 × rr_T, RR l G mX11_freshen 5 111 fxA rvIS (fun q => mw q.2) z0 z0 0 0 44 [(0, .ref 0), (1, .int a.1)] [] (mw a.2) (rec44 a)) (a13 : Int32 × rr_T) : RR l G mX11_freshen 5 111 fxA rvIS (fun q => mw q.2) z0 z0 0 0 147 [(0, .ref 0), (1, .int a6.1), (2, .int a13.1)] [] (mw a13.2) (JM_freshen_147 rec44 a6 a13) := by
  unfold JM_freshen_147
  refine rr_aload_n dX11_freshen_147 rfl 0 rfl ?_
  refine rr_get (v := .ref 19) cl11 k11_70 (Nat.le_of_ble_eq_true rfl) rfl rfl dX11_freshen_148 ?_
  refine rr_aload_n dX11_freshen_151 rfl 0 rfl ?_
  refine rr_get (v := .int (a13.2.1 22)) cl11 k11_205 (Nat.le_of_ble_eq_true rfl) rfl rfl dX11_freshen_152 ?_
  refine rr_iload_n dX11_freshen_155 rfl 2 rfl ?_
  refine rr_if (fun z => ?_)
  refine rr_zast (len := 4000) rfl (inb_in z) dX11_freshen_156 (ma19 a13.2 ((a13.2.1 22)) a13.1) ?_
  refine rr_letS (W := mw) (fun S14 => ?_)
  refine rr_iload_n dX11_freshen_157 rfl 2 rfl ?_
  refine rr_if_eq (tgt := 184) dX11_freshen_158 (by decide) (fun _ => ?_) (fun _ => ?_)
  · refine rr_sub [0, 1] rfl ?_
    exact tM_freshen_184 rec44 a6 hrec44 S14
  · refine rr_aload_n dX11_freshen_161 rfl 0 rfl ?_
    refine rr_get (v := .ref 18) cl11 k11_67 (Nat.le_of_ble_eq_true rfl) rfl rfl dX11_freshen_162 ?_
    refine rr_aload_n dX11_freshen_165 rfl 0 rfl ?_
    refine rr_get (v := .int (S14.1 25)) cl11 k11_208 (Nat.le_of_ble_eq_true rfl) rfl rfl dX11_freshen_166 ?_
    refine rr_aload_n dX11_freshen_169 rfl 0 rfl ?_
    refine rr_get (v := .int (S14.1 22)) cl11 k11_205 (Nat.le_of_ble_eq_true rfl) rfl rfl dX11_freshen_170 ?_
    refine rr_if (fun z => ?_)
    refine rr_iast (len := 4000) rfl (inb_in z) dX11_freshen_173 (ma18 S14 ((S14.1 25)) ((S14.1 22))) ?_
    refine rr_letS (W := mw) (fun S15 => ?_)
    refine rr_aload_n dX11_freshen_174 rfl 0 rfl ?_
    refine rr_dup dX11_freshen_175 rfl ?_
    refine rr_get (v := .int (S15.1 25)) cl11 k11_208 (Nat.le_of_ble_eq_true rfl) rfl rfl dX11_freshen_176 ?_
    refine rr_iconst (v := 1) dX11_freshen_179 (by decide) ?_
    refine rr_iadd dX11_freshen_180 ?_
    refine rr_put cl11 k11_208 (Nat.le_of_ble_eq_true rfl) rfl rfl rfl rfl (Nat.le_of_ble_eq_true rfl) dX11_freshen_181 (mp25 S15 (((S15.1 25) + 1))) ?_
    refine rr_letS (W := mw) (fun S16 => ?_)
    refine rr_sub [0, 1] rfl ?_
    exact tM_freshen_184 rec44 a6 hrec44 S16
def LM_freshen_123 (rec44 : (Int32 × rr_T) → Option (Int32 × rr_T)) (a6 : Int32 × rr_T) (rec123 : (Int32 × Int32 × rr_T) → Option (Int32 × rr_T)) (a17 : Int32 × Int32 × rr_T) : Option (Int32 × rr_T) :=
  if (a17.2.2.1 8) ≤ a17.2.1 then
  JM_freshen_147 rec44 a6 (a17.1, a17.2.2)
else
  if a17.1 = 0 then
    JM_freshen_147 rec44 a6 (a17.1, a17.2.2)
  else
    (fM_holds a17.2.2 a17.2.1).bind (fun q18 =>
      rec123 (q18.1, (a17.2.1 + 1), q18.2))
set_option maxRecDepth 20000 in
theorem tM_freshen_123 {l : Launch} {G : rr_G} (rec44 : (Int32 × rr_T) → Option (Int32 × rr_T)) (a6 : Int32 × rr_T) (hrec44 : ∀ a : Int32 × rr_T, RR l G mX11_freshen 5 111 fxA rvIS (fun q => mw q.2) z0 z0 0 0 44 [(0, .ref 0), (1, .int a.1)] [] (mw a.2) (rec44 a)) : ∀ (n : Nat) (a : Int32 × Int32 × rr_T), RR l G mX11_freshen 5 111 fxA rvIS (fun q => mw q.2) z0 z0 0 0 123 [(0, .ref 0), (1, .int a6.1), (2, .int a.1), (3, .int a.2.1)] [] (mw a.2.2) (rr_loop n (LM_freshen_123 rec44 a6) a) := by
  refine rr_lp (α := Int32 × Int32 × rr_T) 123 (fun a => [(0, .ref 0), (1, .int a6.1), (2, .int a.1), (3, .int a.2.1)]) (fun a => (mw a.2.2)) (fun rec123 hrec123 a17 => ?_)
  show RR l G mX11_freshen 5 111 fxA rvIS (fun q => mw q.2) z0 z0 0 0 123 [(0, .ref 0), (1, .int a6.1), (2, .int a17.1), (3, .int a17.2.1)] [] (mw a17.2.2) (LM_freshen_123 rec44 a6 rec123 a17)
  unfold LM_freshen_123
  refine rr_iload_n dX11_freshen_123 rfl 3 rfl ?_
  refine rr_aload_n dX11_freshen_124 rfl 0 rfl ?_
  refine rr_get (v := .int (a17.2.2.1 8)) cl11 k11_153 (Nat.le_of_ble_eq_true rfl) rfl rfl dX11_freshen_125 ?_
  refine rr_icmp_ge (tgt := 147) dX11_freshen_128 (by decide) (fun _ => ?_) (fun _ => ?_)
  · refine rr_sub [0, 1, 2] rfl ?_
    exact tM_freshen_147 rec44 a6 hrec44 (a17.1, a17.2.2)
  · refine rr_iload_n dX11_freshen_131 rfl 2 rfl ?_
    refine rr_if_eq (tgt := 147) dX11_freshen_132 (by decide) (fun _ => ?_) (fun _ => ?_)
    · refine rr_sub [0, 1, 2] rfl ?_
      exact tM_freshen_147 rec44 a6 hrec44 (a17.1, a17.2.2)
    · refine rr_aload_n dX11_freshen_135 rfl 0 rfl ?_
      refine rr_iload_n dX11_freshen_136 rfl 3 rfl ?_
      refine rr_vis (W := mw) (As := [.int a17.2.1]) (rest := []) (tM_holds a17.2.2 a17.2.1) v11_211 rfl rfl ⟨Nat.le_of_ble_eq_true rfl, Nat.le_of_ble_eq_true rfl⟩ (fun _ z => z) rfl rfl (Nat.le_of_ble_eq_true rfl) rfl dX11_freshen_137 (fun q18 => ?_)
      refine rr_istore_n (lv' := [(2, .int q18.1), (0, .ref 0), (1, .int a6.1), (3, .int a17.2.1)]) dX11_freshen_140 rfl (by decide) rfl ?_
      refine rr_iinc (lv' := [(3, .int (a17.2.1 + 1)), (2, .int q18.1), (0, .ref 0), (1, .int a6.1)]) dX11_freshen_141 3 rfl (by decide) rfl ?_
      refine rr_goto (tgt := 123) dX11_freshen_144 (by decide) ?_
      refine rr_sub [2, 3, 1, 0] rfl ?_
      exact hrec123 (q18.1, (a17.2.1 + 1), q18.2)
def JM_freshen_103 (rec44 : (Int32 × rr_T) → Option (Int32 × rr_T)) (a6 : Int32 × rr_T) (a10 : rr_T) : Option (Int32 × rr_T) :=
  if inb (a10.1 22) 4000 then
  rr_l (pA a10 17 ((a10.1 22)) (vp_nar .byte a6.1.toInt8.toInt32)) (fun S11 =>
    (fM_goThrough S11 a6.1).bind (fun S12 =>
    rr_loop FU (LM_freshen_123 rec44 a6) (1, 0, S12)))
else none
set_option maxRecDepth 20000 in
theorem tM_freshen_103 {l : Launch} {G : rr_G} (rec44 : (Int32 × rr_T) → Option (Int32 × rr_T)) (a6 : Int32 × rr_T) (hrec44 : ∀ a : Int32 × rr_T, RR l G mX11_freshen 5 111 fxA rvIS (fun q => mw q.2) z0 z0 0 0 44 [(0, .ref 0), (1, .int a.1)] [] (mw a.2) (rec44 a)) (a10 : rr_T) : RR l G mX11_freshen 5 111 fxA rvIS (fun q => mw q.2) z0 z0 0 0 103 [(0, .ref 0), (1, .int a6.1)] [] (mw a10) (JM_freshen_103 rec44 a6 a10) := by
  unfold JM_freshen_103
  refine rr_aload_n dX11_freshen_103 rfl 0 rfl ?_
  refine rr_get (v := .ref 17) cl11 k11_64 (Nat.le_of_ble_eq_true rfl) rfl rfl dX11_freshen_104 ?_
  refine rr_aload_n dX11_freshen_107 rfl 0 rfl ?_
  refine rr_get (v := .int (a10.1 22)) cl11 k11_205 (Nat.le_of_ble_eq_true rfl) rfl rfl dX11_freshen_108 ?_
  refine rr_iload_n dX11_freshen_111 rfl 1 rfl ?_
  refine rr_i2b dX11_freshen_112 ?_
  refine rr_if (fun z => ?_)
  refine rr_bast (len := 4000) rfl (inb_in z) dX11_freshen_113 (ma17 a10 ((a10.1 22)) a6.1.toInt8.toInt32) ?_
  refine rr_letS (W := mw) (fun S11 => ?_)
  refine rr_aload_n dX11_freshen_114 rfl 0 rfl ?_
  refine rr_iload_n dX11_freshen_115 rfl 1 rfl ?_
  refine rr_vs (W := mw) (As := [.int a6.1]) (rest := []) (tM_goThrough S11 a6.1) v11_182 rfl rfl ⟨Nat.le_of_ble_eq_true rfl, Nat.le_of_ble_eq_true rfl⟩ (fun _ z => z) rfl rfl (Nat.le_of_ble_eq_true rfl) rfl dX11_freshen_116 (fun S12 => ?_)
  refine rr_iconst (v := 1) dX11_freshen_119 (by decide) ?_
  refine rr_istore_n (lv' := [(2, .int 1), (0, .ref 0), (1, .int a6.1)]) dX11_freshen_120 rfl (by decide) rfl ?_
  refine rr_iconst (v := 0) dX11_freshen_121 (by decide) ?_
  refine rr_istore_n (lv' := [(3, .int 0), (2, .int 1), (0, .ref 0), (1, .int a6.1)]) dX11_freshen_122 rfl (by decide) rfl ?_
  refine rr_sub [2, 3, 1, 0] rfl ?_
  exact tM_freshen_123 rec44 a6 hrec44 FU (1, 0, S12)
def LM_freshen_71 (rec44 : (Int32 × rr_T) → Option (Int32 × rr_T)) (a6 : Int32 × rr_T) (rec71 : (Int32 × rr_T) → Option (Int32 × rr_T)) (a19 : Int32 × rr_T) : Option (Int32 × rr_T) :=
  if a6.1 ≤ a19.1 then
  JM_freshen_103 rec44 a6 a19.2
else
  if inb a19.1 41 then
    if inb ((22 * (a19.2.1 22)) + a19.1) 88000 then
      rr_l (pA a19.2 16 (((22 * (a19.2.1 22)) + a19.1)) (vp_nar .byte ((a19.2.2.1 26 a19.1.toNatClampNeg).toInt8.toInt32))) (fun S20 =>
        rec71 ((a19.1 + 1), S20))
    else none
  else none
set_option maxRecDepth 20000 in
theorem tM_freshen_71 {l : Launch} {G : rr_G} (rec44 : (Int32 × rr_T) → Option (Int32 × rr_T)) (a6 : Int32 × rr_T) (hrec44 : ∀ a : Int32 × rr_T, RR l G mX11_freshen 5 111 fxA rvIS (fun q => mw q.2) z0 z0 0 0 44 [(0, .ref 0), (1, .int a.1)] [] (mw a.2) (rec44 a)) : ∀ (n : Nat) (a : Int32 × rr_T), RR l G mX11_freshen 5 111 fxA rvIS (fun q => mw q.2) z0 z0 0 0 71 [(0, .ref 0), (1, .int a6.1), (2, .int a.1)] [] (mw a.2) (rr_loop n (LM_freshen_71 rec44 a6) a) := by
  refine rr_lp (α := Int32 × rr_T) 71 (fun a => [(0, .ref 0), (1, .int a6.1), (2, .int a.1)]) (fun a => (mw a.2)) (fun rec71 hrec71 a19 => ?_)
  show RR l G mX11_freshen 5 111 fxA rvIS (fun q => mw q.2) z0 z0 0 0 71 [(0, .ref 0), (1, .int a6.1), (2, .int a19.1)] [] (mw a19.2) (LM_freshen_71 rec44 a6 rec71 a19)
  unfold LM_freshen_71
  refine rr_iload_n dX11_freshen_71 rfl 2 rfl ?_
  refine rr_iload_n dX11_freshen_72 rfl 1 rfl ?_
  refine rr_icmp_ge (tgt := 103) dX11_freshen_73 (by decide) (fun _ => ?_) (fun _ => ?_)
  · refine rr_sub [0, 1] rfl ?_
    exact tM_freshen_103 rec44 a6 hrec44 a19.2
  · refine rr_aload_n dX11_freshen_76 rfl 0 rfl ?_
    refine rr_get (v := .ref 16) cl11 k11_60 (Nat.le_of_ble_eq_true rfl) rfl rfl dX11_freshen_77 ?_
    refine rr_bipush (v := 22) dX11_freshen_80 (by decide) ?_
    refine rr_aload_n dX11_freshen_82 rfl 0 rfl ?_
    refine rr_get (v := .int (a19.2.1 22)) cl11 k11_205 (Nat.le_of_ble_eq_true rfl) rfl rfl dX11_freshen_83 ?_
    refine rr_imul dX11_freshen_86 ?_
    refine rr_iload_n dX11_freshen_87 rfl 2 rfl ?_
    refine rr_iadd dX11_freshen_88 ?_
    refine rr_aload_n dX11_freshen_89 rfl 0 rfl ?_
    refine rr_get (v := .ref 26) cl11 k11_93 (Nat.le_of_ble_eq_true rfl) rfl rfl dX11_freshen_90 ?_
    refine rr_iload_n dX11_freshen_93 rfl 2 rfl ?_
    refine rr_if (fun z => ?_)
    refine rr_iald (len := 41) rfl (inb_in z) dX11_freshen_94 ?_
    refine rr_i2b dX11_freshen_95 ?_
    refine rr_if (fun z => ?_)
    refine rr_bast (len := 88000) rfl (inb_in z) dX11_freshen_96 (ma16 a19.2 (((22 * (a19.2.1 22)) + a19.1)) ((a19.2.2.1 26 a19.1.toNatClampNeg).toInt8.toInt32)) ?_
    refine rr_letS (W := mw) (fun S20 => ?_)
    refine rr_iinc (lv' := [(2, .int (a19.1 + 1)), (0, .ref 0), (1, .int a6.1)]) dX11_freshen_97 2 rfl (by decide) rfl ?_
    refine rr_goto (tgt := 71) dX11_freshen_100 (by decide) ?_
    refine rr_sub [1, 2, 0] rfl ?_
    exact hrec71 ((a19.1 + 1), S20)
def LM_freshen_44 (rec44 : (Int32 × rr_T) → Option (Int32 × rr_T)) (a6 : Int32 × rr_T) : Option (Int32 × rr_T) :=
  if a6.1 = (-1) then
  JM_freshen_203 a6.2
else
  if 4000 < (a6.2.1 22) then
    JM_freshen_203 a6.2
  else
    if 4000 ≤ (a6.2.1 22) then
      JM_freshen_184 rec44 a6 a6.2
    else
      rr_loop FU (LM_freshen_71 rec44 a6) (0, a6.2)
set_option maxRecDepth 20000 in
theorem tM_freshen_44 {l : Launch} {G : rr_G} : ∀ (n : Nat) (a : Int32 × rr_T), RR l G mX11_freshen 5 111 fxA rvIS (fun q => mw q.2) z0 z0 0 0 44 [(0, .ref 0), (1, .int a.1)] [] (mw a.2) (rr_loop n (LM_freshen_44) a) := by
  refine rr_lp (α := Int32 × rr_T) 44 (fun a => [(0, .ref 0), (1, .int a.1)]) (fun a => (mw a.2)) (fun rec44 hrec44 a6 => ?_)
  show RR l G mX11_freshen 5 111 fxA rvIS (fun q => mw q.2) z0 z0 0 0 44 [(0, .ref 0), (1, .int a6.1)] [] (mw a6.2) (LM_freshen_44 rec44 a6)
  unfold LM_freshen_44
  refine rr_iload_n dX11_freshen_44 rfl 1 rfl ?_
  refine rr_iconst (v := (-1)) dX11_freshen_45 (by decide) ?_
  refine rr_icmp_eq (tgt := 203) dX11_freshen_46 (by decide) (fun _ => ?_) (fun _ => ?_)
  · refine rr_sub [0] rfl ?_
    exact tM_freshen_203 a6.2
  · refine rr_aload_n dX11_freshen_49 rfl 0 rfl ?_
    refine rr_get (v := .int (a6.2.1 22)) cl11 k11_205 (Nat.le_of_ble_eq_true rfl) rfl rfl dX11_freshen_50 ?_
    refine rr_sipush (v := 4000) dX11_freshen_53 (by decide) ?_
    refine rr_icmp_gt (tgt := 203) dX11_freshen_56 (by decide) (fun _ => ?_) (fun _ => ?_)
    · refine rr_sub [0] rfl ?_
      exact tM_freshen_203 a6.2
    · refine rr_aload_n dX11_freshen_59 rfl 0 rfl ?_
      refine rr_get (v := .int (a6.2.1 22)) cl11 k11_205 (Nat.le_of_ble_eq_true rfl) rfl rfl dX11_freshen_60 ?_
      refine rr_sipush (v := 4000) dX11_freshen_63 (by decide) ?_
      refine rr_icmp_ge (tgt := 184) dX11_freshen_66 (by decide) (fun _ => ?_) (fun _ => ?_)
      · exact tM_freshen_184 rec44 a6 hrec44 a6.2
      · refine rr_iconst (v := 0) dX11_freshen_69 (by decide) ?_
        refine rr_istore_n (lv' := [(2, .int 0), (0, .ref 0), (1, .int a6.1)]) dX11_freshen_70 rfl (by decide) rfl ?_
        refine rr_sub [1, 2, 0] rfl ?_
        exact tM_freshen_71 rec44 a6 hrec44 FU (0, a6.2)
def fM_freshen (S : rr_T) : Option (Int32 × rr_T) :=
  if (S.1 21) = 0 then
  rr_l (pI S 21 1) (fun S1 =>
    rr_l (pI S1 22 0) (fun S2 =>
    rr_l (pI S2 25 0) (fun S3 =>
    (fM_fill S3 0).bind (fun q4 =>
    rr_loop FU (LM_freshen_44) (q4.1, q4.2)))))
else
  if 4000 < (S.1 22) then
    some ((0, S))
  else
    some ((1, S))
set_option maxRecDepth 20000 in
theorem tM_freshen {l : Launch} {G : rr_G} (S : rr_T) : TT l G mX11_freshen 5 111 fxA rvIS (fun q => mw q.2) z0 z0 0 0 [.ref 0] (mw S) (fM_freshen S) := by
  refine TT.by (by decide) (Nat.le_of_ble_eq_true rfl) (lv := [(0, .ref 0)]) rfl ?_
  show RR l G mX11_freshen 5 111 fxA rvIS (fun q => mw q.2) z0 z0 0 0 0 [(0, .ref 0)] [] (mw S) (fM_freshen S)
  unfold fM_freshen
  refine rr_aload_n dX11_freshen_0 rfl 0 rfl ?_
  refine rr_get (v := .int (S.1 21)) cl11 k11_126 (Nat.le_of_ble_eq_true rfl) rfl rfl dX11_freshen_1 ?_
  refine rr_if_eq (tgt := 23) dX11_freshen_4 (by decide) (fun _ => ?_) (fun _ => ?_)
  · refine rr_aload_n dX11_freshen_23 rfl 0 rfl ?_
    refine rr_iconst (v := 1) dX11_freshen_24 (by decide) ?_
    refine rr_put cl11 k11_126 (Nat.le_of_ble_eq_true rfl) rfl rfl (by decide) rfl (Nat.le_of_ble_eq_true rfl) dX11_freshen_25 (mp21 S 1) ?_
    refine rr_letS (W := mw) (fun S1 => ?_)
    refine rr_aload_n dX11_freshen_28 rfl 0 rfl ?_
    refine rr_iconst (v := 0) dX11_freshen_29 (by decide) ?_
    refine rr_put cl11 k11_205 (Nat.le_of_ble_eq_true rfl) rfl rfl rfl rfl (Nat.le_of_ble_eq_true rfl) dX11_freshen_30 (mp22 S1 0) ?_
    refine rr_letS (W := mw) (fun S2 => ?_)
    refine rr_aload_n dX11_freshen_33 rfl 0 rfl ?_
    refine rr_iconst (v := 0) dX11_freshen_34 (by decide) ?_
    refine rr_put cl11 k11_208 (Nat.le_of_ble_eq_true rfl) rfl rfl rfl rfl (Nat.le_of_ble_eq_true rfl) dX11_freshen_35 (mp25 S2 0) ?_
    refine rr_letS (W := mw) (fun S3 => ?_)
    refine rr_aload_n dX11_freshen_38 rfl 0 rfl ?_
    refine rr_iconst (v := 0) dX11_freshen_39 (by decide) ?_
    refine rr_vis (W := mw) (As := [.int 0]) (rest := []) (tM_fill S3 0) v11_190 rfl rfl ⟨Nat.le_of_ble_eq_true rfl, Nat.le_of_ble_eq_true rfl⟩ (fun _ z => z) rfl rfl (Nat.le_of_ble_eq_true rfl) rfl dX11_freshen_40 (fun q4 => ?_)
    refine rr_istore_n (lv' := [(1, .int q4.1), (0, .ref 0)]) dX11_freshen_43 rfl (by decide) rfl ?_
    refine rr_sub [1, 0] rfl ?_
    exact tM_freshen_44 FU (q4.1, q4.2)
  · refine rr_aload_n dX11_freshen_7 rfl 0 rfl ?_
    refine rr_get (v := .int (S.1 22)) cl11 k11_205 (Nat.le_of_ble_eq_true rfl) rfl rfl dX11_freshen_8 ?_
    refine rr_sipush (v := 4000) dX11_freshen_11 (by decide) ?_
    refine rr_icmp_gt (tgt := 21) dX11_freshen_14 (by decide) (fun _ => ?_) (fun _ => ?_)
    · refine rr_iconst (v := 0) dX11_freshen_21 (by decide) ?_
      exact rr_zret dX11_freshen_22 rfl (by decide) rfl rfl rfl rfl
    · refine rr_iconst (v := 1) dX11_freshen_17 (by decide) ?_
      refine rr_goto (tgt := 22) dX11_freshen_18 (by decide) ?_
      exact rr_zret dX11_freshen_22 rfl (by decide) rfl rfl rfl rfl
def fM_many (S : rr_T) : Option (Int32 × rr_T) :=
  (fM_freshen S).bind (fun q1 =>
  if q1.1 = 0 then
  some (((-104), q1.2))
else
  some (((q1.2.1 22), q1.2)))
set_option maxRecDepth 20000 in
theorem tM_many {l : Launch} {G : rr_G} (S : rr_T) : TT l G mX11_many 6 134 fxA rvIS (fun q => mw q.2) z0 z0 0 0 [.ref 0] (mw S) (fM_many S) := by
  refine TT.by (by decide) (Nat.le_of_ble_eq_true rfl) (lv := [(0, .ref 0)]) rfl ?_
  show RR l G mX11_many 6 134 fxA rvIS (fun q => mw q.2) z0 z0 0 0 0 [(0, .ref 0)] [] (mw S) (fM_many S)
  unfold fM_many
  refine rr_aload_n dX11_many_0 rfl 0 rfl ?_
  refine rr_vis (W := mw) (As := []) (rest := []) (tM_freshen S ) v11_217 rfl rfl ⟨Nat.le_of_ble_eq_true rfl, Nat.le_of_ble_eq_true rfl⟩ (fun _ z => z) rfl rfl (Nat.le_of_ble_eq_true rfl) rfl dX11_many_1 (fun q1 => ?_)
  refine rr_if_eq (tgt := 14) dX11_many_4 (by decide) (fun _ => ?_) (fun _ => ?_)
  · refine rr_bipush (v := (-104)) dX11_many_14 (by decide) ?_
    exact rr_iret dX11_many_16 rfl rfl rfl rfl rfl
  · refine rr_aload_n dX11_many_7 rfl 0 rfl ?_
    refine rr_get (v := .int (q1.2.1 22)) cl11 k11_205 (Nat.le_of_ble_eq_true rfl) rfl rfl dX11_many_8 ?_
    refine rr_goto (tgt := 16) dX11_many_11 (by decide) ?_
    exact rr_iret dX11_many_16 rfl rfl rfl rfl rfl
def fM_kept (S : rr_T) : Option (Int32 × rr_T) :=
  (fM_freshen S).bind (fun q1 =>
  if q1.1 = 0 then
  some (((-104), q1.2))
else
  some (((q1.2.1 25), q1.2)))
set_option maxRecDepth 20000 in
theorem tM_kept {l : Launch} {G : rr_G} (S : rr_T) : TT l G mX11_kept 6 134 fxA rvIS (fun q => mw q.2) z0 z0 0 0 [.ref 0] (mw S) (fM_kept S) := by
  refine TT.by (by decide) (Nat.le_of_ble_eq_true rfl) (lv := [(0, .ref 0)]) rfl ?_
  show RR l G mX11_kept 6 134 fxA rvIS (fun q => mw q.2) z0 z0 0 0 0 [(0, .ref 0)] [] (mw S) (fM_kept S)
  unfold fM_kept
  refine rr_aload_n dX11_kept_0 rfl 0 rfl ?_
  refine rr_vis (W := mw) (As := []) (rest := []) (tM_freshen S ) v11_217 rfl rfl ⟨Nat.le_of_ble_eq_true rfl, Nat.le_of_ble_eq_true rfl⟩ (fun _ z => z) rfl rfl (Nat.le_of_ble_eq_true rfl) rfl dX11_kept_1 (fun q1 => ?_)
  refine rr_if_eq (tgt := 14) dX11_kept_4 (by decide) (fun _ => ?_) (fun _ => ?_)
  · refine rr_bipush (v := (-104)) dX11_kept_14 (by decide) ?_
    exact rr_iret dX11_kept_16 rfl rfl rfl rfl rfl
  · refine rr_aload_n dX11_kept_7 rfl 0 rfl ?_
    refine rr_get (v := .int (q1.2.1 25)) cl11 k11_208 (Nat.le_of_ble_eq_true rfl) rfl rfl dX11_kept_8 ?_
    refine rr_goto (tgt := 16) dX11_kept_11 (by decide) ?_
    exact rr_iret dX11_kept_16 rfl rfl rfl rfl rfl
def fM_choice (S : rr_T) (x1 : Int32) (x2 : Int32) : Option (Int32 × rr_T) :=
  (fM_freshen S).bind (fun q1 =>
  if q1.1 = 0 then
  some (((-104), q1.2))
else
  (fM_in x1 0 (((q1.2.1 25) - 1))).bind (fun r2 =>
    if r2 = 0 then
    some (((-101), q1.2))
  else
    if 0 ≤ x2 then
      if inb x1 4000 then
        rr_l ((q1.2.2.1 18 x1.toNatClampNeg)) (fun v3 =>
          if inb v3 4000 then
          if (q1.2.2.1 17 v3.toNatClampNeg) ≤ x2 then
            some (((-1), q1.2))
          else
            if inb ((22 * v3) + x2) 88000 then
              some (((q1.2.2.1 16 ((22 * v3) + x2).toNatClampNeg), q1.2))
            else none
        else none)
      else none
    else
      some (((-101), q1.2))))
set_option maxRecDepth 20000 in
theorem tM_choice {l : Launch} {G : rr_G} (S : rr_T) (x1 : Int32) (x2 : Int32) : TT l G mX11_choice 6 134 fxA rvIS (fun q => mw q.2) z0 z0 0 0 [.ref 0, .int x1, .int x2] (mw S) (fM_choice S x1 x2) := by
  refine TT.by (by decide) (Nat.le_of_ble_eq_true rfl) (lv := [(0, .ref 0), (1, .int x1), (2, .int x2)]) rfl ?_
  show RR l G mX11_choice 6 134 fxA rvIS (fun q => mw q.2) z0 z0 0 0 0 [(0, .ref 0), (1, .int x1), (2, .int x2)] [] (mw S) (fM_choice S x1 x2)
  unfold fM_choice
  refine rr_aload_n dX11_choice_0 rfl 0 rfl ?_
  refine rr_vis (W := mw) (As := []) (rest := []) (tM_freshen S ) v11_217 rfl rfl ⟨Nat.le_of_ble_eq_true rfl, Nat.le_of_ble_eq_true rfl⟩ (fun _ z => z) rfl rfl (Nat.le_of_ble_eq_true rfl) rfl dX11_choice_1 (fun q1 => ?_)
  refine rr_if_ne (tgt := 10) dX11_choice_4 (by decide) (fun _ => ?_) (fun _ => ?_)
  · refine rr_iload_n dX11_choice_10 rfl 1 rfl ?_
    refine rr_iconst (v := 0) dX11_choice_11 (by decide) ?_
    refine rr_aload_n dX11_choice_12 rfl 0 rfl ?_
    refine rr_get (v := .int (q1.2.1 25)) cl11 k11_208 (Nat.le_of_ble_eq_true rfl) rfl rfl dX11_choice_13 ?_
    refine rr_iconst (v := 1) dX11_choice_16 (by decide) ?_
    refine rr_isub dX11_choice_17 ?_
    refine rr_si (As := [.int x1, .int 0, .int ((q1.2.1 25) - 1)]) (rest := []) (tM_in x1 0 (((q1.2.1 25) - 1)) (mw q1.2)) s11_136 rfl ⟨Nat.le_of_ble_eq_true rfl, Nat.le_of_ble_eq_true rfl⟩ rfl rfl (Nat.le_of_ble_eq_true rfl) rfl dX11_choice_18 (fun r2 => ?_)
    refine rr_if_eq (tgt := 28) dX11_choice_21 (by decide) (fun _ => ?_) (fun _ => ?_)
    · refine rr_bipush (v := (-101)) dX11_choice_28 (by decide) ?_
      exact rr_iret dX11_choice_30 rfl rfl rfl rfl rfl
    · refine rr_iload_n dX11_choice_24 rfl 2 rfl ?_
      refine rr_if_ge (tgt := 31) dX11_choice_25 (by decide) (fun _ => ?_) (fun _ => ?_)
      · refine rr_aload_n dX11_choice_31 rfl 0 rfl ?_
        refine rr_get (v := .ref 18) cl11 k11_67 (Nat.le_of_ble_eq_true rfl) rfl rfl dX11_choice_32 ?_
        refine rr_iload_n dX11_choice_35 rfl 1 rfl ?_
        refine rr_if (fun z => ?_)
        refine rr_iald (len := 4000) rfl (inb_in z) dX11_choice_36 ?_
        refine rr_letI (fun v3 => ?_)
        refine rr_istore_n (lv' := [(3, .int v3), (0, .ref 0), (1, .int x1), (2, .int x2)]) dX11_choice_37 rfl (by decide) rfl ?_
        refine rr_iload_n dX11_choice_38 rfl 3 rfl ?_
        refine rr_aload_n dX11_choice_39 rfl 1 rfl ?_
        refine rr_get (v := .ref 17) cl11 k11_64 (Nat.le_of_ble_eq_true rfl) rfl rfl dX11_choice_40 ?_
        refine rr_iload_n dX11_choice_43 rfl 0 rfl ?_
        refine rr_if (fun z => ?_)
        refine rr_bald (len := 4000) rfl (inb_in z) dX11_choice_44 ?_
        refine rr_icmp_ge (tgt := 62) dX11_choice_45 (by decide) (fun _ => ?_) (fun _ => ?_)
        · refine rr_iconst (v := (-1)) dX11_choice_62 (by decide) ?_
          exact rr_iret dX11_choice_63 rfl rfl rfl rfl rfl
        · refine rr_aload_n dX11_choice_48 rfl 1 rfl ?_
          refine rr_get (v := .ref 16) cl11 k11_60 (Nat.le_of_ble_eq_true rfl) rfl rfl dX11_choice_49 ?_
          refine rr_bipush (v := 22) dX11_choice_52 (by decide) ?_
          refine rr_iload_n dX11_choice_54 rfl 0 rfl ?_
          refine rr_imul dX11_choice_55 ?_
          refine rr_iload_n dX11_choice_56 rfl 3 rfl ?_
          refine rr_iadd dX11_choice_57 ?_
          refine rr_if (fun z => ?_)
          refine rr_bald (len := 88000) rfl (inb_in z) dX11_choice_58 ?_
          refine rr_goto (tgt := 63) dX11_choice_59 (by decide) ?_
          exact rr_iret dX11_choice_63 rfl rfl rfl rfl rfl
      · refine rr_bipush (v := (-101)) dX11_choice_28 (by decide) ?_
        exact rr_iret dX11_choice_30 rfl rfl rfl rfl rfl
  · refine rr_bipush (v := (-104)) dX11_choice_7 (by decide) ?_
    exact rr_iret dX11_choice_9 rfl rfl rfl rfl rfl
def fM_object (S : rr_T) (x1 : Int32) (x2 : Int32) (x3 : Int32) : Option (Int32 × rr_T) :=
  (fM_freshen S).bind (fun q1 =>
  if q1.1 = 0 then
  some (((-104), q1.2))
else
  (fM_in x1 0 (((q1.2.1 25) - 1))).bind (fun r2 =>
    if r2 = 0 then
    some (((-101), q1.2))
  else
    if inb x1 4000 then
      (fM_load q1.2 ((q1.2.2.1 18 x1.toNatClampNeg))).bind (fun S3 =>
        (fM_in x2 0 (((S3.1 37) - 1))).bind (fun r4 =>
        if r4 = 0 then
        some (((-101), S3))
      else
        if inb x2 5 then
          if inb (S3.2.1 27 x2.toNatClampNeg) 4 then
            (fM_in x3 0 ((S3.2.1 2 (S3.2.1 27 x2.toNatClampNeg).toNatClampNeg))).bind (fun r5 =>
              if r5 = 0 then
              some (((-102), S3))
            else
              if x3 = 0 then
                if inb x2 5 then
                  some (((S3.2.1 27 x2.toNatClampNeg), S3))
                else none
              else
                if inb (((4 * x2) + x3) - 1) 20 then
                  some (((S3.2.1 29 (((4 * x2) + x3) - 1).toNatClampNeg), S3))
                else none)
          else none
        else none))
    else none))
set_option maxRecDepth 20000 in
theorem tM_object {l : Launch} {G : rr_G} (S : rr_T) (x1 : Int32) (x2 : Int32) (x3 : Int32) : TT l G mX11_object 6 134 fxA rvIS (fun q => mw q.2) z0 z0 0 0 [.ref 0, .int x1, .int x2, .int x3] (mw S) (fM_object S x1 x2 x3) := by
  refine TT.by (by decide) (Nat.le_of_ble_eq_true rfl) (lv := [(0, .ref 0), (1, .int x1), (2, .int x2), (3, .int x3)]) rfl ?_
  show RR l G mX11_object 6 134 fxA rvIS (fun q => mw q.2) z0 z0 0 0 0 [(0, .ref 0), (1, .int x1), (2, .int x2), (3, .int x3)] [] (mw S) (fM_object S x1 x2 x3)
  unfold fM_object
  refine rr_aload_n dX11_object_0 rfl 0 rfl ?_
  refine rr_vis (W := mw) (As := []) (rest := []) (tM_freshen S ) v11_217 rfl rfl ⟨Nat.le_of_ble_eq_true rfl, Nat.le_of_ble_eq_true rfl⟩ (fun _ z => z) rfl rfl (Nat.le_of_ble_eq_true rfl) rfl dX11_object_1 (fun q1 => ?_)
  refine rr_if_ne (tgt := 10) dX11_object_4 (by decide) (fun _ => ?_) (fun _ => ?_)
  · refine rr_iload_n dX11_object_10 rfl 1 rfl ?_
    refine rr_iconst (v := 0) dX11_object_11 (by decide) ?_
    refine rr_aload_n dX11_object_12 rfl 0 rfl ?_
    refine rr_get (v := .int (q1.2.1 25)) cl11 k11_208 (Nat.le_of_ble_eq_true rfl) rfl rfl dX11_object_13 ?_
    refine rr_iconst (v := 1) dX11_object_16 (by decide) ?_
    refine rr_isub dX11_object_17 ?_
    refine rr_si (As := [.int x1, .int 0, .int ((q1.2.1 25) - 1)]) (rest := []) (tM_in x1 0 (((q1.2.1 25) - 1)) (mw q1.2)) s11_136 rfl ⟨Nat.le_of_ble_eq_true rfl, Nat.le_of_ble_eq_true rfl⟩ rfl rfl (Nat.le_of_ble_eq_true rfl) rfl dX11_object_18 (fun r2 => ?_)
    refine rr_if_ne (tgt := 27) dX11_object_21 (by decide) (fun _ => ?_) (fun _ => ?_)
    · refine rr_aload_n dX11_object_27 rfl 0 rfl ?_
      refine rr_aload_n dX11_object_28 rfl 0 rfl ?_
      refine rr_get (v := .ref 18) cl11 k11_67 (Nat.le_of_ble_eq_true rfl) rfl rfl dX11_object_29 ?_
      refine rr_iload_n dX11_object_32 rfl 1 rfl ?_
      refine rr_if (fun z => ?_)
      refine rr_iald (len := 4000) rfl (inb_in z) dX11_object_33 ?_
      refine rr_vs (W := mw) (As := [.int (q1.2.2.1 18 x1.toNatClampNeg)]) (rest := []) (tM_load q1.2 ((q1.2.2.1 18 x1.toNatClampNeg))) v11_221 rfl rfl ⟨Nat.le_of_ble_eq_true rfl, Nat.le_of_ble_eq_true rfl⟩ (fun _ z => z) rfl rfl (Nat.le_of_ble_eq_true rfl) rfl dX11_object_34 (fun S3 => ?_)
      refine rr_iload_n dX11_object_37 rfl 2 rfl ?_
      refine rr_iconst (v := 0) dX11_object_38 (by decide) ?_
      refine rr_aload_n dX11_object_39 rfl 0 rfl ?_
      refine rr_get (v := .int (S3.1 37)) cl11 k11_162 (Nat.le_of_ble_eq_true rfl) rfl rfl dX11_object_40 ?_
      refine rr_iconst (v := 1) dX11_object_43 (by decide) ?_
      refine rr_isub dX11_object_44 ?_
      refine rr_si (As := [.int x2, .int 0, .int ((S3.1 37) - 1)]) (rest := []) (tM_in x2 0 (((S3.1 37) - 1)) (mw S3)) s11_136 rfl ⟨Nat.le_of_ble_eq_true rfl, Nat.le_of_ble_eq_true rfl⟩ rfl rfl (Nat.le_of_ble_eq_true rfl) rfl dX11_object_45 (fun r4 => ?_)
      refine rr_if_ne (tgt := 54) dX11_object_48 (by decide) (fun _ => ?_) (fun _ => ?_)
      · refine rr_iload_n dX11_object_54 rfl 3 rfl ?_
        refine rr_iconst (v := 0) dX11_object_55 (by decide) ?_
        refine rr_aload_n dX11_object_56 rfl 0 rfl ?_
        refine rr_get (v := .ref 2) cl11 k11_13 (Nat.le_of_ble_eq_true rfl) rfl rfl dX11_object_57 ?_
        refine rr_aload_n dX11_object_60 rfl 0 rfl ?_
        refine rr_get (v := .ref 27) cl11 k11_96 (Nat.le_of_ble_eq_true rfl) rfl rfl dX11_object_61 ?_
        refine rr_iload_n dX11_object_64 rfl 2 rfl ?_
        refine rr_if (fun z => ?_)
        refine rr_iald (len := 5) rfl (inb_in z) dX11_object_65 ?_
        refine rr_if (fun z => ?_)
        refine rr_iald (len := 4) rfl (inb_in z) dX11_object_66 ?_
        refine rr_si (As := [.int x3, .int 0, .int (S3.2.1 2 (S3.2.1 27 x2.toNatClampNeg).toNatClampNeg)]) (rest := []) (tM_in x3 0 ((S3.2.1 2 (S3.2.1 27 x2.toNatClampNeg).toNatClampNeg)) (mw S3)) s11_136 rfl ⟨Nat.le_of_ble_eq_true rfl, Nat.le_of_ble_eq_true rfl⟩ rfl rfl (Nat.le_of_ble_eq_true rfl) rfl dX11_object_67 (fun r5 => ?_)
        refine rr_if_ne (tgt := 76) dX11_object_70 (by decide) (fun _ => ?_) (fun _ => ?_)
        · refine rr_iload_n dX11_object_76 rfl 3 rfl ?_
          refine rr_if_ne (tgt := 89) dX11_object_77 (by decide) (fun _ => ?_) (fun _ => ?_)
          · refine rr_aload_n dX11_object_89 rfl 0 rfl ?_
            refine rr_get (v := .ref 29) cl11 k11_102 (Nat.le_of_ble_eq_true rfl) rfl rfl dX11_object_90 ?_
            refine rr_iconst (v := 4) dX11_object_93 (by decide) ?_
            refine rr_iload_n dX11_object_94 rfl 2 rfl ?_
            refine rr_imul dX11_object_95 ?_
            refine rr_iload_n dX11_object_96 rfl 3 rfl ?_
            refine rr_iadd dX11_object_97 ?_
            refine rr_iconst (v := 1) dX11_object_98 (by decide) ?_
            refine rr_isub dX11_object_99 ?_
            refine rr_if (fun z => ?_)
            refine rr_iald (len := 20) rfl (inb_in z) dX11_object_100 ?_
            exact rr_iret dX11_object_101 rfl rfl rfl rfl rfl
          · refine rr_aload_n dX11_object_80 rfl 0 rfl ?_
            refine rr_get (v := .ref 27) cl11 k11_96 (Nat.le_of_ble_eq_true rfl) rfl rfl dX11_object_81 ?_
            refine rr_iload_n dX11_object_84 rfl 2 rfl ?_
            refine rr_if (fun z => ?_)
            refine rr_iald (len := 5) rfl (inb_in z) dX11_object_85 ?_
            refine rr_goto (tgt := 101) dX11_object_86 (by decide) ?_
            exact rr_iret dX11_object_101 rfl rfl rfl rfl rfl
        · refine rr_bipush (v := (-102)) dX11_object_73 (by decide) ?_
          exact rr_iret dX11_object_75 rfl rfl rfl rfl rfl
      · refine rr_bipush (v := (-101)) dX11_object_51 (by decide) ?_
        exact rr_iret dX11_object_53 rfl rfl rfl rfl rfl
    · refine rr_bipush (v := (-101)) dX11_object_24 (by decide) ?_
      exact rr_iret dX11_object_26 rfl rfl rfl rfl rfl
  · refine rr_bipush (v := (-104)) dX11_object_7 (by decide) ?_
    exact rr_iret dX11_object_9 rfl rfl rfl rfl rfl
def fM_put (S : rr_T) (x1 : Int32) : Option (Int32 × rr_T) :=
  if (S.1 19) = 40 then
  some (((-104), S))
else
  if inb (S.1 19) 40 then
    rr_l (pA S 15 ((S.1 19)) x1) (fun S1 =>
      rr_l (pI S1 19 (((S1.1 19) + 1))) (fun S2 =>
      some (((S2.1 19), S2))))
  else none
set_option maxRecDepth 20000 in
theorem tM_put {l : Launch} {G : rr_G} (S : rr_T) (x1 : Int32) : TT l G mX11_put 0 0 fxA rvIS (fun q => mw q.2) z0 z0 0 0 [.ref 0, .int x1] (mw S) (fM_put S x1) := by
  refine TT.by (by decide) (Nat.le_of_ble_eq_true rfl) (lv := [(0, .ref 0), (1, .int x1)]) rfl ?_
  show RR l G mX11_put 0 0 fxA rvIS (fun q => mw q.2) z0 z0 0 0 0 [(0, .ref 0), (1, .int x1)] [] (mw S) (fM_put S x1)
  unfold fM_put
  refine rr_aload_n dX11_put_0 rfl 0 rfl ?_
  refine rr_get (v := .int (S.1 19)) cl11 k11_159 (Nat.le_of_ble_eq_true rfl) rfl rfl dX11_put_1 ?_
  refine rr_bipush (v := 40) dX11_put_4 (by decide) ?_
  refine rr_icmp_ne (tgt := 12) dX11_put_6 (by decide) (fun _ => ?_) (fun _ => ?_)
  · refine rr_aload_n dX11_put_12 rfl 0 rfl ?_
    refine rr_get (v := .ref 15) cl11 k11_56 (Nat.le_of_ble_eq_true rfl) rfl rfl dX11_put_13 ?_
    refine rr_aload_n dX11_put_16 rfl 0 rfl ?_
    refine rr_get (v := .int (S.1 19)) cl11 k11_159 (Nat.le_of_ble_eq_true rfl) rfl rfl dX11_put_17 ?_
    refine rr_iload_n dX11_put_20 rfl 1 rfl ?_
    refine rr_if (fun z => ?_)
    refine rr_iast (len := 40) rfl (inb_in z) dX11_put_21 (ma15 S ((S.1 19)) x1) ?_
    refine rr_letS (W := mw) (fun S1 => ?_)
    refine rr_aload_n dX11_put_22 rfl 0 rfl ?_
    refine rr_dup dX11_put_23 rfl ?_
    refine rr_get (v := .int (S1.1 19)) cl11 k11_159 (Nat.le_of_ble_eq_true rfl) rfl rfl dX11_put_24 ?_
    refine rr_iconst (v := 1) dX11_put_27 (by decide) ?_
    refine rr_iadd dX11_put_28 ?_
    refine rr_put cl11 k11_159 (Nat.le_of_ble_eq_true rfl) rfl rfl rfl rfl (Nat.le_of_ble_eq_true rfl) dX11_put_29 (mp19 S1 (((S1.1 19) + 1))) ?_
    refine rr_letS (W := mw) (fun S2 => ?_)
    refine rr_aload_n dX11_put_32 rfl 0 rfl ?_
    refine rr_get (v := .int (S2.1 19)) cl11 k11_159 (Nat.le_of_ble_eq_true rfl) rfl rfl dX11_put_33 ?_
    exact rr_iret dX11_put_36 rfl rfl rfl rfl rfl
  · refine rr_bipush (v := (-104)) dX11_put_9 (by decide) ?_
    exact rr_iret dX11_put_11 rfl rfl rfl rfl rfl
def fM_empty (S : rr_T) : Option (Int32 × rr_T) :=
  rr_l ((S.1 19)) (fun v1 =>
  rr_l (pI S 19 0) (fun S2 =>
  some ((v1, S2))))
set_option maxRecDepth 20000 in
theorem tM_empty {l : Launch} {G : rr_G} (S : rr_T) : TT l G mX11_empty 0 0 fxA rvIS (fun q => mw q.2) z0 z0 0 0 [.ref 0] (mw S) (fM_empty S) := by
  refine TT.by (by decide) (Nat.le_of_ble_eq_true rfl) (lv := [(0, .ref 0)]) rfl ?_
  show RR l G mX11_empty 0 0 fxA rvIS (fun q => mw q.2) z0 z0 0 0 0 [(0, .ref 0)] [] (mw S) (fM_empty S)
  unfold fM_empty
  refine rr_aload_n dX11_empty_0 rfl 0 rfl ?_
  refine rr_get (v := .int (S.1 19)) cl11 k11_159 (Nat.le_of_ble_eq_true rfl) rfl rfl dX11_empty_1 ?_
  refine rr_letI (fun v1 => ?_)
  refine rr_istore_n (lv' := [(1, .int v1), (0, .ref 0)]) dX11_empty_4 rfl (by decide) rfl ?_
  refine rr_aload_n dX11_empty_5 rfl 1 rfl ?_
  refine rr_iconst (v := 0) dX11_empty_6 (by decide) ?_
  refine rr_put cl11 k11_159 (Nat.le_of_ble_eq_true rfl) rfl rfl rfl rfl (Nat.le_of_ble_eq_true rfl) dX11_empty_7 (mp19 S 0) ?_
  refine rr_letS (W := mw) (fun S2 => ?_)
  refine rr_iload_n dX11_empty_10 rfl 0 rfl ?_
  exact rr_iret dX11_empty_11 rfl rfl rfl rfl rfl
