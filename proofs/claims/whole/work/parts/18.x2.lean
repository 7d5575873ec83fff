/-! ===== the class's methods that make rows: gather, ends, end, look, endOf ===== -/
def JX1_gather_172 (P : rr_T) (a4 : rr_T × Nat × Nat) : Option (Int32 × rr_T × Nat × Nat) :=
  (fX1_sort P a4.1 a4.2.1 a4.2.2).bind (fun q5 =>
  (fX1_nameParts P q5.1).bind (fun S6 =>
  rr_l (pI S6 408 1) (fun S7 =>
  some (1, S7, q5.2.1, q5.2.2))))
set_option maxRecDepth 20000 in
theorem tX1_gather_172 {l : Launch} {G : rr_G} (P : rr_T) (a4 : rr_T × Nat × Nat) : RR l G mX1_gather 5 115 fxX rvIU (fun q => xw P q.2.1) (fun q => q.2.2.1) (fun q => q.2.2.2) a4.2.1 a4.2.2 172 [(0, .ref 25)] [] (xw P a4.1) (JX1_gather_172 P a4) := by
  unfold JX1_gather_172
  refine rr_aload_n dX1_gather_172 rfl 0 rfl ?_
  refine rr_vsu (W := xw P) (As := []) (rest := []) (tX1_sort P a4.1 a4.2.1 a4.2.2) v1_100 rfl rfl ⟨Nat.le_of_ble_eq_true rfl, Nat.le_of_ble_eq_true rfl⟩ (fun _ z => z) rfl rfl (Nat.le_of_ble_eq_true rfl) rfl dX1_gather_173 (fun q5 => ?_)
  refine rr_aload_n dX1_gather_176 rfl 0 rfl ?_
  refine rr_vs (W := xw P) (As := []) (rest := []) (tX1_nameParts P q5.1) v1_103 rfl rfl ⟨Nat.le_of_ble_eq_true rfl, Nat.le_of_ble_eq_true rfl⟩ (fun _ _ => rfl) rfl rfl (Nat.le_of_ble_eq_true rfl) rfl dX1_gather_177 (fun S6 => ?_)
  refine rr_aload_n dX1_gather_180 rfl 0 rfl ?_
  refine rr_iconst (v := 1) dX1_gather_181 (by decide) ?_
  refine rr_put cl1 k1_34 (Nat.le_of_ble_eq_true rfl) rfl rfl (by decide) rfl (Nat.le_of_ble_eq_true rfl) dX1_gather_182 (xp25_8 P S6 1) ?_
  refine rr_letS (W := xw P) (fun S7 => ?_)
  refine rr_iconst (v := 1) dX1_gather_185 (by decide) ?_
  exact rr_zret dX1_gather_186 rfl (by decide) rfl rfl rfl rfl
def JX1_gather_151 (rec42 : (Int32 × rr_T × Nat × Nat) → Option (Int32 × rr_T × Nat × Nat)) (a8 : Int32 × rr_T × Nat × Nat) (a12 : rr_T × Nat × Nat) : Option (Int32 × rr_T × Nat × Nat) :=
  if inb a8.1 (a12.1.2.2.2 30) then
  rr_l (pA a12.1 30 a8.1 (((a12.1.1 417) - 1))) (fun S13 =>
    rec42 ((a8.1 + 1), S13, a12.2.1, a12.2.2))
else none
set_option maxRecDepth 20000 in
theorem tX1_gather_151 {l : Launch} {G : rr_G} (rec42 : (Int32 × rr_T × Nat × Nat) → Option (Int32 × rr_T × Nat × Nat)) (a8 : Int32 × rr_T × Nat × Nat) (P : rr_T) (hrec42 : ∀ a : Int32 × rr_T × Nat × Nat, RR l G mX1_gather 5 115 fxX rvIU (fun q => xw P q.2.1) (fun q => q.2.2.1) (fun q => q.2.2.2) a.2.2.1 a.2.2.2 42 [(0, .ref 25), (1, .ref 8), (2, .int a.1)] [] (xw P a.2.1) (rec42 a)) (a12 : rr_T × Nat × Nat) : RR l G mX1_gather 5 115 fxX rvIU (fun q => xw P q.2.1) (fun q => q.2.2.1) (fun q => q.2.2.2) a12.2.1 a12.2.2 151 [(0, .ref 25), (1, .ref 8), (2, .int a8.1)] [] (xw P a12.1) (JX1_gather_151 rec42 a8 a12) := by
  unfold JX1_gather_151
  refine rr_aload_n dX1_gather_151 rfl 0 rfl ?_
  refine rr_get (v := .ref 30) cl1 k1_25 (Nat.le_of_ble_eq_true rfl) rfl rfl dX1_gather_152 ?_
  refine rr_iload_n dX1_gather_155 rfl 2 rfl ?_
  refine rr_aload_n dX1_gather_156 rfl 0 rfl ?_
  refine rr_get (v := .ref 26) cl1 k1_12 (Nat.le_of_ble_eq_true rfl) rfl rfl dX1_gather_157 ?_
  refine rr_get (v := .int (a12.1.1 417)) cl5 k1_59 (Nat.le_of_ble_eq_true rfl) rfl rfl dX1_gather_160 ?_
  refine rr_iconst (v := 1) dX1_gather_163 (by decide) ?_
  refine rr_isub dX1_gather_164 ?_
  refine rr_if (fun z => ?_)
  refine rr_iast (len := (a12.1.2.2.2 30)) rfl (inb_in z) dX1_gather_165 (xa30 P a12.1 a8.1 (((a12.1.1 417) - 1))) ?_
  refine rr_letS (W := xw P) (fun S13 => ?_)
  refine rr_iinc (lv' := [(2, .int (a8.1 + 1)), (0, .ref 25), (1, .ref 8)]) dX1_gather_166 2 rfl (by decide) rfl ?_
  refine rr_goto (tgt := 42) dX1_gather_169 (by decide) ?_
  refine rr_sub [1, 2, 0] rfl ?_
  exact hrec42 ((a8.1 + 1), S13, a12.2.1, a12.2.2)
def LX1_gather_42 (P : rr_T) (rec42 : (Int32 × rr_T × Nat × Nat) → Option (Int32 × rr_T × Nat × Nat)) (a8 : Int32 × rr_T × Nat × Nat) : Option (Int32 × rr_T × Nat × Nat) :=
  if (a8.2.1.1 289) ≤ a8.1 then
  JX1_gather_172 P (a8.2.1, a8.2.2.1, a8.2.2.2)
else
  if (nI (a8.2.1.2.2.2 30)) ≤ a8.1 then
    JX1_gather_172 P (a8.2.1, a8.2.2.1, a8.2.2.2)
  else
    (fX2_load P a8.2.1 a8.1).bind (fun S9 =>
      (fX3_run P S9).bind (fun S10 =>
      (fX5_add_26 P S10 ((S10.1 340)) a8.2.2.1 a8.2.2.2).bind (fun q11 =>
      if a8.1 ≤ 0 then
      JX1_gather_151 rec42 a8 (q11.1, q11.2.1, q11.2.2)
    else
      (fX5_compare_26 P q11.1 (((q11.1.1 417) - 2)) (((q11.1.1 417) - 1))).bind (fun r14 =>
        if r14 = 0 then
        (fX5_dropLast_26 P q11.1).bind (fun S15 =>
          JX1_gather_151 rec42 a8 (S15, q11.2.1, q11.2.2))
      else
        JX1_gather_151 rec42 a8 (q11.1, q11.2.1, q11.2.2)))))
set_option maxRecDepth 20000 in
theorem tX1_gather_42 {l : Launch} {G : rr_G} (P : rr_T) : ∀ (n : Nat) (a : Int32 × rr_T × Nat × Nat), RR l G mX1_gather 5 115 fxX rvIU (fun q => xw P q.2.1) (fun q => q.2.2.1) (fun q => q.2.2.2) a.2.2.1 a.2.2.2 42 [(0, .ref 25), (1, .ref 8), (2, .int a.1)] [] (xw P a.2.1) (rr_loop n (LX1_gather_42 P) a) := by
  refine rr_lpU (α := Int32 × rr_T × Nat × Nat) 42 (fun a => [(0, .ref 25), (1, .ref 8), (2, .int a.1)]) (fun a => (xw P a.2.1)) (fun a => a.2.2.1) (fun a => a.2.2.2) (fun rec42 hrec42 a8 => ?_)
  show RR l G mX1_gather 5 115 fxX rvIU (fun q => xw P q.2.1) (fun q => q.2.2.1) (fun q => q.2.2.2) a8.2.2.1 a8.2.2.2 42 [(0, .ref 25), (1, .ref 8), (2, .int a8.1)] [] (xw P a8.2.1) (LX1_gather_42 P rec42 a8)
  unfold LX1_gather_42
  refine rr_iload_n dX1_gather_42 rfl 2 rfl ?_
  refine rr_aload_n dX1_gather_43 rfl 0 rfl ?_
  refine rr_get (v := .ref 17) cl1 k1_42 (Nat.le_of_ble_eq_true rfl) rfl rfl dX1_gather_44 ?_
  refine rr_get (v := .ref 18) cl0 k1_56 (Nat.le_of_ble_eq_true rfl) rfl rfl dX1_gather_47 ?_
  refine rr_get (v := .int (a8.2.1.1 289)) cl5 k1_59 (Nat.le_of_ble_eq_true rfl) rfl rfl dX1_gather_50 ?_
  refine rr_icmp_ge (tgt := 172) dX1_gather_53 (by decide) (fun _ => ?_) (fun _ => ?_)
  · refine rr_sub [0] rfl ?_
    exact tX1_gather_172 P (a8.2.1, a8.2.2.1, a8.2.2.2)
  · refine rr_iload_n dX1_gather_56 rfl 2 rfl ?_
    refine rr_aload_n dX1_gather_57 rfl 0 rfl ?_
    refine rr_get (v := .ref 30) cl1 k1_25 (Nat.le_of_ble_eq_true rfl) rfl rfl dX1_gather_58 ?_
    refine rr_alen (by decide) rfl dX1_gather_61 ?_
    refine rr_icmp_ge (tgt := 172) dX1_gather_62 (by decide) (fun _ => ?_) (fun _ => ?_)
    · refine rr_sub [0] rfl ?_
      exact tX1_gather_172 P (a8.2.1, a8.2.2.1, a8.2.2.2)
    · refine rr_aload_n dX1_gather_65 rfl 0 rfl ?_
      refine rr_get (v := .ref 17) cl1 k1_42 (Nat.le_of_ble_eq_true rfl) rfl rfl dX1_gather_66 ?_
      refine rr_get (v := .ref 10) cl0 k1_67 (Nat.le_of_ble_eq_true rfl) rfl rfl dX1_gather_69 ?_
      refine rr_aload_n dX1_gather_72 rfl 0 rfl ?_
      refine rr_get (v := .ref 17) cl1 k1_42 (Nat.le_of_ble_eq_true rfl) rfl rfl dX1_gather_73 ?_
      refine rr_get (v := .ref 18) cl0 k1_56 (Nat.le_of_ble_eq_true rfl) rfl rfl dX1_gather_76 ?_
      refine rr_iload_n dX1_gather_79 rfl 2 rfl ?_
      refine rr_vs (W := xw P) (As := [.ref 18, .int a8.1]) (rest := []) (tX2_load P a8.2.1 a8.1) v1_71 rfl rfl ⟨Nat.le_of_ble_eq_true rfl, Nat.le_of_ble_eq_true rfl⟩ (fun _ _ => rfl) rfl rfl (Nat.le_of_ble_eq_true rfl) rfl dX1_gather_80 (fun S9 => ?_)
      refine rr_aload_n dX1_gather_83 rfl 0 rfl ?_
      refine rr_get (v := .ref 21) cl1 k1_46 (Nat.le_of_ble_eq_true rfl) rfl rfl dX1_gather_84 ?_
      refine rr_aload_n dX1_gather_87 rfl 1 rfl ?_
      refine rr_vs (W := xw P) (As := [.ref 8]) (rest := []) (tX3_run P S9) v1_77 rfl rfl ⟨Nat.le_of_ble_eq_true rfl, Nat.le_of_ble_eq_true rfl⟩ (fun _ _ => rfl) rfl rfl (Nat.le_of_ble_eq_true rfl) rfl dX1_gather_88 (fun S10 => ?_)
      refine rr_aload_n dX1_gather_91 rfl 0 rfl ?_
      refine rr_get (v := .ref 26) cl1 k1_12 (Nat.le_of_ble_eq_true rfl) rfl rfl dX1_gather_92 ?_
      refine rr_aload_n dX1_gather_95 rfl 0 rfl ?_
      refine rr_get (v := .ref 21) cl1 k1_46 (Nat.le_of_ble_eq_true rfl) rfl rfl dX1_gather_96 ?_
      refine rr_get (v := .ref 24) cl3 k1_83 (Nat.le_of_ble_eq_true rfl) rfl rfl dX1_gather_99 ?_
      refine rr_aload_n dX1_gather_102 rfl 0 rfl ?_
      refine rr_get (v := .ref 21) cl1 k1_46 (Nat.le_of_ble_eq_true rfl) rfl rfl dX1_gather_103 ?_
      refine rr_get (v := .int (S10.1 340)) cl3 k1_86 (Nat.le_of_ble_eq_true rfl) rfl rfl dX1_gather_106 ?_
      refine rr_vsu (W := xw P) (As := [.ref 24, .int (S10.1 340)]) (rest := []) (tX5_add_26 P S10 ((S10.1 340)) a8.2.2.1 a8.2.2.2) v1_89 rfl rfl ⟨Nat.le_of_ble_eq_true rfl, Nat.le_of_ble_eq_true rfl⟩ (fun _ z => z) rfl rfl (Nat.le_of_ble_eq_true rfl) rfl dX1_gather_109 (fun q11 => ?_)
      refine rr_iload_n dX1_gather_112 rfl 2 rfl ?_
      refine rr_if_le (tgt := 151) dX1_gather_113 (by decide) (fun _ => ?_) (fun _ => ?_)
      · exact tX1_gather_151 rec42 a8 P hrec42 (q11.1, q11.2.1, q11.2.2)
      · refine rr_aload_n dX1_gather_116 rfl 0 rfl ?_
        refine rr_get (v := .ref 26) cl1 k1_12 (Nat.le_of_ble_eq_true rfl) rfl rfl dX1_gather_117 ?_
        refine rr_aload_n dX1_gather_120 rfl 0 rfl ?_
        refine rr_get (v := .ref 26) cl1 k1_12 (Nat.le_of_ble_eq_true rfl) rfl rfl dX1_gather_121 ?_
        refine rr_get (v := .int (q11.1.1 417)) cl5 k1_59 (Nat.le_of_ble_eq_true rfl) rfl rfl dX1_gather_124 ?_
        refine rr_iconst (v := 2) dX1_gather_127 (by decide) ?_
        refine rr_isub dX1_gather_128 ?_
        refine rr_aload_n dX1_gather_129 rfl 0 rfl ?_
        refine rr_get (v := .ref 26) cl1 k1_12 (Nat.le_of_ble_eq_true rfl) rfl rfl dX1_gather_130 ?_
        refine rr_get (v := .int (q11.1.1 417)) cl5 k1_59 (Nat.le_of_ble_eq_true rfl) rfl rfl dX1_gather_133 ?_
        refine rr_iconst (v := 1) dX1_gather_136 (by decide) ?_
        refine rr_isub dX1_gather_137 ?_
        refine rr_vi (As := [.int ((q11.1.1 417) - 2), .int ((q11.1.1 417) - 1)]) (rest := []) (tX5_compare_26 P q11.1 (((q11.1.1 417) - 2)) (((q11.1.1 417) - 1))) v1_93 rfl rfl ⟨Nat.le_of_ble_eq_true rfl, Nat.le_of_ble_eq_true rfl⟩ rfl rfl (Nat.le_of_ble_eq_true rfl) rfl dX1_gather_138 (fun r14 => ?_)
        refine rr_if_ne (tgt := 151) dX1_gather_141 (by decide) (fun _ => ?_) (fun _ => ?_)
        · exact tX1_gather_151 rec42 a8 P hrec42 (q11.1, q11.2.1, q11.2.2)
        · refine rr_aload_n dX1_gather_144 rfl 0 rfl ?_
          refine rr_get (v := .ref 26) cl1 k1_12 (Nat.le_of_ble_eq_true rfl) rfl rfl dX1_gather_145 ?_
          refine rr_vs (W := xw P) (As := []) (rest := []) (tX5_dropLast_26 P q11.1) v1_97 rfl rfl ⟨Nat.le_of_ble_eq_true rfl, Nat.le_of_ble_eq_true rfl⟩ (fun _ _ => rfl) rfl rfl (Nat.le_of_ble_eq_true rfl) rfl dX1_gather_148 (fun S15 => ?_)
          exact tX1_gather_151 rec42 a8 P hrec42 (S15, q11.2.1, q11.2.2)
def fX1_gather (P : rr_T) (S : rr_T) (u : Nat) (v : Nat) : Option (Int32 × rr_T × Nat × Nat) :=
  (fX0_list P S u v).bind (fun q1 =>
  if q1.1 = 0 then
  some (0, q1.2.1, q1.2.2.1, q1.2.2.2)
else
  if (q1.2.1.1 408) = 0 then
    (fX1_makeRoom P q1.2.1 ((q1.2.1.1 289)) q1.2.2.1 q1.2.2.2).bind (fun q2 =>
      (fX5_drop_26 P q2.1).bind (fun S3 =>
      rr_loop FU (LX1_gather_42 P) (0, S3, q2.2.1, q2.2.2)))
  else
    some (1, q1.2.1, q1.2.2.1, q1.2.2.2))
set_option maxRecDepth 20000 in
theorem tX1_gather {l : Launch} {G : rr_G} (P : rr_T) (S : rr_T) (u : Nat) (v : Nat) : TT l G mX1_gather 5 115 fxX rvIU (fun q => xw P q.2.1) (fun q => q.2.2.1) (fun q => q.2.2.2) u v [.ref 25, .ref 8] (xw P S) (fX1_gather P S u v) := by
  refine TT.by (by decide) (Nat.le_of_ble_eq_true rfl) (lv := [(0, .ref 25), (1, .ref 8)]) rfl ?_
  show RR l G mX1_gather 5 115 fxX rvIU (fun q => xw P q.2.1) (fun q => q.2.2.1) (fun q => q.2.2.2) u v 0 [(0, .ref 25), (1, .ref 8)] [] (xw P S) (fX1_gather P S u v)
  unfold fX1_gather
  refine rr_aload_n dX1_gather_0 rfl 0 rfl ?_
  refine rr_get (v := .ref 17) cl1 k1_42 (Nat.le_of_ble_eq_true rfl) rfl rfl dX1_gather_1 ?_
  refine rr_viu (W := xw P) (As := []) (rest := []) (tX0_list P S u v) v1_50 rfl rfl ⟨Nat.le_of_ble_eq_true rfl, Nat.le_of_ble_eq_true rfl⟩ (fun _ z => z) rfl rfl (Nat.le_of_ble_eq_true rfl) rfl dX1_gather_4 (fun q1 => ?_)
  refine rr_if_ne (tgt := 12) dX1_gather_7 (by decide) (fun _ => ?_) (fun _ => ?_)
  · refine rr_aload_n dX1_gather_12 rfl 0 rfl ?_
    refine rr_get (v := .int (q1.2.1.1 408)) cl1 k1_34 (Nat.le_of_ble_eq_true rfl) rfl rfl dX1_gather_13 ?_
    refine rr_if_ne (tgt := 185) dX1_gather_16 (by decide) (fun _ => ?_) (fun _ => ?_)
    · refine rr_iconst (v := 1) dX1_gather_185 (by decide) ?_
      exact rr_zret dX1_gather_186 rfl (by decide) rfl rfl rfl rfl
    · refine rr_aload_n dX1_gather_19 rfl 0 rfl ?_
      refine rr_aload_n dX1_gather_20 rfl 0 rfl ?_
      refine rr_get (v := .ref 17) cl1 k1_42 (Nat.le_of_ble_eq_true rfl) rfl rfl dX1_gather_21 ?_
      refine rr_get (v := .ref 18) cl0 k1_56 (Nat.le_of_ble_eq_true rfl) rfl rfl dX1_gather_24 ?_
      refine rr_get (v := .int (q1.2.1.1 289)) cl5 k1_59 (Nat.le_of_ble_eq_true rfl) rfl rfl dX1_gather_27 ?_
      refine rr_vsu (W := xw P) (As := [.int (q1.2.1.1 289)]) (rest := []) (tX1_makeRoom P q1.2.1 ((q1.2.1.1 289)) q1.2.2.1 q1.2.2.2) v1_60 rfl rfl ⟨Nat.le_of_ble_eq_true rfl, Nat.le_of_ble_eq_true rfl⟩ (fun _ z => z) rfl rfl (Nat.le_of_ble_eq_true rfl) rfl dX1_gather_30 (fun q2 => ?_)
      refine rr_aload_n dX1_gather_33 rfl 0 rfl ?_
      refine rr_get (v := .ref 26) cl1 k1_12 (Nat.le_of_ble_eq_true rfl) rfl rfl dX1_gather_34 ?_
      refine rr_vs (W := xw P) (As := []) (rest := []) (tX5_drop_26 P q2.1) v1_64 rfl rfl ⟨Nat.le_of_ble_eq_true rfl, Nat.le_of_ble_eq_true rfl⟩ (fun _ _ => rfl) rfl rfl (Nat.le_of_ble_eq_true rfl) rfl dX1_gather_37 (fun S3 => ?_)
      refine rr_iconst (v := 0) dX1_gather_40 (by decide) ?_
      refine rr_istore_n (lv' := [(2, .int 0), (0, .ref 25), (1, .ref 8)]) dX1_gather_41 rfl (by decide) rfl ?_
      refine rr_sub [1, 2, 0] rfl ?_
      exact tX1_gather_42 P FU (0, S3, q2.2.1, q2.2.2)
  · refine rr_iconst (v := 0) dX1_gather_10 (by decide) ?_
    exact rr_zret dX1_gather_11 rfl (by decide) rfl rfl rfl rfl
def fX10_ends (P : rr_T) (S : rr_T) (u : Nat) (v : Nat) : Option (Int32 × rr_T × Nat × Nat) :=
  (fX1_gather P S u v).bind (fun q1 =>
  if q1.1 = 0 then
  some ((-104), q1.2.1, q1.2.2.1, q1.2.2.2)
else
  some ((q1.2.1.1 409), q1.2.1, q1.2.2.1, q1.2.2.2))
set_option maxRecDepth 20000 in
theorem tX10_ends {l : Launch} {G : rr_G} (P : rr_T) (S : rr_T) (u : Nat) (v : Nat) : TT l G mX10_ends 6 137 fxX rvIU (fun q => xw P q.2.1) (fun q => q.2.2.1) (fun q => q.2.2.2) u v [.ref 0] (xw P S) (fX10_ends P S u v) := by
  refine TT.by (by decide) (Nat.le_of_ble_eq_true rfl) (lv := [(0, .ref 0)]) rfl ?_
  show RR l G mX10_ends 6 137 fxX rvIU (fun q => xw P q.2.1) (fun q => q.2.2.1) (fun q => q.2.2.2) u v 0 [(0, .ref 0)] [] (xw P S) (fX10_ends P S u v)
  unfold fX10_ends
  refine rr_aload_n dX10_ends_0 rfl 0 rfl ?_
  refine rr_get (v := .ref 25) cl10 k10_62 (Nat.le_of_ble_eq_true rfl) rfl rfl dX10_ends_1 ?_
  refine rr_aload_n dX10_ends_4 rfl 0 rfl ?_
  refine rr_get (v := .ref 8) cl10 k10_26 (Nat.le_of_ble_eq_true rfl) rfl rfl dX10_ends_5 ?_
  refine rr_viu (W := xw P) (As := [.ref 8]) (rest := []) (tX1_gather P S u v) v10_195 rfl rfl ⟨Nat.le_of_ble_eq_true rfl, Nat.le_of_ble_eq_true rfl⟩ (fun _ z => z) rfl rfl (Nat.le_of_ble_eq_true rfl) rfl dX10_ends_8 (fun q1 => ?_)
  refine rr_if_eq (tgt := 24) dX10_ends_11 (by decide) (fun _ => ?_) (fun _ => ?_)
  · refine rr_bipush (v := (-104)) dX10_ends_24 (by decide) ?_
    exact rr_iret dX10_ends_26 rfl rfl rfl rfl rfl
  · refine rr_aload_n dX10_ends_14 rfl 0 rfl ?_
    refine rr_get (v := .ref 25) cl10 k10_62 (Nat.le_of_ble_eq_true rfl) rfl rfl dX10_ends_15 ?_
    refine rr_get (v := .int (q1.2.1.1 409)) cl1 k10_199 (Nat.le_of_ble_eq_true rfl) rfl rfl dX10_ends_18 ?_
    refine rr_goto (tgt := 26) dX10_ends_21 (by decide) ?_
    exact rr_iret dX10_ends_26 rfl rfl rfl rfl rfl
def fX10_end (P : rr_T) (S : rr_T) (x1 : Int32) (x2 : Int32) (u : Nat) (v : Nat) : Option (Int32 × rr_T × Nat × Nat) :=
  (fX1_gather P S u v).bind (fun q1 =>
  if q1.1 = 0 then
  some ((-104), q1.2.1, q1.2.2.1, q1.2.2.2)
else
  (fX1_replay P q1.2.1 x1).bind (fun q2 =>
    if q2.1 = 0 then
    some ((-101), q2.2, q1.2.2.1, q1.2.2.2)
  else
    if x2 = 0 then
      some ((q2.2.1 345), q2.2, q1.2.2.1, q1.2.2.2)
    else
      if x2 = 1 then
        some ((q2.2.1 340), q2.2, q1.2.2.1, q1.2.2.2)
      else
        if x2 = 2 then
          (fX1_sizeOf P q2.2 x1).bind (fun r3 =>
            some (r3, q2.2, q1.2.2.1, q1.2.2.2))
        else
          if x2 = 3 then
            (fX0_sift P q2.2 q1.2.2.1 q1.2.2.2).bind (fun q4 =>
              if q4.1 = 0 then
              some ((-104), q4.2.1, q4.2.2.1, q4.2.2.2)
            else
              (fX1_keptIn P q4.2.1 x1).bind (fun r5 =>
                some (r5, q4.2.1, q4.2.2.1, q4.2.2.2)))
          else
            if x2 = 4 then
              some ((q2.2.1 344), q2.2, q1.2.2.1, q1.2.2.2)
            else
              some ((-102), q2.2, q1.2.2.1, q1.2.2.2)))
set_option maxRecDepth 20000 in
theorem tX10_end {l : Launch} {G : rr_G} (P : rr_T) (S : rr_T) (x1 : Int32) (x2 : Int32) (u : Nat) (v : Nat) : TT l G mX10_end 6 140 fxX rvIU (fun q => xw P q.2.1) (fun q => q.2.2.1) (fun q => q.2.2.2) u v [.ref 0, .int x1, .int x2] (xw P S) (fX10_end P S x1 x2 u v) := by
  refine TT.by (by decide) (Nat.le_of_ble_eq_true rfl) (lv := [(0, .ref 0), (1, .int x1), (2, .int x2)]) rfl ?_
  show RR l G mX10_end 6 140 fxX rvIU (fun q => xw P q.2.1) (fun q => q.2.2.1) (fun q => q.2.2.2) u v 0 [(0, .ref 0), (1, .int x1), (2, .int x2)] [] (xw P S) (fX10_end P S x1 x2 u v)
  unfold fX10_end
  refine rr_aload_n dX10_end_0 rfl 0 rfl ?_
  refine rr_get (v := .ref 25) cl10 k10_62 (Nat.le_of_ble_eq_true rfl) rfl rfl dX10_end_1 ?_
  refine rr_aload_n dX10_end_4 rfl 0 rfl ?_
  refine rr_get (v := .ref 8) cl10 k10_26 (Nat.le_of_ble_eq_true rfl) rfl rfl dX10_end_5 ?_
  refine rr_viu (W := xw P) (As := [.ref 8]) (rest := []) (tX1_gather P S u v) v10_195 rfl rfl ⟨Nat.le_of_ble_eq_true rfl, Nat.le_of_ble_eq_true rfl⟩ (fun _ z => z) rfl rfl (Nat.le_of_ble_eq_true rfl) rfl dX10_end_8 (fun q1 => ?_)
  refine rr_if_ne (tgt := 17) dX10_end_11 (by decide) (fun _ => ?_) (fun _ => ?_)
  · refine rr_aload_n dX10_end_17 rfl 0 rfl ?_
    refine rr_get (v := .ref 25) cl10 k10_62 (Nat.le_of_ble_eq_true rfl) rfl rfl dX10_end_18 ?_
    refine rr_iload_n dX10_end_21 rfl 1 rfl ?_
    refine rr_aload_n dX10_end_22 rfl 0 rfl ?_
    refine rr_get (v := .ref 8) cl10 k10_26 (Nat.le_of_ble_eq_true rfl) rfl rfl dX10_end_23 ?_
    refine rr_vis (W := xw P) (As := [.int x1, .ref 8]) (rest := []) (tX1_replay P q1.2.1 x1) v10_200 rfl rfl ⟨Nat.le_of_ble_eq_true rfl, Nat.le_of_ble_eq_true rfl⟩ (fun _ _ => rfl) rfl rfl (Nat.le_of_ble_eq_true rfl) rfl dX10_end_26 (fun q2 => ?_)
    refine rr_if_ne (tgt := 35) dX10_end_29 (by decide) (fun _ => ?_) (fun _ => ?_)
    · refine rr_iload_n dX10_end_35 rfl 2 rfl ?_
      refine rr_ite (fun z => ?_) (fun z0 => ?_)
      · refine rr_tableIn (off := 36) (tgt := 72) dX10_end_36 (by rw [z]; decide) (by rw [z]; decide) (by rw [z]; decide) (by decide) ?_
        refine rr_aload_n dX10_end_72 rfl 0 rfl ?_
        refine rr_get (v := .ref 21) cl10 k10_53 (Nat.le_of_ble_eq_true rfl) rfl rfl dX10_end_73 ?_
        refine rr_get (v := .int (q2.2.1 345)) cl3 k10_204 (Nat.le_of_ble_eq_true rfl) rfl rfl dX10_end_76 ?_
        exact rr_iret dX10_end_79 rfl rfl rfl rfl rfl
      · refine rr_ite (fun z => ?_) (fun z1 => ?_)
        · refine rr_tableIn (off := 44) (tgt := 80) dX10_end_36 (by rw [z]; decide) (by rw [z]; decide) (by rw [z]; decide) (by decide) ?_
          refine rr_aload_n dX10_end_80 rfl 0 rfl ?_
          refine rr_get (v := .ref 21) cl10 k10_53 (Nat.le_of_ble_eq_true rfl) rfl rfl dX10_end_81 ?_
          refine rr_get (v := .int (q2.2.1 340)) cl3 k10_207 (Nat.le_of_ble_eq_true rfl) rfl rfl dX10_end_84 ?_
          exact rr_iret dX10_end_87 rfl rfl rfl rfl rfl
        · refine rr_ite (fun z => ?_) (fun z2 => ?_)
          · refine rr_tableIn (off := 52) (tgt := 88) dX10_end_36 (by rw [z]; decide) (by rw [z]; decide) (by rw [z]; decide) (by decide) ?_
            refine rr_aload_n dX10_end_88 rfl 0 rfl ?_
            refine rr_get (v := .ref 25) cl10 k10_62 (Nat.le_of_ble_eq_true rfl) rfl rfl dX10_end_89 ?_
            refine rr_iload_n dX10_end_92 rfl 1 rfl ?_
            refine rr_vi (As := [.int x1]) (rest := []) (tX1_sizeOf P q2.2 x1) v10_210 rfl rfl ⟨Nat.le_of_ble_eq_true rfl, Nat.le_of_ble_eq_true rfl⟩ rfl rfl (Nat.le_of_ble_eq_true rfl) rfl dX10_end_93 (fun r3 => ?_)
            exact rr_iret dX10_end_96 rfl rfl rfl rfl rfl
          · refine rr_ite (fun z => ?_) (fun z3 => ?_)
            · refine rr_tableIn (off := 61) (tgt := 97) dX10_end_36 (by rw [z]; decide) (by rw [z]; decide) (by rw [z]; decide) (by decide) ?_
              refine rr_aload_n dX10_end_97 rfl 0 rfl ?_
              refine rr_get (v := .ref 17) cl10 k10_44 (Nat.le_of_ble_eq_true rfl) rfl rfl dX10_end_98 ?_
              refine rr_viu (W := xw P) (As := []) (rest := []) (tX0_sift P q2.2 q1.2.2.1 q1.2.2.2) v10_148 rfl rfl ⟨Nat.le_of_ble_eq_true rfl, Nat.le_of_ble_eq_true rfl⟩ (fun _ z => z) rfl rfl (Nat.le_of_ble_eq_true rfl) rfl dX10_end_101 (fun q4 => ?_)
              refine rr_if_eq (tgt := 118) dX10_end_104 (by decide) (fun _ => ?_) (fun _ => ?_)
              · refine rr_bipush (v := (-104)) dX10_end_118 (by decide) ?_
                exact rr_iret dX10_end_120 rfl rfl rfl rfl rfl
              · refine rr_aload_n dX10_end_107 rfl 0 rfl ?_
                refine rr_get (v := .ref 25) cl10 k10_62 (Nat.le_of_ble_eq_true rfl) rfl rfl dX10_end_108 ?_
                refine rr_iload_n dX10_end_111 rfl 1 rfl ?_
                refine rr_vi (As := [.int x1]) (rest := []) (tX1_keptIn P q4.2.1 x1) v10_213 rfl rfl ⟨Nat.le_of_ble_eq_true rfl, Nat.le_of_ble_eq_true rfl⟩ rfl rfl (Nat.le_of_ble_eq_true rfl) rfl dX10_end_112 (fun r5 => ?_)
                refine rr_goto (tgt := 120) dX10_end_115 (by decide) ?_
                exact rr_iret dX10_end_120 rfl rfl rfl rfl rfl
            · refine rr_ite (fun z => ?_) (fun z4 => ?_)
              · refine rr_tableIn (off := 85) (tgt := 121) dX10_end_36 (by rw [z]; decide) (by rw [z]; decide) (by rw [z]; decide) (by decide) ?_
                refine rr_aload_n dX10_end_121 rfl 0 rfl ?_
                refine rr_get (v := .ref 21) cl10 k10_53 (Nat.le_of_ble_eq_true rfl) rfl rfl dX10_end_122 ?_
                refine rr_get (v := .int (q2.2.1 344)) cl3 k10_216 (Nat.le_of_ble_eq_true rfl) rfl rfl dX10_end_125 ?_
                exact rr_iret dX10_end_128 rfl rfl rfl rfl rfl
              · refine rr_tableOut (tgt := 129) dX10_end_36 (by have h0 := lv_neT (a := 0) z0 (by decide); have h1 := lv_neT (a := 1) z1 (by decide); have h2 := lv_neT (a := 2) z2 (by decide); have h3 := lv_neT (a := 3) z3 (by decide); have h4 := lv_neT (a := 4) z4 (by decide); omega) (by decide) ?_
                refine rr_bipush (v := (-102)) dX10_end_129 (by decide) ?_
                exact rr_iret dX10_end_131 rfl rfl rfl rfl rfl
    · refine rr_bipush (v := (-101)) dX10_end_32 (by decide) ?_
      exact rr_iret dX10_end_34 rfl rfl rfl rfl rfl
  · refine rr_bipush (v := (-104)) dX10_end_14 (by decide) ?_
    exact rr_iret dX10_end_16 rfl rfl rfl rfl rfl
def fX10_look (P : rr_T) (S : rr_T) (x1 : Int32) (x2 : Int32) (u : Nat) (v : Nat) : Option (Int32 × rr_T × Nat × Nat) :=
  (fX1_gather P S u v).bind (fun q1 =>
  if q1.1 = 0 then
  some ((-104), q1.2.1, q1.2.2.1, q1.2.2.2)
else
  (fX1_replay P q1.2.1 x1).bind (fun q2 =>
    if q2.1 = 0 then
    some ((-101), q2.2, q1.2.2.1, q1.2.2.2)
  else
    if 0 ≤ x2 then
      (fX3_lookAt P q2.2 x2).bind (fun r3 =>
        some (r3, q2.2, q1.2.2.1, q1.2.2.2))
    else
      some ((-101), q2.2, q1.2.2.1, q1.2.2.2)))
set_option maxRecDepth 20000 in
theorem tX10_look {l : Launch} {G : rr_G} (P : rr_T) (S : rr_T) (x1 : Int32) (x2 : Int32) (u : Nat) (v : Nat) : TT l G mX10_look 6 137 fxX rvIU (fun q => xw P q.2.1) (fun q => q.2.2.1) (fun q => q.2.2.2) u v [.ref 0, .int x1, .int x2] (xw P S) (fX10_look P S x1 x2 u v) := by
  refine TT.by (by decide) (Nat.le_of_ble_eq_true rfl) (lv := [(0, .ref 0), (1, .int x1), (2, .int x2)]) rfl ?_
  show RR l G mX10_look 6 137 fxX rvIU (fun q => xw P q.2.1) (fun q => q.2.2.1) (fun q => q.2.2.2) u v 0 [(0, .ref 0), (1, .int x1), (2, .int x2)] [] (xw P S) (fX10_look P S x1 x2 u v)
  unfold fX10_look
  refine rr_aload_n dX10_look_0 rfl 0 rfl ?_
  refine rr_get (v := .ref 25) cl10 k10_62 (Nat.le_of_ble_eq_true rfl) rfl rfl dX10_look_1 ?_
  refine rr_aload_n dX10_look_4 rfl 0 rfl ?_
  refine rr_get (v := .ref 8) cl10 k10_26 (Nat.le_of_ble_eq_true rfl) rfl rfl dX10_look_5 ?_
  refine rr_viu (W := xw P) (As := [.ref 8]) (rest := []) (tX1_gather P S u v) v10_195 rfl rfl ⟨Nat.le_of_ble_eq_true rfl, Nat.le_of_ble_eq_true rfl⟩ (fun _ z => z) rfl rfl (Nat.le_of_ble_eq_true rfl) rfl dX10_look_8 (fun q1 => ?_)
  refine rr_if_ne (tgt := 17) dX10_look_11 (by decide) (fun _ => ?_) (fun _ => ?_)
  · refine rr_aload_n dX10_look_17 rfl 0 rfl ?_
    refine rr_get (v := .ref 25) cl10 k10_62 (Nat.le_of_ble_eq_true rfl) rfl rfl dX10_look_18 ?_
    refine rr_iload_n dX10_look_21 rfl 1 rfl ?_
    refine rr_aload_n dX10_look_22 rfl 0 rfl ?_
    refine rr_get (v := .ref 8) cl10 k10_26 (Nat.le_of_ble_eq_true rfl) rfl rfl dX10_look_23 ?_
    refine rr_vis (W := xw P) (As := [.int x1, .ref 8]) (rest := []) (tX1_replay P q1.2.1 x1) v10_200 rfl rfl ⟨Nat.le_of_ble_eq_true rfl, Nat.le_of_ble_eq_true rfl⟩ (fun _ _ => rfl) rfl rfl (Nat.le_of_ble_eq_true rfl) rfl dX10_look_26 (fun q2 => ?_)
    refine rr_if_eq (tgt := 36) dX10_look_29 (by decide) (fun _ => ?_) (fun _ => ?_)
    · refine rr_bipush (v := (-101)) dX10_look_36 (by decide) ?_
      exact rr_iret dX10_look_38 rfl rfl rfl rfl rfl
    · refine rr_iload_n dX10_look_32 rfl 2 rfl ?_
      refine rr_if_ge (tgt := 39) dX10_look_33 (by decide) (fun _ => ?_) (fun _ => ?_)
      · refine rr_aload_n dX10_look_39 rfl 0 rfl ?_
        refine rr_get (v := .ref 21) cl10 k10_53 (Nat.le_of_ble_eq_true rfl) rfl rfl dX10_look_40 ?_
        refine rr_iload_n dX10_look_43 rfl 2 rfl ?_
        refine rr_vi (As := [.int x2]) (rest := []) (tX3_lookAt P q2.2 x2) v10_219 rfl rfl ⟨Nat.le_of_ble_eq_true rfl, Nat.le_of_ble_eq_true rfl⟩ rfl rfl (Nat.le_of_ble_eq_true rfl) rfl dX10_look_44 (fun r3 => ?_)
        exact rr_iret dX10_look_47 rfl rfl rfl rfl rfl
      · refine rr_bipush (v := (-101)) dX10_look_36 (by decide) ?_
        exact rr_iret dX10_look_38 rfl rfl rfl rfl rfl
  · refine rr_bipush (v := (-104)) dX10_look_14 (by decide) ?_
    exact rr_iret dX10_look_16 rfl rfl rfl rfl rfl
def fX10_endOf (P : rr_T) (S : rr_T) (x1 : Int32) (u : Nat) (v : Nat) : Option (Int32 × rr_T × Nat × Nat) :=
  (fX0_sift P S u v).bind (fun q1 =>
  if q1.1 = 0 then
  some ((-104), q1.2.1, q1.2.2.1, q1.2.2.2)
else
  (fX1_gather P q1.2.1 q1.2.2.1 q1.2.2.2).bind (fun q2 =>
    if q2.1 = 0 then
    some ((-104), q2.2.1, q2.2.2.1, q2.2.2.2)
  else
    (fX0_isKeptNumber P q2.2.1 x1).bind (fun r3 =>
      if r3 = 0 then
      some ((-101), q2.2.1, q2.2.2.1, q2.2.2.2)
    else
      (fX0_keptRow P q2.2.1 x1).bind (fun r4 =>
        (fX1_partOf P q2.2.1 r4).bind (fun r5 =>
        some (r5, q2.2.1, q2.2.2.1, q2.2.2.2))))))
set_option maxRecDepth 20000 in
theorem tX10_endOf {l : Launch} {G : rr_G} (P : rr_T) (S : rr_T) (x1 : Int32) (u : Nat) (v : Nat) : TT l G mX10_endOf 6 140 fxX rvIU (fun q => xw P q.2.1) (fun q => q.2.2.1) (fun q => q.2.2.2) u v [.ref 0, .int x1] (xw P S) (fX10_endOf P S x1 u v) := by
  refine TT.by (by decide) (Nat.le_of_ble_eq_true rfl) (lv := [(0, .ref 0), (1, .int x1)]) rfl ?_
  show RR l G mX10_endOf 6 140 fxX rvIU (fun q => xw P q.2.1) (fun q => q.2.2.1) (fun q => q.2.2.2) u v 0 [(0, .ref 0), (1, .int x1)] [] (xw P S) (fX10_endOf P S x1 u v)
  unfold fX10_endOf
  refine rr_aload_n dX10_endOf_0 rfl 0 rfl ?_
  refine rr_get (v := .ref 17) cl10 k10_44 (Nat.le_of_ble_eq_true rfl) rfl rfl dX10_endOf_1 ?_
  refine rr_viu (W := xw P) (As := []) (rest := []) (tX0_sift P S u v) v10_148 rfl rfl ⟨Nat.le_of_ble_eq_true rfl, Nat.le_of_ble_eq_true rfl⟩ (fun _ z => z) rfl rfl (Nat.le_of_ble_eq_true rfl) rfl dX10_endOf_4 (fun q1 => ?_)
  refine rr_if_eq (tgt := 24) dX10_endOf_7 (by decide) (fun _ => ?_) (fun _ => ?_)
  · refine rr_bipush (v := (-104)) dX10_endOf_24 (by decide) ?_
    exact rr_iret dX10_endOf_26 rfl rfl rfl rfl rfl
  · refine rr_aload_n dX10_endOf_10 rfl 0 rfl ?_
    refine rr_get (v := .ref 25) cl10 k10_62 (Nat.le_of_ble_eq_true rfl) rfl rfl dX10_endOf_11 ?_
    refine rr_aload_n dX10_endOf_14 rfl 0 rfl ?_
    refine rr_get (v := .ref 8) cl10 k10_26 (Nat.le_of_ble_eq_true rfl) rfl rfl dX10_endOf_15 ?_
    refine rr_viu (W := xw P) (As := [.ref 8]) (rest := []) (tX1_gather P q1.2.1 q1.2.2.1 q1.2.2.2) v10_195 rfl rfl ⟨Nat.le_of_ble_eq_true rfl, Nat.le_of_ble_eq_true rfl⟩ (fun _ z => z) rfl rfl (Nat.le_of_ble_eq_true rfl) rfl dX10_endOf_18 (fun q2 => ?_)
    refine rr_if_ne (tgt := 27) dX10_endOf_21 (by decide) (fun _ => ?_) (fun _ => ?_)
    · refine rr_aload_n dX10_endOf_27 rfl 0 rfl ?_
      refine rr_get (v := .ref 17) cl10 k10_44 (Nat.le_of_ble_eq_true rfl) rfl rfl dX10_endOf_28 ?_
      refine rr_iload_n dX10_endOf_31 rfl 1 rfl ?_
      refine rr_vi (As := [.int x1]) (rest := []) (tX0_isKeptNumber P q2.2.1 x1) v10_222 rfl rfl ⟨Nat.le_of_ble_eq_true rfl, Nat.le_of_ble_eq_true rfl⟩ rfl rfl (Nat.le_of_ble_eq_true rfl) rfl dX10_endOf_32 (fun r3 => ?_)
      refine rr_if_ne (tgt := 41) dX10_endOf_35 (by decide) (fun _ => ?_) (fun _ => ?_)
      · refine rr_aload_n dX10_endOf_41 rfl 0 rfl ?_
        refine rr_get (v := .ref 25) cl10 k10_62 (Nat.le_of_ble_eq_true rfl) rfl rfl dX10_endOf_42 ?_
        refine rr_aload_n dX10_endOf_45 rfl 0 rfl ?_
        refine rr_get (v := .ref 17) cl10 k10_44 (Nat.le_of_ble_eq_true rfl) rfl rfl dX10_endOf_46 ?_
        refine rr_iload_n dX10_endOf_49 rfl 1 rfl ?_
        refine rr_vi (As := [.int x1]) (rest := [.ref 25]) (tX0_keptRow P q2.2.1 x1) v10_225 rfl rfl ⟨Nat.le_of_ble_eq_true rfl, Nat.le_of_ble_eq_true rfl⟩ rfl rfl (Nat.le_of_ble_eq_true rfl) rfl dX10_endOf_50 (fun r4 => ?_)
        refine rr_vi (As := [.int r4]) (rest := []) (tX1_partOf P q2.2.1 r4) v10_228 rfl rfl ⟨Nat.le_of_ble_eq_true rfl, Nat.le_of_ble_eq_true rfl⟩ rfl rfl (Nat.le_of_ble_eq_true rfl) rfl dX10_endOf_53 (fun r5 => ?_)
        exact rr_iret dX10_endOf_56 rfl rfl rfl rfl rfl
      · refine rr_bipush (v := (-101)) dX10_endOf_38 (by decide) ?_
        exact rr_iret dX10_endOf_40 rfl rfl rfl rfl rfl
    · refine rr_bipush (v := (-104)) dX10_endOf_24 (by decide) ?_
      exact rr_iret dX10_endOf_26 rfl rfl rfl rfl rfl
