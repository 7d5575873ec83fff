/-! ===== the class's methods that make rows: keepAll, clear, add_18, add_26, list, many, sift ===== -/
def JX0_keepAll_97 (a4 : rr_T × Nat × Nat) : Option (rr_T × Nat × Nat) :=
  rr_l (pI a4.1 277 ((a4.1.1 289))) (fun S5 =>
  some (S5, a4.2.1, a4.2.2))
set_option maxRecDepth 20000 in
theorem tX0_keepAll_97 {l : Launch} {G : rr_G} (P : rr_T) (a4 : rr_T × Nat × Nat) : RR l G mX0_keepAll 1 22 fxX rvSU (fun q => xw P q.1) (fun q => q.2.1) (fun q => q.2.2) a4.2.1 a4.2.2 97 [(0, .ref 17)] [] (xw P a4.1) (JX0_keepAll_97 a4) := by
  unfold JX0_keepAll_97
  refine rr_aload_n dX0_keepAll_97 rfl 0 rfl ?_
  refine rr_aload_n dX0_keepAll_98 rfl 0 rfl ?_
  refine rr_get (v := .ref 18) cl0 k0_12 (Nat.le_of_ble_eq_true rfl) rfl rfl dX0_keepAll_99 ?_
  refine rr_get (v := .int (a4.1.1 289)) cl5 k0_69 (Nat.le_of_ble_eq_true rfl) rfl rfl dX0_keepAll_102 ?_
  refine rr_put cl0 k0_26 (Nat.le_of_ble_eq_true rfl) rfl rfl rfl rfl (Nat.le_of_ble_eq_true rfl) dX0_keepAll_105 (xp17_5 P a4.1 ((a4.1.1 289))) ?_
  refine rr_letS (W := xw P) (fun S5 => ?_)
  exact rr_vret dX0_keepAll_108 rfl rfl rfl rfl rfl
def LX0_keepAll_64 (rec64 : (Int32 × rr_T × Nat × Nat) → Option (rr_T × Nat × Nat)) (a6 : Int32 × rr_T × Nat × Nat) : Option (rr_T × Nat × Nat) :=
  if (a6.2.1.1 289) ≤ a6.1 then
  JX0_keepAll_97 (a6.2.1, a6.2.2.1, a6.2.2.2)
else
  if (nI (a6.2.1.2.2.2 20)) ≤ a6.1 then
    JX0_keepAll_97 (a6.2.1, a6.2.2.1, a6.2.2.2)
  else
    if inb a6.1 (a6.2.1.2.2.2 20) then
      rr_l (pA a6.2.1 20 a6.1 a6.1) (fun S7 =>
        rec64 ((a6.1 + 1), S7, a6.2.2.1, a6.2.2.2))
    else none
set_option maxRecDepth 20000 in
theorem tX0_keepAll_64 {l : Launch} {G : rr_G} (P : rr_T) : ∀ (n : Nat) (a : Int32 × rr_T × Nat × Nat), RR l G mX0_keepAll 1 22 fxX rvSU (fun q => xw P q.1) (fun q => q.2.1) (fun q => q.2.2) a.2.2.1 a.2.2.2 64 [(0, .ref 17), (1, .int a.1)] [] (xw P a.2.1) (rr_loop n (LX0_keepAll_64) a) := by
  refine rr_lpU (α := Int32 × rr_T × Nat × Nat) 64 (fun a => [(0, .ref 17), (1, .int a.1)]) (fun a => (xw P a.2.1)) (fun a => a.2.2.1) (fun a => a.2.2.2) (fun rec64 hrec64 a6 => ?_)
  show RR l G mX0_keepAll 1 22 fxX rvSU (fun q => xw P q.1) (fun q => q.2.1) (fun q => q.2.2) a6.2.2.1 a6.2.2.2 64 [(0, .ref 17), (1, .int a6.1)] [] (xw P a6.2.1) (LX0_keepAll_64 rec64 a6)
  unfold LX0_keepAll_64
  refine rr_iload_n dX0_keepAll_64 rfl 1 rfl ?_
  refine rr_aload_n dX0_keepAll_65 rfl 0 rfl ?_
  refine rr_get (v := .ref 18) cl0 k0_12 (Nat.le_of_ble_eq_true rfl) rfl rfl dX0_keepAll_66 ?_
  refine rr_get (v := .int (a6.2.1.1 289)) cl5 k0_69 (Nat.le_of_ble_eq_true rfl) rfl rfl dX0_keepAll_69 ?_
  refine rr_icmp_ge (tgt := 97) dX0_keepAll_72 (by decide) (fun _ => ?_) (fun _ => ?_)
  · refine rr_sub [0] rfl ?_
    exact tX0_keepAll_97 P (a6.2.1, a6.2.2.1, a6.2.2.2)
  · refine rr_iload_n dX0_keepAll_75 rfl 1 rfl ?_
    refine rr_aload_n dX0_keepAll_76 rfl 0 rfl ?_
    refine rr_get (v := .ref 20) cl0 k0_22 (Nat.le_of_ble_eq_true rfl) rfl rfl dX0_keepAll_77 ?_
    refine rr_alen (by decide) rfl dX0_keepAll_80 ?_
    refine rr_icmp_ge (tgt := 97) dX0_keepAll_81 (by decide) (fun _ => ?_) (fun _ => ?_)
    · refine rr_sub [0] rfl ?_
      exact tX0_keepAll_97 P (a6.2.1, a6.2.2.1, a6.2.2.2)
    · refine rr_aload_n dX0_keepAll_84 rfl 0 rfl ?_
      refine rr_get (v := .ref 20) cl0 k0_22 (Nat.le_of_ble_eq_true rfl) rfl rfl dX0_keepAll_85 ?_
      refine rr_iload_n dX0_keepAll_88 rfl 1 rfl ?_
      refine rr_iload_n dX0_keepAll_89 rfl 1 rfl ?_
      refine rr_if (fun z => ?_)
      refine rr_iast (len := (a6.2.1.2.2.2 20)) rfl (inb_in z) dX0_keepAll_90 (xa20 P a6.2.1 a6.1 a6.1) ?_
      refine rr_letS (W := xw P) (fun S7 => ?_)
      refine rr_iinc (lv' := [(1, .int (a6.1 + 1)), (0, .ref 17)]) dX0_keepAll_91 1 rfl (by decide) rfl ?_
      refine rr_goto (tgt := 64) dX0_keepAll_94 (by decide) ?_
      refine rr_sub [1, 0] rfl ?_
      exact hrec64 ((a6.1 + 1), S7, a6.2.2.1, a6.2.2.2)
def JX0_keepAll_62 (a3 : rr_T × Nat × Nat) : Option (rr_T × Nat × Nat) :=
  rr_loop FU (LX0_keepAll_64) (0, a3.1, a3.2.1, a3.2.2)
set_option maxRecDepth 20000 in
theorem tX0_keepAll_62 {l : Launch} {G : rr_G} (P : rr_T) (a3 : rr_T × Nat × Nat) : RR l G mX0_keepAll 1 22 fxX rvSU (fun q => xw P q.1) (fun q => q.2.1) (fun q => q.2.2) a3.2.1 a3.2.2 62 [(0, .ref 17)] [] (xw P a3.1) (JX0_keepAll_62 a3) := by
  unfold JX0_keepAll_62
  refine rr_iconst (v := 0) dX0_keepAll_62 (by decide) ?_
  refine rr_istore_n (lv' := [(1, .int 0), (0, .ref 17)]) dX0_keepAll_63 rfl (by decide) rfl ?_
  refine rr_sub [1, 0] rfl ?_
  exact tX0_keepAll_64 P FU (0, a3.1, a3.2.1, a3.2.2)
def fX0_keepAll (P : rr_T) (S : rr_T) (u : Nat) (v : Nat) : Option (rr_T × Nat × Nat) :=
  rr_l (pI S 278 0) (fun S1 =>
  rr_l (pI S1 277 0) (fun S2 =>
  if (S2.1 275) = 0 then
  some (S2, u, v)
else
  if (S2.1 289) ≤ 4000 then
    if (S2.1 289) ≤ (nI (S2.2.2.2 20)) then
      JX0_keepAll_62 (S2, u, v)
    else
      (fX10_sizeFor ((S2.1 289))).bind (fun r8 =>
        if inb r8 100000 then
        rr_l (xNw S2 20 r8.toNatClampNeg) (fun S9 =>
          JX0_keepAll_62 (S9, (u + 1), (v + r8.toNatClampNeg)))
      else none)
  else
    some (S2, u, v)))
set_option maxRecDepth 20000 in
theorem tX0_keepAll {l : Launch} {G : rr_G} (P : rr_T) (S : rr_T) (u : Nat) (v : Nat) : TT l G mX0_keepAll 1 22 fxX rvSU (fun q => xw P q.1) (fun q => q.2.1) (fun q => q.2.2) u v [.ref 17] (xw P S) (fX0_keepAll P S u v) := by
  refine TT.by (by decide) (Nat.le_of_ble_eq_true rfl) (lv := [(0, .ref 17)]) rfl ?_
  show RR l G mX0_keepAll 1 22 fxX rvSU (fun q => xw P q.1) (fun q => q.2.1) (fun q => q.2.2) u v 0 [(0, .ref 17)] [] (xw P S) (fX0_keepAll P S u v)
  unfold fX0_keepAll
  refine rr_aload_n dX0_keepAll_0 rfl 0 rfl ?_
  refine rr_iconst (v := 0) dX0_keepAll_1 (by decide) ?_
  refine rr_put cl0 k0_30 (Nat.le_of_ble_eq_true rfl) rfl rfl rfl rfl (Nat.le_of_ble_eq_true rfl) dX0_keepAll_2 (xp17_6 P S 0) ?_
  refine rr_letS (W := xw P) (fun S1 => ?_)
  refine rr_aload_n dX0_keepAll_5 rfl 0 rfl ?_
  refine rr_iconst (v := 0) dX0_keepAll_6 (by decide) ?_
  refine rr_put cl0 k0_26 (Nat.le_of_ble_eq_true rfl) rfl rfl rfl rfl (Nat.le_of_ble_eq_true rfl) dX0_keepAll_7 (xp17_5 P S1 0) ?_
  refine rr_letS (W := xw P) (fun S2 => ?_)
  refine rr_aload_n dX0_keepAll_10 rfl 0 rfl ?_
  refine rr_get (v := .int (S2.1 275)) cl0 k0_18 (Nat.le_of_ble_eq_true rfl) rfl rfl dX0_keepAll_11 ?_
  refine rr_if_eq (tgt := 30) dX0_keepAll_14 (by decide) (fun _ => ?_) (fun _ => ?_)
  · exact rr_vret dX0_keepAll_30 rfl rfl rfl rfl rfl
  · refine rr_aload_n dX0_keepAll_17 rfl 0 rfl ?_
    refine rr_get (v := .ref 18) cl0 k0_12 (Nat.le_of_ble_eq_true rfl) rfl rfl dX0_keepAll_18 ?_
    refine rr_get (v := .int (S2.1 289)) cl5 k0_69 (Nat.le_of_ble_eq_true rfl) rfl rfl dX0_keepAll_21 ?_
    refine rr_sipush (v := 4000) dX0_keepAll_24 (by decide) ?_
    refine rr_icmp_le (tgt := 31) dX0_keepAll_27 (by decide) (fun _ => ?_) (fun _ => ?_)
    · refine rr_aload_n dX0_keepAll_31 rfl 0 rfl ?_
      refine rr_get (v := .ref 20) cl0 k0_22 (Nat.le_of_ble_eq_true rfl) rfl rfl dX0_keepAll_32 ?_
      refine rr_alen (by decide) rfl dX0_keepAll_35 ?_
      refine rr_aload_n dX0_keepAll_36 rfl 0 rfl ?_
      refine rr_get (v := .ref 18) cl0 k0_12 (Nat.le_of_ble_eq_true rfl) rfl rfl dX0_keepAll_37 ?_
      refine rr_get (v := .int (S2.1 289)) cl5 k0_69 (Nat.le_of_ble_eq_true rfl) rfl rfl dX0_keepAll_40 ?_
      refine rr_icmp_ge (tgt := 62) dX0_keepAll_43 (by decide) (fun _ => ?_) (fun _ => ?_)
      · exact tX0_keepAll_62 P (S2, u, v)
      · refine rr_aload_n dX0_keepAll_46 rfl 0 rfl ?_
        refine rr_aload_n dX0_keepAll_47 rfl 0 rfl ?_
        refine rr_get (v := .ref 18) cl0 k0_12 (Nat.le_of_ble_eq_true rfl) rfl rfl dX0_keepAll_48 ?_
        refine rr_get (v := .int (S2.1 289)) cl5 k0_69 (Nat.le_of_ble_eq_true rfl) rfl rfl dX0_keepAll_51 ?_
        refine rr_si (As := [.int (S2.1 289)]) (rest := [.ref 17]) (tX10_sizeFor ((S2.1 289)) (xw P S2)) s0_72 rfl ⟨Nat.le_of_ble_eq_true rfl, Nat.le_of_ble_eq_true rfl⟩ rfl rfl (Nat.le_of_ble_eq_true rfl) rfl dX0_keepAll_54 (fun r8 => ?_)
        refine rr_if (fun z => ?_)
        refine x_new20 z k0_22 dX0_keepAll_57 dX0_keepAll_59 rfl rfl rfl rfl ?_
        refine rr_letS (W := xw P) (fun S9 => ?_)
        exact tX0_keepAll_62 P (S9, (u + 1), (v + r8.toNatClampNeg))
    · exact rr_vret dX0_keepAll_30 rfl rfl rfl rfl rfl
def fX10_clear (P : rr_T) (S : rr_T) (u : Nat) (v : Nat) : Option (Int32 × rr_T × Nat × Nat) :=
  (fX0_keepAll P S u v).bind (fun q1 =>
  (fX7_drop P q1.1).bind (fun q2 =>
  some (q2.1, q2.2, q1.2.1, q1.2.2)))
set_option maxRecDepth 20000 in
theorem tX10_clear {l : Launch} {G : rr_G} (P : rr_T) (S : rr_T) (u : Nat) (v : Nat) : TT l G mX10_clear 2 43 fxX rvIU (fun q => xw P q.2.1) (fun q => q.2.2.1) (fun q => q.2.2.2) u v [.ref 0] (xw P S) (fX10_clear P S u v) := by
  refine TT.by (by decide) (Nat.le_of_ble_eq_true rfl) (lv := [(0, .ref 0)]) rfl ?_
  show RR l G mX10_clear 2 43 fxX rvIU (fun q => xw P q.2.1) (fun q => q.2.2.1) (fun q => q.2.2.2) u v 0 [(0, .ref 0)] [] (xw P S) (fX10_clear P S u v)
  unfold fX10_clear
  refine rr_aload_n dX10_clear_0 rfl 0 rfl ?_
  refine rr_get (v := .ref 17) cl10 k10_44 (Nat.le_of_ble_eq_true rfl) rfl rfl dX10_clear_1 ?_
  refine rr_vsu (W := xw P) (As := []) (rest := []) (tX0_keepAll P S u v) v10_117 rfl rfl ⟨Nat.le_of_ble_eq_true rfl, Nat.le_of_ble_eq_true rfl⟩ (fun _ z => z) rfl rfl (Nat.le_of_ble_eq_true rfl) rfl dX10_clear_4 (fun q1 => ?_)
  refine rr_aload_n dX10_clear_7 rfl 0 rfl ?_
  refine rr_get (v := .ref 6) cl10 k10_19 (Nat.le_of_ble_eq_true rfl) rfl rfl dX10_clear_8 ?_
  refine rr_vis (W := xw P) (As := []) (rest := []) (tX7_drop P q1.1) v10_120 rfl rfl ⟨Nat.le_of_ble_eq_true rfl, Nat.le_of_ble_eq_true rfl⟩ (fun _ _ => rfl) rfl rfl (Nat.le_of_ble_eq_true rfl) rfl dX10_clear_11 (fun q2 => ?_)
  exact rr_iret dX10_clear_14 rfl rfl rfl rfl rfl
def JX5_add_18_45 (P : rr_T) (x2 : Int32) (a1 : rr_T × Nat × Nat) : Option (rr_T × Nat × Nat) :=
  (fX5_pack_13 P a1.1 0 x2).bind (fun r2 =>
  if inb (2 * (a1.1.1 289)) (a1.1.2.2.2 19) then
  rr_l (pL a1.1 19 ((2 * (a1.1.1 289))) r2) (fun S3 =>
    (fX5_pack_13 P S3 11 x2).bind (fun r4 =>
    if inb ((2 * (S3.1 289)) + 1) (S3.2.2.2 19) then
    rr_l (pL S3 19 (((2 * (S3.1 289)) + 1)) r4) (fun S5 =>
      rr_l (pI S5 289 (((S5.1 289) + 1))) (fun S6 =>
      some (S6, a1.2.1, a1.2.2)))
  else none))
else none)
set_option maxRecDepth 20000 in
theorem tX5_add_18_45 {l : Launch} {G : rr_G} (P : rr_T) (x2 : Int32) (a1 : rr_T × Nat × Nat) : RR l G mX5_add 2 62 fxX rvSU (fun q => xw P q.1) (fun q => q.2.1) (fun q => q.2.2) a1.2.1 a1.2.2 45 [(0, .ref 18), (1, .ref 13), (2, .int x2)] [] (xw P a1.1) (JX5_add_18_45 P x2 a1) := by
  unfold JX5_add_18_45
  refine rr_aload_n dX5_add_45 rfl 0 rfl ?_
  refine rr_get (v := .ref 19) cl5 k5_9 (Nat.le_of_ble_eq_true rfl) rfl rfl dX5_add_46 ?_
  refine rr_iconst (v := 2) dX5_add_49 (by decide) ?_
  refine rr_aload_n dX5_add_50 rfl 0 rfl ?_
  refine rr_get (v := .int (a1.1.1 289)) cl5 k5_15 (Nat.le_of_ble_eq_true rfl) rfl rfl dX5_add_51 ?_
  refine rr_imul dX5_add_54 ?_
  refine rr_aload_n dX5_add_55 rfl 1 rfl ?_
  refine rr_iconst (v := 0) dX5_add_56 (by decide) ?_
  refine rr_iload_n dX5_add_57 rfl 2 rfl ?_
  refine rr_sj (As := [.ref 13, .int 0, .int x2]) (rest := [.int (2 * (a1.1.1 289)), .ref 19]) (tX5_pack_13 P a1.1 0 x2) s5_25 rfl ⟨Nat.le_of_ble_eq_true rfl, Nat.le_of_ble_eq_true rfl⟩ rfl rfl (Nat.le_of_ble_eq_true rfl) rfl dX5_add_58 (fun r2 => ?_)
  refine rr_if (fun z => ?_)
  refine rr_last (len := (a1.1.2.2.2 19)) rfl (inb_in z) dX5_add_61 (xa19 P a1.1 ((2 * (a1.1.1 289))) r2) ?_
  refine rr_letS (W := xw P) (fun S3 => ?_)
  refine rr_aload_n dX5_add_62 rfl 0 rfl ?_
  refine rr_get (v := .ref 19) cl5 k5_9 (Nat.le_of_ble_eq_true rfl) rfl rfl dX5_add_63 ?_
  refine rr_iconst (v := 2) dX5_add_66 (by decide) ?_
  refine rr_aload_n dX5_add_67 rfl 0 rfl ?_
  refine rr_get (v := .int (S3.1 289)) cl5 k5_15 (Nat.le_of_ble_eq_true rfl) rfl rfl dX5_add_68 ?_
  refine rr_imul dX5_add_71 ?_
  refine rr_iconst (v := 1) dX5_add_72 (by decide) ?_
  refine rr_iadd dX5_add_73 ?_
  refine rr_aload_n dX5_add_74 rfl 1 rfl ?_
  refine rr_bipush (v := 11) dX5_add_75 (by decide) ?_
  refine rr_iload_n dX5_add_77 rfl 2 rfl ?_
  refine rr_sj (As := [.ref 13, .int 11, .int x2]) (rest := [.int ((2 * (S3.1 289)) + 1), .ref 19]) (tX5_pack_13 P S3 11 x2) s5_25 rfl ⟨Nat.le_of_ble_eq_true rfl, Nat.le_of_ble_eq_true rfl⟩ rfl rfl (Nat.le_of_ble_eq_true rfl) rfl dX5_add_78 (fun r4 => ?_)
  refine rr_if (fun z => ?_)
  refine rr_last (len := (S3.2.2.2 19)) rfl (inb_in z) dX5_add_81 (xa19 P S3 (((2 * (S3.1 289)) + 1)) r4) ?_
  refine rr_letS (W := xw P) (fun S5 => ?_)
  refine rr_aload_n dX5_add_82 rfl 0 rfl ?_
  refine rr_dup dX5_add_83 rfl ?_
  refine rr_get (v := .int (S5.1 289)) cl5 k5_15 (Nat.le_of_ble_eq_true rfl) rfl rfl dX5_add_84 ?_
  refine rr_iconst (v := 1) dX5_add_87 (by decide) ?_
  refine rr_iadd dX5_add_88 ?_
  refine rr_put cl5 k5_15 (Nat.le_of_ble_eq_true rfl) rfl rfl rfl rfl (Nat.le_of_ble_eq_true rfl) dX5_add_89 (xp18_1 P S5 (((S5.1 289) + 1))) ?_
  refine rr_letS (W := xw P) (fun S6 => ?_)
  exact rr_vret dX5_add_92 rfl rfl rfl rfl rfl
def fX5_add_18 (P : rr_T) (S : rr_T) (x2 : Int32) (u : Nat) (v : Nat) : Option (rr_T × Nat × Nat) :=
  if (S.1 289) ≤ 4000 then
  if ((2 * (S.1 289)) + 1) < (nI (S.2.2.2 19)) then
    JX5_add_18_45 P x2 (S, u, v)
  else
    if gC S 19 ((2 * (nI (S.2.2.2 19)))) then
      rr_l (xCp S 19 ((2 * (nI (S.2.2.2 19))))) (fun S7 =>
        JX5_add_18_45 P x2 (S7, (u + 1), (v + ((2 * (nI (S.2.2.2 19)))).toNatClampNeg)))
    else none
else
  some (S, u, v)
set_option maxRecDepth 20000 in
theorem tX5_add_18 {l : Launch} {G : rr_G} (P : rr_T) (S : rr_T) (x2 : Int32) (u : Nat) (v : Nat) : TT l G mX5_add 2 62 fxX rvSU (fun q => xw P q.1) (fun q => q.2.1) (fun q => q.2.2) u v [.ref 18, .ref 13, .int x2] (xw P S) (fX5_add_18 P S x2 u v) := by
  refine TT.by (by decide) (Nat.le_of_ble_eq_true rfl) (lv := [(0, .ref 18), (1, .ref 13), (2, .int x2)]) rfl ?_
  show RR l G mX5_add 2 62 fxX rvSU (fun q => xw P q.1) (fun q => q.2.1) (fun q => q.2.2) u v 0 [(0, .ref 18), (1, .ref 13), (2, .int x2)] [] (xw P S) (fX5_add_18 P S x2 u v)
  unfold fX5_add_18
  refine rr_aload_n dX5_add_0 rfl 0 rfl ?_
  refine rr_get (v := .int (S.1 289)) cl5 k5_15 (Nat.le_of_ble_eq_true rfl) rfl rfl dX5_add_1 ?_
  refine rr_sipush (v := 4000) dX5_add_4 (by decide) ?_
  refine rr_icmp_le (tgt := 11) dX5_add_7 (by decide) (fun _ => ?_) (fun _ => ?_)
  · refine rr_iconst (v := 2) dX5_add_11 (by decide) ?_
    refine rr_aload_n dX5_add_12 rfl 0 rfl ?_
    refine rr_get (v := .int (S.1 289)) cl5 k5_15 (Nat.le_of_ble_eq_true rfl) rfl rfl dX5_add_13 ?_
    refine rr_imul dX5_add_16 ?_
    refine rr_iconst (v := 1) dX5_add_17 (by decide) ?_
    refine rr_iadd dX5_add_18 ?_
    refine rr_aload_n dX5_add_19 rfl 0 rfl ?_
    refine rr_get (v := .ref 19) cl5 k5_9 (Nat.le_of_ble_eq_true rfl) rfl rfl dX5_add_20 ?_
    refine rr_alen (by decide) rfl dX5_add_23 ?_
    refine rr_icmp_lt (tgt := 45) dX5_add_24 (by decide) (fun _ => ?_) (fun _ => ?_)
    · exact tX5_add_18_45 P x2 (S, u, v)
    · refine rr_aload_n dX5_add_27 rfl 0 rfl ?_
      refine rr_aload_n dX5_add_28 rfl 0 rfl ?_
      refine rr_get (v := .ref 19) cl5 k5_9 (Nat.le_of_ble_eq_true rfl) rfl rfl dX5_add_29 ?_
      refine rr_iconst (v := 2) dX5_add_32 (by decide) ?_
      refine rr_aload_n dX5_add_33 rfl 0 rfl ?_
      refine rr_get (v := .ref 19) cl5 k5_9 (Nat.le_of_ble_eq_true rfl) rfl rfl dX5_add_34 ?_
      refine rr_alen (by decide) rfl dX5_add_37 ?_
      refine rr_imul dX5_add_38 ?_
      refine rr_if (fun z => ?_)
      refine x_copy19 rfl z (Nat.le_of_ble_eq_true rfl) (Nat.le_of_ble_eq_true rfl) dX5_add_39 dX5_add_42 rfl rfl (Nat.le_of_ble_eq_true rfl) rfl rfl ?_
      refine rr_letS (W := xw P) (fun S7 => ?_)
      exact tX5_add_18_45 P x2 (S7, (u + 1), (v + ((2 * (nI (S.2.2.2 19)))).toNatClampNeg))
  · exact rr_vret dX5_add_10 rfl rfl rfl rfl rfl
def JX5_add_26_45 (P : rr_T) (x2 : Int32) (a1 : rr_T × Nat × Nat) : Option (rr_T × Nat × Nat) :=
  (fX5_pack_24 P a1.1 0 x2).bind (fun r2 =>
  if inb (2 * (a1.1.1 417)) (a1.1.2.2.2 27) then
  rr_l (pL a1.1 27 ((2 * (a1.1.1 417))) r2) (fun S3 =>
    (fX5_pack_24 P S3 11 x2).bind (fun r4 =>
    if inb ((2 * (S3.1 417)) + 1) (S3.2.2.2 27) then
    rr_l (pL S3 27 (((2 * (S3.1 417)) + 1)) r4) (fun S5 =>
      rr_l (pI S5 417 (((S5.1 417) + 1))) (fun S6 =>
      some (S6, a1.2.1, a1.2.2)))
  else none))
else none)
set_option maxRecDepth 20000 in
theorem tX5_add_26_45 {l : Launch} {G : rr_G} (P : rr_T) (x2 : Int32) (a1 : rr_T × Nat × Nat) : RR l G mX5_add 2 62 fxX rvSU (fun q => xw P q.1) (fun q => q.2.1) (fun q => q.2.2) a1.2.1 a1.2.2 45 [(0, .ref 26), (1, .ref 24), (2, .int x2)] [] (xw P a1.1) (JX5_add_26_45 P x2 a1) := by
  unfold JX5_add_26_45
  refine rr_aload_n dX5_add_45 rfl 0 rfl ?_
  refine rr_get (v := .ref 27) cl5 k5_9 (Nat.le_of_ble_eq_true rfl) rfl rfl dX5_add_46 ?_
  refine rr_iconst (v := 2) dX5_add_49 (by decide) ?_
  refine rr_aload_n dX5_add_50 rfl 0 rfl ?_
  refine rr_get (v := .int (a1.1.1 417)) cl5 k5_15 (Nat.le_of_ble_eq_true rfl) rfl rfl dX5_add_51 ?_
  refine rr_imul dX5_add_54 ?_
  refine rr_aload_n dX5_add_55 rfl 1 rfl ?_
  refine rr_iconst (v := 0) dX5_add_56 (by decide) ?_
  refine rr_iload_n dX5_add_57 rfl 2 rfl ?_
  refine rr_sj (As := [.ref 24, .int 0, .int x2]) (rest := [.int (2 * (a1.1.1 417)), .ref 27]) (tX5_pack_24 P a1.1 0 x2) s5_25 rfl ⟨Nat.le_of_ble_eq_true rfl, Nat.le_of_ble_eq_true rfl⟩ rfl rfl (Nat.le_of_ble_eq_true rfl) rfl dX5_add_58 (fun r2 => ?_)
  refine rr_if (fun z => ?_)
  refine rr_last (len := (a1.1.2.2.2 27)) rfl (inb_in z) dX5_add_61 (xa27 P a1.1 ((2 * (a1.1.1 417))) r2) ?_
  refine rr_letS (W := xw P) (fun S3 => ?_)
  refine rr_aload_n dX5_add_62 rfl 0 rfl ?_
  refine rr_get (v := .ref 27) cl5 k5_9 (Nat.le_of_ble_eq_true rfl) rfl rfl dX5_add_63 ?_
  refine rr_iconst (v := 2) dX5_add_66 (by decide) ?_
  refine rr_aload_n dX5_add_67 rfl 0 rfl ?_
  refine rr_get (v := .int (S3.1 417)) cl5 k5_15 (Nat.le_of_ble_eq_true rfl) rfl rfl dX5_add_68 ?_
  refine rr_imul dX5_add_71 ?_
  refine rr_iconst (v := 1) dX5_add_72 (by decide) ?_
  refine rr_iadd dX5_add_73 ?_
  refine rr_aload_n dX5_add_74 rfl 1 rfl ?_
  refine rr_bipush (v := 11) dX5_add_75 (by decide) ?_
  refine rr_iload_n dX5_add_77 rfl 2 rfl ?_
  refine rr_sj (As := [.ref 24, .int 11, .int x2]) (rest := [.int ((2 * (S3.1 417)) + 1), .ref 27]) (tX5_pack_24 P S3 11 x2) s5_25 rfl ⟨Nat.le_of_ble_eq_true rfl, Nat.le_of_ble_eq_true rfl⟩ rfl rfl (Nat.le_of_ble_eq_true rfl) rfl dX5_add_78 (fun r4 => ?_)
  refine rr_if (fun z => ?_)
  refine rr_last (len := (S3.2.2.2 27)) rfl (inb_in z) dX5_add_81 (xa27 P S3 (((2 * (S3.1 417)) + 1)) r4) ?_
  refine rr_letS (W := xw P) (fun S5 => ?_)
  refine rr_aload_n dX5_add_82 rfl 0 rfl ?_
  refine rr_dup dX5_add_83 rfl ?_
  refine rr_get (v := .int (S5.1 417)) cl5 k5_15 (Nat.le_of_ble_eq_true rfl) rfl rfl dX5_add_84 ?_
  refine rr_iconst (v := 1) dX5_add_87 (by decide) ?_
  refine rr_iadd dX5_add_88 ?_
  refine rr_put cl5 k5_15 (Nat.le_of_ble_eq_true rfl) rfl rfl rfl rfl (Nat.le_of_ble_eq_true rfl) dX5_add_89 (xp26_1 P S5 (((S5.1 417) + 1))) ?_
  refine rr_letS (W := xw P) (fun S6 => ?_)
  exact rr_vret dX5_add_92 rfl rfl rfl rfl rfl
def fX5_add_26 (P : rr_T) (S : rr_T) (x2 : Int32) (u : Nat) (v : Nat) : Option (rr_T × Nat × Nat) :=
  if (S.1 417) ≤ 4000 then
  if ((2 * (S.1 417)) + 1) < (nI (S.2.2.2 27)) then
    JX5_add_26_45 P x2 (S, u, v)
  else
    if gC S 27 ((2 * (nI (S.2.2.2 27)))) then
      rr_l (xCp S 27 ((2 * (nI (S.2.2.2 27))))) (fun S7 =>
        JX5_add_26_45 P x2 (S7, (u + 1), (v + ((2 * (nI (S.2.2.2 27)))).toNatClampNeg)))
    else none
else
  some (S, u, v)
set_option maxRecDepth 20000 in
theorem tX5_add_26 {l : Launch} {G : rr_G} (P : rr_T) (S : rr_T) (x2 : Int32) (u : Nat) (v : Nat) : TT l G mX5_add 2 62 fxX rvSU (fun q => xw P q.1) (fun q => q.2.1) (fun q => q.2.2) u v [.ref 26, .ref 24, .int x2] (xw P S) (fX5_add_26 P S x2 u v) := by
  refine TT.by (by decide) (Nat.le_of_ble_eq_true rfl) (lv := [(0, .ref 26), (1, .ref 24), (2, .int x2)]) rfl ?_
  show RR l G mX5_add 2 62 fxX rvSU (fun q => xw P q.1) (fun q => q.2.1) (fun q => q.2.2) u v 0 [(0, .ref 26), (1, .ref 24), (2, .int x2)] [] (xw P S) (fX5_add_26 P S x2 u v)
  unfold fX5_add_26
  refine rr_aload_n dX5_add_0 rfl 0 rfl ?_
  refine rr_get (v := .int (S.1 417)) cl5 k5_15 (Nat.le_of_ble_eq_true rfl) rfl rfl dX5_add_1 ?_
  refine rr_sipush (v := 4000) dX5_add_4 (by decide) ?_
  refine rr_icmp_le (tgt := 11) dX5_add_7 (by decide) (fun _ => ?_) (fun _ => ?_)
  · refine rr_iconst (v := 2) dX5_add_11 (by decide) ?_
    refine rr_aload_n dX5_add_12 rfl 0 rfl ?_
    refine rr_get (v := .int (S.1 417)) cl5 k5_15 (Nat.le_of_ble_eq_true rfl) rfl rfl dX5_add_13 ?_
    refine rr_imul dX5_add_16 ?_
    refine rr_iconst (v := 1) dX5_add_17 (by decide) ?_
    refine rr_iadd dX5_add_18 ?_
    refine rr_aload_n dX5_add_19 rfl 0 rfl ?_
    refine rr_get (v := .ref 27) cl5 k5_9 (Nat.le_of_ble_eq_true rfl) rfl rfl dX5_add_20 ?_
    refine rr_alen (by decide) rfl dX5_add_23 ?_
    refine rr_icmp_lt (tgt := 45) dX5_add_24 (by decide) (fun _ => ?_) (fun _ => ?_)
    · exact tX5_add_26_45 P x2 (S, u, v)
    · refine rr_aload_n dX5_add_27 rfl 0 rfl ?_
      refine rr_aload_n dX5_add_28 rfl 0 rfl ?_
      refine rr_get (v := .ref 27) cl5 k5_9 (Nat.le_of_ble_eq_true rfl) rfl rfl dX5_add_29 ?_
      refine rr_iconst (v := 2) dX5_add_32 (by decide) ?_
      refine rr_aload_n dX5_add_33 rfl 0 rfl ?_
      refine rr_get (v := .ref 27) cl5 k5_9 (Nat.le_of_ble_eq_true rfl) rfl rfl dX5_add_34 ?_
      refine rr_alen (by decide) rfl dX5_add_37 ?_
      refine rr_imul dX5_add_38 ?_
      refine rr_if (fun z => ?_)
      refine x_copy27 rfl z (Nat.le_of_ble_eq_true rfl) (Nat.le_of_ble_eq_true rfl) dX5_add_39 dX5_add_42 rfl rfl (Nat.le_of_ble_eq_true rfl) rfl rfl ?_
      refine rr_letS (W := xw P) (fun S7 => ?_)
      exact tX5_add_26_45 P x2 (S7, (u + 1), (v + ((2 * (nI (S.2.2.2 27)))).toNatClampNeg))
  · exact rr_vret dX5_add_10 rfl rfl rfl rfl rfl
def JX0_list_87 (a1 : rr_T × Nat × Nat) : Option (Int32 × rr_T × Nat × Nat) :=
  if 4000 < (a1.1.1 289) then
  some (0, a1.1, a1.2.1, a1.2.2)
else
  some (1, a1.1, a1.2.1, a1.2.2)
set_option maxRecDepth 20000 in
theorem tX0_list_87 {l : Launch} {G : rr_G} (P : rr_T) (a1 : rr_T × Nat × Nat) : RR l G mX0_list 4 89 fxX rvIU (fun q => xw P q.2.1) (fun q => q.2.2.1) (fun q => q.2.2.2) a1.2.1 a1.2.2 87 [(0, .ref 17)] [] (xw P a1.1) (JX0_list_87 a1) := by
  unfold JX0_list_87
  refine rr_aload_n dX0_list_87 rfl 0 rfl ?_
  refine rr_get (v := .ref 18) cl0 k0_12 (Nat.le_of_ble_eq_true rfl) rfl rfl dX0_list_88 ?_
  refine rr_get (v := .int (a1.1.1 289)) cl5 k0_69 (Nat.le_of_ble_eq_true rfl) rfl rfl dX0_list_91 ?_
  refine rr_sipush (v := 4000) dX0_list_94 (by decide) ?_
  refine rr_icmp_gt (tgt := 104) dX0_list_97 (by decide) (fun _ => ?_) (fun _ => ?_)
  · refine rr_iconst (v := 0) dX0_list_104 (by decide) ?_
    exact rr_zret dX0_list_105 rfl (by decide) rfl rfl rfl rfl
  · refine rr_iconst (v := 1) dX0_list_100 (by decide) ?_
    refine rr_goto (tgt := 105) dX0_list_101 (by decide) ?_
    exact rr_zret dX0_list_105 rfl (by decide) rfl rfl rfl rfl
def JX0_list_78 (P : rr_T) (a4 : rr_T × Nat × Nat) : Option (Int32 × rr_T × Nat × Nat) :=
  rr_l (pI a4.1 275 1) (fun S5 =>
  (fX0_keepAll P S5 a4.2.1 a4.2.2).bind (fun q6 =>
  JX0_list_87 (q6.1, q6.2.1, q6.2.2)))
set_option maxRecDepth 20000 in
theorem tX0_list_78 {l : Launch} {G : rr_G} (P : rr_T) (a4 : rr_T × Nat × Nat) : RR l G mX0_list 4 89 fxX rvIU (fun q => xw P q.2.1) (fun q => q.2.2.1) (fun q => q.2.2.2) a4.2.1 a4.2.2 78 [(0, .ref 17)] [] (xw P a4.1) (JX0_list_78 P a4) := by
  unfold JX0_list_78
  refine rr_aload_n dX0_list_78 rfl 0 rfl ?_
  refine rr_iconst (v := 1) dX0_list_79 (by decide) ?_
  refine rr_put cl0 k0_18 (Nat.le_of_ble_eq_true rfl) rfl rfl (by decide) rfl (Nat.le_of_ble_eq_true rfl) dX0_list_80 (xp17_3 P a4.1 1) ?_
  refine rr_letS (W := xw P) (fun S5 => ?_)
  refine rr_aload_n dX0_list_83 rfl 0 rfl ?_
  refine rr_vsu (W := xw P) (As := []) (rest := []) (tX0_keepAll P S5 a4.2.1 a4.2.2) v0_66 rfl rfl ⟨Nat.le_of_ble_eq_true rfl, Nat.le_of_ble_eq_true rfl⟩ (fun _ z => z) rfl rfl (Nat.le_of_ble_eq_true rfl) rfl dX0_list_84 (fun q6 => ?_)
  exact tX0_list_87 P (q6.1, q6.2.1, q6.2.2)
def LX0_list_25 (P : rr_T) (rec25 : (Int32 × Int32 × rr_T × Nat × Nat) → Option (Int32 × rr_T × Nat × Nat)) (a7 : Int32 × Int32 × rr_T × Nat × Nat) : Option (Int32 × rr_T × Nat × Nat) :=
  if 4000 < a7.2.1 then
  JX0_list_78 P (a7.2.2.1, a7.2.2.2.1, a7.2.2.2.2)
else
  if a7.1 = 0 then
    JX0_list_78 P (a7.2.2.1, a7.2.2.2.1, a7.2.2.2.2)
  else
    (fX2_fill P a7.2.2.1).bind (fun S8 =>
      (fX5_add_18 P S8 ((S8.1 167)) a7.2.2.2.1 a7.2.2.2.2).bind (fun q9 =>
      (fX2_raise P q9.1).bind (fun q10 =>
      rec25 (q10.1, (a7.2.1 + 1), q10.2, q9.2.1, q9.2.2))))
set_option maxRecDepth 20000 in
theorem tX0_list_25 {l : Launch} {G : rr_G} (P : rr_T) : ∀ (n : Nat) (a : Int32 × Int32 × rr_T × Nat × Nat), RR l G mX0_list 4 89 fxX rvIU (fun q => xw P q.2.1) (fun q => q.2.2.1) (fun q => q.2.2.2) a.2.2.2.1 a.2.2.2.2 25 [(0, .ref 17), (1, .int a.1), (2, .int a.2.1)] [] (xw P a.2.2.1) (rr_loop n (LX0_list_25 P) a) := by
  refine rr_lpU (α := Int32 × Int32 × rr_T × Nat × Nat) 25 (fun a => [(0, .ref 17), (1, .int a.1), (2, .int a.2.1)]) (fun a => (xw P a.2.2.1)) (fun a => a.2.2.2.1) (fun a => a.2.2.2.2) (fun rec25 hrec25 a7 => ?_)
  show RR l G mX0_list 4 89 fxX rvIU (fun q => xw P q.2.1) (fun q => q.2.2.1) (fun q => q.2.2.2) a7.2.2.2.1 a7.2.2.2.2 25 [(0, .ref 17), (1, .int a7.1), (2, .int a7.2.1)] [] (xw P a7.2.2.1) (LX0_list_25 P rec25 a7)
  unfold LX0_list_25
  refine rr_iload_n dX0_list_25 rfl 2 rfl ?_
  refine rr_sipush (v := 4000) dX0_list_26 (by decide) ?_
  refine rr_icmp_gt (tgt := 78) dX0_list_29 (by decide) (fun _ => ?_) (fun _ => ?_)
  · refine rr_sub [0] rfl ?_
    exact tX0_list_78 P (a7.2.2.1, a7.2.2.2.1, a7.2.2.2.2)
  · refine rr_iload_n dX0_list_32 rfl 1 rfl ?_
    refine rr_if_eq (tgt := 78) dX0_list_33 (by decide) (fun _ => ?_) (fun _ => ?_)
    · refine rr_sub [0] rfl ?_
      exact tX0_list_78 P (a7.2.2.1, a7.2.2.2.1, a7.2.2.2.2)
    · refine rr_aload_n dX0_list_36 rfl 0 rfl ?_
      refine rr_get (v := .ref 10) cl0 k0_33 (Nat.le_of_ble_eq_true rfl) rfl rfl dX0_list_37 ?_
      refine rr_vs (W := xw P) (As := []) (rest := []) (tX2_fill P a7.2.2.1) v0_49 rfl rfl ⟨Nat.le_of_ble_eq_true rfl, Nat.le_of_ble_eq_true rfl⟩ (fun _ _ => rfl) rfl rfl (Nat.le_of_ble_eq_true rfl) rfl dX0_list_40 (fun S8 => ?_)
      refine rr_aload_n dX0_list_43 rfl 0 rfl ?_
      refine rr_get (v := .ref 18) cl0 k0_12 (Nat.le_of_ble_eq_true rfl) rfl rfl dX0_list_44 ?_
      refine rr_aload_n dX0_list_47 rfl 0 rfl ?_
      refine rr_get (v := .ref 10) cl0 k0_33 (Nat.le_of_ble_eq_true rfl) rfl rfl dX0_list_48 ?_
      refine rr_get (v := .ref 13) cl2 k0_52 (Nat.le_of_ble_eq_true rfl) rfl rfl dX0_list_51 ?_
      refine rr_aload_n dX0_list_54 rfl 0 rfl ?_
      refine rr_get (v := .ref 10) cl0 k0_33 (Nat.le_of_ble_eq_true rfl) rfl rfl dX0_list_55 ?_
      refine rr_get (v := .int (S8.1 167)) cl2 k0_55 (Nat.le_of_ble_eq_true rfl) rfl rfl dX0_list_58 ?_
      refine rr_vsu (W := xw P) (As := [.ref 13, .int (S8.1 167)]) (rest := []) (tX5_add_18 P S8 ((S8.1 167)) a7.2.2.2.1 a7.2.2.2.2) v0_58 rfl rfl ⟨Nat.le_of_ble_eq_true rfl, Nat.le_of_ble_eq_true rfl⟩ (fun _ z => z) rfl rfl (Nat.le_of_ble_eq_true rfl) rfl dX0_list_61 (fun q9 => ?_)
      refine rr_aload_n dX0_list_64 rfl 0 rfl ?_
      refine rr_get (v := .ref 10) cl0 k0_33 (Nat.le_of_ble_eq_true rfl) rfl rfl dX0_list_65 ?_
      refine rr_vis (W := xw P) (As := []) (rest := []) (tX2_raise P q9.1) v0_62 rfl rfl ⟨Nat.le_of_ble_eq_true rfl, Nat.le_of_ble_eq_true rfl⟩ (fun _ _ => rfl) rfl rfl (Nat.le_of_ble_eq_true rfl) rfl dX0_list_68 (fun q10 => ?_)
      refine rr_istore_n (lv' := [(1, .int q10.1), (0, .ref 17), (2, .int a7.2.1)]) dX0_list_71 rfl (by decide) rfl ?_
      refine rr_iinc (lv' := [(2, .int (a7.2.1 + 1)), (1, .int q10.1), (0, .ref 17)]) dX0_list_72 2 rfl (by decide) rfl ?_
      refine rr_goto (tgt := 25) dX0_list_75 (by decide) ?_
      refine rr_sub [2, 1, 0] rfl ?_
      exact hrec25 (q10.1, (a7.2.1 + 1), q10.2, q9.2.1, q9.2.2)
def fX0_list (P : rr_T) (S : rr_T) (u : Nat) (v : Nat) : Option (Int32 × rr_T × Nat × Nat) :=
  if (S.1 275) = 0 then
  (fX5_drop_18 P S).bind (fun S2 =>
    (fX2_begin P S2).bind (fun S3 =>
    rr_loop FU (LX0_list_25 P) (1, 0, S3, u, v)))
else
  JX0_list_87 (S, u, v)
set_option maxRecDepth 20000 in
theorem tX0_list {l : Launch} {G : rr_G} (P : rr_T) (S : rr_T) (u : Nat) (v : Nat) : TT l G mX0_list 4 89 fxX rvIU (fun q => xw P q.2.1) (fun q => q.2.2.1) (fun q => q.2.2.2) u v [.ref 17] (xw P S) (fX0_list P S u v) := by
  refine TT.by (by decide) (Nat.le_of_ble_eq_true rfl) (lv := [(0, .ref 17)]) rfl ?_
  show RR l G mX0_list 4 89 fxX rvIU (fun q => xw P q.2.1) (fun q => q.2.2.1) (fun q => q.2.2.2) u v 0 [(0, .ref 17)] [] (xw P S) (fX0_list P S u v)
  unfold fX0_list
  refine rr_aload_n dX0_list_0 rfl 0 rfl ?_
  refine rr_get (v := .int (S.1 275)) cl0 k0_18 (Nat.le_of_ble_eq_true rfl) rfl rfl dX0_list_1 ?_
  refine rr_if_ne (tgt := 87) dX0_list_4 (by decide) (fun _ => ?_) (fun _ => ?_)
  · exact tX0_list_87 P (S, u, v)
  · refine rr_aload_n dX0_list_7 rfl 0 rfl ?_
    refine rr_get (v := .ref 18) cl0 k0_12 (Nat.le_of_ble_eq_true rfl) rfl rfl dX0_list_8 ?_
    refine rr_vs (W := xw P) (As := []) (rest := []) (tX5_drop_18 P S) v0_41 rfl rfl ⟨Nat.le_of_ble_eq_true rfl, Nat.le_of_ble_eq_true rfl⟩ (fun _ _ => rfl) rfl rfl (Nat.le_of_ble_eq_true rfl) rfl dX0_list_11 (fun S2 => ?_)
    refine rr_aload_n dX0_list_14 rfl 0 rfl ?_
    refine rr_get (v := .ref 10) cl0 k0_33 (Nat.le_of_ble_eq_true rfl) rfl rfl dX0_list_15 ?_
    refine rr_vs (W := xw P) (As := []) (rest := []) (tX2_begin P S2) v0_44 rfl rfl ⟨Nat.le_of_ble_eq_true rfl, Nat.le_of_ble_eq_true rfl⟩ (fun _ _ => rfl) rfl rfl (Nat.le_of_ble_eq_true rfl) rfl dX0_list_18 (fun S3 => ?_)
    refine rr_iconst (v := 1) dX0_list_21 (by decide) ?_
    refine rr_istore_n (lv' := [(1, .int 1), (0, .ref 17)]) dX0_list_22 rfl (by decide) rfl ?_
    refine rr_iconst (v := 0) dX0_list_23 (by decide) ?_
    refine rr_istore_n (lv' := [(2, .int 0), (1, .int 1), (0, .ref 17)]) dX0_list_24 rfl (by decide) rfl ?_
    refine rr_sub [2, 1, 0] rfl ?_
    exact tX0_list_25 P FU (1, 0, S3, u, v)
def fX10_many (P : rr_T) (S : rr_T) (u : Nat) (v : Nat) : Option (Int32 × rr_T × Nat × Nat) :=
  (fX0_list P S u v).bind (fun q1 =>
  if q1.1 = 0 then
  some ((-104), q1.2.1, q1.2.2.1, q1.2.2.2)
else
  some ((q1.2.1.1 289), q1.2.1, q1.2.2.1, q1.2.2.2))
set_option maxRecDepth 20000 in
theorem tX10_many {l : Launch} {G : rr_G} (P : rr_T) (S : rr_T) (u : Nat) (v : Nat) : TT l G mX10_many 5 111 fxX rvIU (fun q => xw P q.2.1) (fun q => q.2.2.1) (fun q => q.2.2.2) u v [.ref 0] (xw P S) (fX10_many P S u v) := by
  refine TT.by (by decide) (Nat.le_of_ble_eq_true rfl) (lv := [(0, .ref 0)]) rfl ?_
  show RR l G mX10_many 5 111 fxX rvIU (fun q => xw P q.2.1) (fun q => q.2.2.1) (fun q => q.2.2.2) u v 0 [(0, .ref 0)] [] (xw P S) (fX10_many P S u v)
  unfold fX10_many
  refine rr_aload_n dX10_many_0 rfl 0 rfl ?_
  refine rr_get (v := .ref 17) cl10 k10_44 (Nat.le_of_ble_eq_true rfl) rfl rfl dX10_many_1 ?_
  refine rr_viu (W := xw P) (As := []) (rest := []) (tX0_list P S u v) v10_137 rfl rfl ⟨Nat.le_of_ble_eq_true rfl, Nat.le_of_ble_eq_true rfl⟩ (fun _ z => z) rfl rfl (Nat.le_of_ble_eq_true rfl) rfl dX10_many_4 (fun q1 => ?_)
  refine rr_if_eq (tgt := 23) dX10_many_7 (by decide) (fun _ => ?_) (fun _ => ?_)
  · refine rr_bipush (v := (-104)) dX10_many_23 (by decide) ?_
    exact rr_iret dX10_many_25 rfl rfl rfl rfl rfl
  · refine rr_aload_n dX10_many_10 rfl 0 rfl ?_
    refine rr_get (v := .ref 17) cl10 k10_44 (Nat.le_of_ble_eq_true rfl) rfl rfl dX10_many_11 ?_
    refine rr_get (v := .ref 18) cl0 k10_141 (Nat.le_of_ble_eq_true rfl) rfl rfl dX10_many_14 ?_
    refine rr_get (v := .int (q1.2.1.1 289)) cl5 k10_145 (Nat.le_of_ble_eq_true rfl) rfl rfl dX10_many_17 ?_
    refine rr_goto (tgt := 25) dX10_many_20 (by decide) ?_
    exact rr_iret dX10_many_25 rfl rfl rfl rfl rfl
def JX0_sift_88 (a2 : Int32 × rr_T × Nat × Nat) : Option (Int32 × rr_T × Nat × Nat) :=
  rr_l (pI a2.2.1 277 a2.1) (fun S3 =>
  rr_l (pI S3 278 ((S3.1 97))) (fun S4 =>
  some (1, S4, a2.2.2.1, a2.2.2.2)))
set_option maxRecDepth 20000 in
theorem tX0_sift_88 {l : Launch} {G : rr_G} (P : rr_T) (a2 : Int32 × rr_T × Nat × Nat) : RR l G mX0_sift 5 117 fxX rvIU (fun q => xw P q.2.1) (fun q => q.2.2.1) (fun q => q.2.2.2) a2.2.2.1 a2.2.2.2 88 [(0, .ref 17), (1, .int a2.1)] [] (xw P a2.2.1) (JX0_sift_88 a2) := by
  unfold JX0_sift_88
  refine rr_aload_n dX0_sift_88 rfl 0 rfl ?_
  refine rr_iload_n dX0_sift_89 rfl 1 rfl ?_
  refine rr_put cl0 k0_26 (Nat.le_of_ble_eq_true rfl) rfl rfl rfl rfl (Nat.le_of_ble_eq_true rfl) dX0_sift_90 (xp17_5 P a2.2.1 a2.1) ?_
  refine rr_letS (W := xw P) (fun S3 => ?_)
  refine rr_aload_n dX0_sift_93 rfl 0 rfl ?_
  refine rr_aload_n dX0_sift_94 rfl 0 rfl ?_
  refine rr_get (v := .ref 6) cl0 k0_37 (Nat.le_of_ble_eq_true rfl) rfl rfl dX0_sift_95 ?_
  refine rr_get (v := .int (S3.1 97)) cl7 k0_79 (Nat.le_of_ble_eq_true rfl) rfl rfl dX0_sift_98 ?_
  refine rr_put cl0 k0_30 (Nat.le_of_ble_eq_true rfl) rfl rfl rfl rfl (Nat.le_of_ble_eq_true rfl) dX0_sift_101 (xp17_6 P S3 ((S3.1 97))) ?_
  refine rr_letS (W := xw P) (fun S4 => ?_)
  refine rr_iconst (v := 1) dX0_sift_104 (by decide) ?_
  exact rr_zret dX0_sift_105 rfl (by decide) rfl rfl rfl rfl
def LX0_sift_27 (P : rr_T) (rec27 : (Int32 × Int32 × rr_T × Nat × Nat) → Option (Int32 × rr_T × Nat × Nat)) (a5 : Int32 × Int32 × rr_T × Nat × Nat) : Option (Int32 × rr_T × Nat × Nat) :=
  if (a5.2.2.1.1 277) ≤ a5.2.1 then
  JX0_sift_88 (a5.1, a5.2.2.1, a5.2.2.2.1, a5.2.2.2.2)
else
  if inb a5.2.1 (a5.2.2.1.2.2.2 20) then
    rr_l ((a5.2.2.1.2.1 20 a5.2.1.toNatClampNeg)) (fun v6 =>
      (fX2_load P a5.2.2.1 v6).bind (fun S7 =>
      (fX7_holdFrom P S7 ((S7.1 278))).bind (fun r8 =>
      if r8 = 0 then
      rec27 (a5.1, (a5.2.1 + 1), S7, a5.2.2.2.1, a5.2.2.2.2)
    else
      if inb a5.1 (S7.2.2.2 20) then
        rr_l (pA S7 20 a5.1 v6) (fun S9 =>
          rec27 ((a5.1 + 1), (a5.2.1 + 1), S9, a5.2.2.2.1, a5.2.2.2.2))
      else none)))
  else none
set_option maxRecDepth 20000 in
theorem tX0_sift_27 {l : Launch} {G : rr_G} (P : rr_T) : ∀ (n : Nat) (a : Int32 × Int32 × rr_T × Nat × Nat), RR l G mX0_sift 5 117 fxX rvIU (fun q => xw P q.2.1) (fun q => q.2.2.1) (fun q => q.2.2.2) a.2.2.2.1 a.2.2.2.2 27 [(0, .ref 17), (1, .int a.1), (2, .int a.2.1)] [] (xw P a.2.2.1) (rr_loop n (LX0_sift_27 P) a) := by
  refine rr_lpU (α := Int32 × Int32 × rr_T × Nat × Nat) 27 (fun a => [(0, .ref 17), (1, .int a.1), (2, .int a.2.1)]) (fun a => (xw P a.2.2.1)) (fun a => a.2.2.2.1) (fun a => a.2.2.2.2) (fun rec27 hrec27 a5 => ?_)
  show RR l G mX0_sift 5 117 fxX rvIU (fun q => xw P q.2.1) (fun q => q.2.2.1) (fun q => q.2.2.2) a5.2.2.2.1 a5.2.2.2.2 27 [(0, .ref 17), (1, .int a5.1), (2, .int a5.2.1)] [] (xw P a5.2.2.1) (LX0_sift_27 P rec27 a5)
  unfold LX0_sift_27
  refine rr_iload_n dX0_sift_27 rfl 2 rfl ?_
  refine rr_aload_n dX0_sift_28 rfl 0 rfl ?_
  refine rr_get (v := .int (a5.2.2.1.1 277)) cl0 k0_26 (Nat.le_of_ble_eq_true rfl) rfl rfl dX0_sift_29 ?_
  refine rr_icmp_ge (tgt := 88) dX0_sift_32 (by decide) (fun _ => ?_) (fun _ => ?_)
  · refine rr_sub [0, 1] rfl ?_
    exact tX0_sift_88 P (a5.1, a5.2.2.1, a5.2.2.2.1, a5.2.2.2.2)
  · refine rr_aload_n dX0_sift_35 rfl 0 rfl ?_
    refine rr_get (v := .ref 20) cl0 k0_22 (Nat.le_of_ble_eq_true rfl) rfl rfl dX0_sift_36 ?_
    refine rr_iload_n dX0_sift_39 rfl 2 rfl ?_
    refine rr_if (fun z => ?_)
    refine rr_iald (len := (a5.2.2.1.2.2.2 20)) rfl (inb_in z) dX0_sift_40 ?_
    refine rr_letI (fun v6 => ?_)
    refine rr_istore_n (lv' := [(3, .int v6), (0, .ref 17), (1, .int a5.1), (2, .int a5.2.1)]) dX0_sift_41 rfl (by decide) rfl ?_
    refine rr_aload_n dX0_sift_42 rfl 1 rfl ?_
    refine rr_get (v := .ref 10) cl0 k0_33 (Nat.le_of_ble_eq_true rfl) rfl rfl dX0_sift_43 ?_
    refine rr_aload_n dX0_sift_46 rfl 1 rfl ?_
    refine rr_get (v := .ref 18) cl0 k0_12 (Nat.le_of_ble_eq_true rfl) rfl rfl dX0_sift_47 ?_
    refine rr_iload_n dX0_sift_50 rfl 0 rfl ?_
    refine rr_vs (W := xw P) (As := [.ref 18, .int v6]) (rest := []) (tX2_load P a5.2.2.1 v6) v0_82 rfl rfl ⟨Nat.le_of_ble_eq_true rfl, Nat.le_of_ble_eq_true rfl⟩ (fun _ _ => rfl) rfl rfl (Nat.le_of_ble_eq_true rfl) rfl dX0_sift_51 (fun S7 => ?_)
    refine rr_aload_n dX0_sift_54 rfl 1 rfl ?_
    refine rr_get (v := .ref 6) cl0 k0_37 (Nat.le_of_ble_eq_true rfl) rfl rfl dX0_sift_55 ?_
    refine rr_aload_n dX0_sift_58 rfl 1 rfl ?_
    refine rr_get (v := .int (S7.1 278)) cl0 k0_30 (Nat.le_of_ble_eq_true rfl) rfl rfl dX0_sift_59 ?_
    refine rr_aload_n dX0_sift_62 rfl 1 rfl ?_
    refine rr_get (v := .ref 10) cl0 k0_33 (Nat.le_of_ble_eq_true rfl) rfl rfl dX0_sift_63 ?_
    refine rr_vi (As := [.int (S7.1 278), .ref 10]) (rest := []) (tX7_holdFrom P S7 ((S7.1 278))) v0_86 rfl rfl ⟨Nat.le_of_ble_eq_true rfl, Nat.le_of_ble_eq_true rfl⟩ rfl rfl (Nat.le_of_ble_eq_true rfl) rfl dX0_sift_66 (fun r8 => ?_)
    refine rr_if_eq (tgt := 82) dX0_sift_69 (by decide) (fun _ => ?_) (fun _ => ?_)
    · refine rr_iinc (lv' := [(2, .int (a5.2.1 + 1)), (3, .int v6), (0, .ref 17), (1, .int a5.1)]) dX0_sift_82 3 rfl (by decide) rfl ?_
      refine rr_goto (tgt := 27) dX0_sift_85 (by decide) ?_
      refine rr_sub [2, 3, 0] rfl ?_
      exact hrec27 (a5.1, (a5.2.1 + 1), S7, a5.2.2.2.1, a5.2.2.2.2)
    · refine rr_aload_n dX0_sift_72 rfl 1 rfl ?_
      refine rr_get (v := .ref 20) cl0 k0_22 (Nat.le_of_ble_eq_true rfl) rfl rfl dX0_sift_73 ?_
      refine rr_iload_n dX0_sift_76 rfl 2 rfl ?_
      refine rr_iload_n dX0_sift_77 rfl 0 rfl ?_
      refine rr_if (fun z => ?_)
      refine rr_iast (len := (S7.2.2.2 20)) rfl (inb_in z) dX0_sift_78 (xa20 P S7 a5.1 v6) ?_
      refine rr_letS (W := xw P) (fun S9 => ?_)
      refine rr_iinc (lv' := [(1, .int (a5.1 + 1)), (3, .int v6), (0, .ref 17), (2, .int a5.2.1)]) dX0_sift_79 2 rfl (by decide) rfl ?_
      refine rr_iinc (lv' := [(2, .int (a5.2.1 + 1)), (1, .int (a5.1 + 1)), (3, .int v6), (0, .ref 17)]) dX0_sift_82 3 rfl (by decide) rfl ?_
      refine rr_goto (tgt := 27) dX0_sift_85 (by decide) ?_
      refine rr_sub [3, 1, 0] rfl ?_
      exact hrec27 ((a5.1 + 1), (a5.2.1 + 1), S9, a5.2.2.2.1, a5.2.2.2.2)
def fX0_sift (P : rr_T) (S : rr_T) (u : Nat) (v : Nat) : Option (Int32 × rr_T × Nat × Nat) :=
  (fX0_list P S u v).bind (fun q1 =>
  if q1.1 = 0 then
  some (0, q1.2.1, q1.2.2.1, q1.2.2.2)
else
  if (q1.2.1.1 97) ≤ (q1.2.1.1 278) then
    some (1, q1.2.1, q1.2.2.1, q1.2.2.2)
  else
    rr_loop FU (LX0_sift_27 P) (0, 0, q1.2.1, q1.2.2.1, q1.2.2.2))
set_option maxRecDepth 20000 in
theorem tX0_sift {l : Launch} {G : rr_G} (P : rr_T) (S : rr_T) (u : Nat) (v : Nat) : TT l G mX0_sift 5 117 fxX rvIU (fun q => xw P q.2.1) (fun q => q.2.2.1) (fun q => q.2.2.2) u v [.ref 17] (xw P S) (fX0_sift P S u v) := by
  refine TT.by (by decide) (Nat.le_of_ble_eq_true rfl) (lv := [(0, .ref 17)]) rfl ?_
  show RR l G mX0_sift 5 117 fxX rvIU (fun q => xw P q.2.1) (fun q => q.2.2.1) (fun q => q.2.2.2) u v 0 [(0, .ref 17)] [] (xw P S) (fX0_sift P S u v)
  unfold fX0_sift
  refine rr_aload_n dX0_sift_0 rfl 0 rfl ?_
  refine rr_viu (W := xw P) (As := []) (rest := []) (tX0_list P S u v) v0_76 rfl rfl ⟨Nat.le_of_ble_eq_true rfl, Nat.le_of_ble_eq_true rfl⟩ (fun _ z => z) rfl rfl (Nat.le_of_ble_eq_true rfl) rfl dX0_sift_1 (fun q1 => ?_)
  refine rr_if_ne (tgt := 9) dX0_sift_4 (by decide) (fun _ => ?_) (fun _ => ?_)
  · refine rr_aload_n dX0_sift_9 rfl 0 rfl ?_
    refine rr_get (v := .int (q1.2.1.1 278)) cl0 k0_30 (Nat.le_of_ble_eq_true rfl) rfl rfl dX0_sift_10 ?_
    refine rr_aload_n dX0_sift_13 rfl 0 rfl ?_
    refine rr_get (v := .ref 6) cl0 k0_37 (Nat.le_of_ble_eq_true rfl) rfl rfl dX0_sift_14 ?_
    refine rr_get (v := .int (q1.2.1.1 97)) cl7 k0_79 (Nat.le_of_ble_eq_true rfl) rfl rfl dX0_sift_17 ?_
    refine rr_icmp_ge (tgt := 104) dX0_sift_20 (by decide) (fun _ => ?_) (fun _ => ?_)
    · refine rr_iconst (v := 1) dX0_sift_104 (by decide) ?_
      exact rr_zret dX0_sift_105 rfl (by decide) rfl rfl rfl rfl
    · refine rr_iconst (v := 0) dX0_sift_23 (by decide) ?_
      refine rr_istore_n (lv' := [(1, .int 0), (0, .ref 17)]) dX0_sift_24 rfl (by decide) rfl ?_
      refine rr_iconst (v := 0) dX0_sift_25 (by decide) ?_
      refine rr_istore_n (lv' := [(2, .int 0), (1, .int 0), (0, .ref 17)]) dX0_sift_26 rfl (by decide) rfl ?_
      refine rr_sub [2, 1, 0] rfl ?_
      exact tX0_sift_27 P FU (0, 0, q1.2.1, q1.2.2.1, q1.2.2.2)
  · refine rr_iconst (v := 0) dX0_sift_7 (by decide) ?_
    exact rr_zret dX0_sift_8 rfl (by decide) rfl rfl rfl rfl
