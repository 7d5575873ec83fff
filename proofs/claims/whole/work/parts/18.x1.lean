/-! ===== the class's methods that make rows: kept, choice, object, rank, makeRoom, sort ===== -/
def fX10_kept (P : rr_T) (S : rr_T) (u : Nat) (v : Nat) : Option (Int32 × rr_T × Nat × Nat) :=
  (fX0_sift P S u v).bind (fun q1 =>
  if q1.1 = 0 then
  some ((-104), q1.2.1, q1.2.2.1, q1.2.2.2)
else
  some ((q1.2.1.1 277), q1.2.1, q1.2.2.1, q1.2.2.2))
set_option maxRecDepth 20000 in
theorem tX10_kept {l : Launch} {G : rr_G} (P : rr_T) (S : rr_T) (u : Nat) (v : Nat) : TT l G mX10_kept 6 140 fxX rvIU (fun q => xw P q.2.1) (fun q => q.2.2.1) (fun q => q.2.2.2) u v [.ref 0] (xw P S) (fX10_kept P S u v) := by
  refine TT.by (by decide) (Nat.le_of_ble_eq_true rfl) (lv := [(0, .ref 0)]) rfl ?_
  show RR l G mX10_kept 6 140 fxX rvIU (fun q => xw P q.2.1) (fun q => q.2.2.1) (fun q => q.2.2.2) u v 0 [(0, .ref 0)] [] (xw P S) (fX10_kept P S u v)
  unfold fX10_kept
  refine rr_aload_n dX10_kept_0 rfl 0 rfl ?_
  refine rr_get (v := .ref 17) cl10 k10_44 (Nat.le_of_ble_eq_true rfl) rfl rfl dX10_kept_1 ?_
  refine rr_viu (W := xw P) (As := []) (rest := []) (tX0_sift P S u v) v10_148 rfl rfl ⟨Nat.le_of_ble_eq_true rfl, Nat.le_of_ble_eq_true rfl⟩ (fun _ z => z) rfl rfl (Nat.le_of_ble_eq_true rfl) rfl dX10_kept_4 (fun q1 => ?_)
  refine rr_if_eq (tgt := 20) dX10_kept_7 (by decide) (fun _ => ?_) (fun _ => ?_)
  · refine rr_bipush (v := (-104)) dX10_kept_20 (by decide) ?_
    exact rr_iret dX10_kept_22 rfl rfl rfl rfl rfl
  · refine rr_aload_n dX10_kept_10 rfl 0 rfl ?_
    refine rr_get (v := .ref 17) cl10 k10_44 (Nat.le_of_ble_eq_true rfl) rfl rfl dX10_kept_11 ?_
    refine rr_get (v := .int (q1.2.1.1 277)) cl0 k10_151 (Nat.le_of_ble_eq_true rfl) rfl rfl dX10_kept_14 ?_
    refine rr_goto (tgt := 22) dX10_kept_17 (by decide) ?_
    exact rr_iret dX10_kept_22 rfl rfl rfl rfl rfl
def fX10_choice (P : rr_T) (S : rr_T) (x1 : Int32) (x2 : Int32) (u : Nat) (v : Nat) : Option (Int32 × rr_T × Nat × Nat) :=
  (fX0_sift P S u v).bind (fun q1 =>
  if q1.1 = 0 then
  some ((-104), q1.2.1, q1.2.2.1, q1.2.2.2)
else
  (fX0_loadKept P q1.2.1 x1).bind (fun q2 =>
    if q2.1 = 0 then
    some ((-101), q2.2, q1.2.2.1, q1.2.2.2)
  else
    if 0 ≤ x2 then
      (fX2_choiceAt P q2.2 x2).bind (fun r3 =>
        some (r3, q2.2, q1.2.2.1, q1.2.2.2))
    else
      some ((-101), q2.2, q1.2.2.1, q1.2.2.2)))
set_option maxRecDepth 20000 in
theorem tX10_choice {l : Launch} {G : rr_G} (P : rr_T) (S : rr_T) (x1 : Int32) (x2 : Int32) (u : Nat) (v : Nat) : TT l G mX10_choice 6 140 fxX rvIU (fun q => xw P q.2.1) (fun q => q.2.2.1) (fun q => q.2.2.2) u v [.ref 0, .int x1, .int x2] (xw P S) (fX10_choice P S x1 x2 u v) := by
  refine TT.by (by decide) (Nat.le_of_ble_eq_true rfl) (lv := [(0, .ref 0), (1, .int x1), (2, .int x2)]) rfl ?_
  show RR l G mX10_choice 6 140 fxX rvIU (fun q => xw P q.2.1) (fun q => q.2.2.1) (fun q => q.2.2.2) u v 0 [(0, .ref 0), (1, .int x1), (2, .int x2)] [] (xw P S) (fX10_choice P S x1 x2 u v)
  unfold fX10_choice
  refine rr_aload_n dX10_choice_0 rfl 0 rfl ?_
  refine rr_get (v := .ref 17) cl10 k10_44 (Nat.le_of_ble_eq_true rfl) rfl rfl dX10_choice_1 ?_
  refine rr_viu (W := xw P) (As := []) (rest := []) (tX0_sift P S u v) v10_148 rfl rfl ⟨Nat.le_of_ble_eq_true rfl, Nat.le_of_ble_eq_true rfl⟩ (fun _ z => z) rfl rfl (Nat.le_of_ble_eq_true rfl) rfl dX10_choice_4 (fun q1 => ?_)
  refine rr_if_ne (tgt := 13) dX10_choice_7 (by decide) (fun _ => ?_) (fun _ => ?_)
  · refine rr_aload_n dX10_choice_13 rfl 0 rfl ?_
    refine rr_get (v := .ref 17) cl10 k10_44 (Nat.le_of_ble_eq_true rfl) rfl rfl dX10_choice_14 ?_
    refine rr_iload_n dX10_choice_17 rfl 1 rfl ?_
    refine rr_vis (W := xw P) (As := [.int x1]) (rest := []) (tX0_loadKept P q1.2.1 x1) v10_154 rfl rfl ⟨Nat.le_of_ble_eq_true rfl, Nat.le_of_ble_eq_true rfl⟩ (fun _ _ => rfl) rfl rfl (Nat.le_of_ble_eq_true rfl) rfl dX10_choice_18 (fun q2 => ?_)
    refine rr_if_eq (tgt := 28) dX10_choice_21 (by decide) (fun _ => ?_) (fun _ => ?_)
    · refine rr_bipush (v := (-101)) dX10_choice_28 (by decide) ?_
      exact rr_iret dX10_choice_30 rfl rfl rfl rfl rfl
    · refine rr_iload_n dX10_choice_24 rfl 2 rfl ?_
      refine rr_if_ge (tgt := 31) dX10_choice_25 (by decide) (fun _ => ?_) (fun _ => ?_)
      · refine rr_aload_n dX10_choice_31 rfl 0 rfl ?_
        refine rr_get (v := .ref 10) cl10 k10_35 (Nat.le_of_ble_eq_true rfl) rfl rfl dX10_choice_32 ?_
        refine rr_iload_n dX10_choice_35 rfl 2 rfl ?_
        refine rr_vi (As := [.int x2]) (rest := []) (tX2_choiceAt P q2.2 x2) v10_157 rfl rfl ⟨Nat.le_of_ble_eq_true rfl, Nat.le_of_ble_eq_true rfl⟩ rfl rfl (Nat.le_of_ble_eq_true rfl) rfl dX10_choice_36 (fun r3 => ?_)
        exact rr_iret dX10_choice_39 rfl rfl rfl rfl rfl
      · refine rr_bipush (v := (-101)) dX10_choice_28 (by decide) ?_
        exact rr_iret dX10_choice_30 rfl rfl rfl rfl rfl
  · refine rr_bipush (v := (-104)) dX10_choice_10 (by decide) ?_
    exact rr_iret dX10_choice_12 rfl rfl rfl rfl rfl
def fX10_object (P : rr_T) (S : rr_T) (x1 : Int32) (x2 : Int32) (x3 : Int32) (u : Nat) (v : Nat) : Option (Int32 × rr_T × Nat × Nat) :=
  (fX0_sift P S u v).bind (fun q1 =>
  if q1.1 = 0 then
  some ((-104), q1.2.1, q1.2.2.1, q1.2.2.2)
else
  (fX0_loadKept P q1.2.1 x1).bind (fun q2 =>
    if q2.1 = 0 then
    some ((-101), q2.2, q1.2.2.1, q1.2.2.2)
  else
    (fX2_isMet P q2.2 x2).bind (fun r3 =>
      if r3 = 0 then
      some ((-101), q2.2, q1.2.2.1, q1.2.2.2)
    else
      if x3 = 0 then
        (fX2_kindOf P q2.2 x2).bind (fun r7 =>
          some (r7, q2.2, q1.2.2.1, q1.2.2.2))
      else
        if x3 < 1 then
          some ((-102), q2.2, q1.2.2.1, q1.2.2.2)
        else
          (fX2_kindOf P q2.2 x2).bind (fun r4 =>
            (fX8_fieldsOf P q2.2 r4).bind (fun r5 =>
            if x3 ≤ r5 then
            (fX2_fieldTells P q2.2 x2 ((x3 - 1))).bind (fun r6 =>
              some (r6, q2.2, q1.2.2.1, q1.2.2.2))
          else
            some ((-102), q2.2, q1.2.2.1, q1.2.2.2))))))
set_option maxRecDepth 20000 in
theorem tX10_object {l : Launch} {G : rr_G} (P : rr_T) (S : rr_T) (x1 : Int32) (x2 : Int32) (x3 : Int32) (u : Nat) (v : Nat) : TT l G mX10_object 6 140 fxX rvIU (fun q => xw P q.2.1) (fun q => q.2.2.1) (fun q => q.2.2.2) u v [.ref 0, .int x1, .int x2, .int x3] (xw P S) (fX10_object P S x1 x2 x3 u v) := by
  refine TT.by (by decide) (Nat.le_of_ble_eq_true rfl) (lv := [(0, .ref 0), (1, .int x1), (2, .int x2), (3, .int x3)]) rfl ?_
  show RR l G mX10_object 6 140 fxX rvIU (fun q => xw P q.2.1) (fun q => q.2.2.1) (fun q => q.2.2.2) u v 0 [(0, .ref 0), (1, .int x1), (2, .int x2), (3, .int x3)] [] (xw P S) (fX10_object P S x1 x2 x3 u v)
  unfold fX10_object
  refine rr_aload_n dX10_object_0 rfl 0 rfl ?_
  refine rr_get (v := .ref 17) cl10 k10_44 (Nat.le_of_ble_eq_true rfl) rfl rfl dX10_object_1 ?_
  refine rr_viu (W := xw P) (As := []) (rest := []) (tX0_sift P S u v) v10_148 rfl rfl ⟨Nat.le_of_ble_eq_true rfl, Nat.le_of_ble_eq_true rfl⟩ (fun _ z => z) rfl rfl (Nat.le_of_ble_eq_true rfl) rfl dX10_object_4 (fun q1 => ?_)
  refine rr_if_ne (tgt := 13) dX10_object_7 (by decide) (fun _ => ?_) (fun _ => ?_)
  · refine rr_aload_n dX10_object_13 rfl 0 rfl ?_
    refine rr_get (v := .ref 17) cl10 k10_44 (Nat.le_of_ble_eq_true rfl) rfl rfl dX10_object_14 ?_
    refine rr_iload_n dX10_object_17 rfl 1 rfl ?_
    refine rr_vis (W := xw P) (As := [.int x1]) (rest := []) (tX0_loadKept P q1.2.1 x1) v10_154 rfl rfl ⟨Nat.le_of_ble_eq_true rfl, Nat.le_of_ble_eq_true rfl⟩ (fun _ _ => rfl) rfl rfl (Nat.le_of_ble_eq_true rfl) rfl dX10_object_18 (fun q2 => ?_)
    refine rr_if_eq (tgt := 35) dX10_object_21 (by decide) (fun _ => ?_) (fun _ => ?_)
    · refine rr_bipush (v := (-101)) dX10_object_35 (by decide) ?_
      exact rr_iret dX10_object_37 rfl rfl rfl rfl rfl
    · refine rr_aload_n dX10_object_24 rfl 0 rfl ?_
      refine rr_get (v := .ref 10) cl10 k10_35 (Nat.le_of_ble_eq_true rfl) rfl rfl dX10_object_25 ?_
      refine rr_iload_n dX10_object_28 rfl 2 rfl ?_
      refine rr_vi (As := [.int x2]) (rest := []) (tX2_isMet P q2.2 x2) v10_160 rfl rfl ⟨Nat.le_of_ble_eq_true rfl, Nat.le_of_ble_eq_true rfl⟩ rfl rfl (Nat.le_of_ble_eq_true rfl) rfl dX10_object_29 (fun r3 => ?_)
      refine rr_if_ne (tgt := 38) dX10_object_32 (by decide) (fun _ => ?_) (fun _ => ?_)
      · refine rr_iload_n dX10_object_38 rfl 3 rfl ?_
        refine rr_if_ne (tgt := 51) dX10_object_39 (by decide) (fun _ => ?_) (fun _ => ?_)
        · refine rr_iload_n dX10_object_51 rfl 3 rfl ?_
          refine rr_iconst (v := 1) dX10_object_52 (by decide) ?_
          refine rr_icmp_lt (tgt := 75) dX10_object_53 (by decide) (fun _ => ?_) (fun _ => ?_)
          · refine rr_bipush (v := (-102)) dX10_object_75 (by decide) ?_
            exact rr_iret dX10_object_77 rfl rfl rfl rfl rfl
          · refine rr_iload_n dX10_object_56 rfl 3 rfl ?_
            refine rr_aload_n dX10_object_57 rfl 0 rfl ?_
            refine rr_get (v := .ref 1) cl10 k10_12 (Nat.le_of_ble_eq_true rfl) rfl rfl dX10_object_58 ?_
            refine rr_aload_n dX10_object_61 rfl 0 rfl ?_
            refine rr_get (v := .ref 10) cl10 k10_35 (Nat.le_of_ble_eq_true rfl) rfl rfl dX10_object_62 ?_
            refine rr_iload_n dX10_object_65 rfl 2 rfl ?_
            refine rr_vi (As := [.int x2]) (rest := [.ref 1, .int x3]) (tX2_kindOf P q2.2 x2) v10_163 rfl rfl ⟨Nat.le_of_ble_eq_true rfl, Nat.le_of_ble_eq_true rfl⟩ rfl rfl (Nat.le_of_ble_eq_true rfl) rfl dX10_object_66 (fun r4 => ?_)
            refine rr_vi (As := [.int r4]) (rest := [.int x3]) (tX8_fieldsOf P q2.2 r4) v10_134 rfl rfl ⟨Nat.le_of_ble_eq_true rfl, Nat.le_of_ble_eq_true rfl⟩ rfl rfl (Nat.le_of_ble_eq_true rfl) rfl dX10_object_69 (fun r5 => ?_)
            refine rr_icmp_le (tgt := 78) dX10_object_72 (by decide) (fun _ => ?_) (fun _ => ?_)
            · refine rr_aload_n dX10_object_78 rfl 0 rfl ?_
              refine rr_get (v := .ref 10) cl10 k10_35 (Nat.le_of_ble_eq_true rfl) rfl rfl dX10_object_79 ?_
              refine rr_iload_n dX10_object_82 rfl 2 rfl ?_
              refine rr_iload_n dX10_object_83 rfl 3 rfl ?_
              refine rr_iconst (v := 1) dX10_object_84 (by decide) ?_
              refine rr_isub dX10_object_85 ?_
              refine rr_vi (As := [.int x2, .int (x3 - 1)]) (rest := []) (tX2_fieldTells P q2.2 x2 ((x3 - 1))) v10_166 rfl rfl ⟨Nat.le_of_ble_eq_true rfl, Nat.le_of_ble_eq_true rfl⟩ rfl rfl (Nat.le_of_ble_eq_true rfl) rfl dX10_object_86 (fun r6 => ?_)
              exact rr_iret dX10_object_89 rfl rfl rfl rfl rfl
            · refine rr_bipush (v := (-102)) dX10_object_75 (by decide) ?_
              exact rr_iret dX10_object_77 rfl rfl rfl rfl rfl
        · refine rr_aload_n dX10_object_42 rfl 0 rfl ?_
          refine rr_get (v := .ref 10) cl10 k10_35 (Nat.le_of_ble_eq_true rfl) rfl rfl dX10_object_43 ?_
          refine rr_iload_n dX10_object_46 rfl 2 rfl ?_
          refine rr_vi (As := [.int x2]) (rest := []) (tX2_kindOf P q2.2 x2) v10_163 rfl rfl ⟨Nat.le_of_ble_eq_true rfl, Nat.le_of_ble_eq_true rfl⟩ rfl rfl (Nat.le_of_ble_eq_true rfl) rfl dX10_object_47 (fun r7 => ?_)
          exact rr_iret dX10_object_50 rfl rfl rfl rfl rfl
      · refine rr_bipush (v := (-101)) dX10_object_35 (by decide) ?_
        exact rr_iret dX10_object_37 rfl rfl rfl rfl rfl
  · refine rr_bipush (v := (-104)) dX10_object_10 (by decide) ?_
    exact rr_iret dX10_object_12 rfl rfl rfl rfl rfl
def fX10_rank (P : rr_T) (S : rr_T) (u : Nat) (v : Nat) : Option (Int32 × rr_T × Nat × Nat) :=
  (fX0_sift P S u v).bind (fun q1 =>
  if q1.1 = 0 then
  some ((-104), q1.2.1, q1.2.2.1, q1.2.2.2)
else
  (fX2_loadUnsure P q1.2.1 ((q1.2.1.1 8))).bind (fun q2 =>
    if q2.1 = (-1) then
    (fX5_find_18 P q2.2 ((q2.2.1 8))).bind (fun r3 =>
      (fX0_keptNumber P q2.2 r3).bind (fun r4 =>
      some (r4, q2.2, q1.2.2.1, q1.2.2.2)))
  else
    some (((-10) - q2.1), q2.2, q1.2.2.1, q1.2.2.2)))
set_option maxRecDepth 20000 in
theorem tX10_rank {l : Launch} {G : rr_G} (P : rr_T) (S : rr_T) (u : Nat) (v : Nat) : TT l G mX10_rank 6 140 fxX rvIU (fun q => xw P q.2.1) (fun q => q.2.2.1) (fun q => q.2.2.2) u v [.ref 0] (xw P S) (fX10_rank P S u v) := by
  refine TT.by (by decide) (Nat.le_of_ble_eq_true rfl) (lv := [(0, .ref 0)]) rfl ?_
  show RR l G mX10_rank 6 140 fxX rvIU (fun q => xw P q.2.1) (fun q => q.2.2.1) (fun q => q.2.2.2) u v 0 [(0, .ref 0)] [] (xw P S) (fX10_rank P S u v)
  unfold fX10_rank
  refine rr_aload_n dX10_rank_0 rfl 0 rfl ?_
  refine rr_get (v := .ref 17) cl10 k10_44 (Nat.le_of_ble_eq_true rfl) rfl rfl dX10_rank_1 ?_
  refine rr_viu (W := xw P) (As := []) (rest := []) (tX0_sift P S u v) v10_148 rfl rfl ⟨Nat.le_of_ble_eq_true rfl, Nat.le_of_ble_eq_true rfl⟩ (fun _ z => z) rfl rfl (Nat.le_of_ble_eq_true rfl) rfl dX10_rank_4 (fun q1 => ?_)
  refine rr_if_ne (tgt := 13) dX10_rank_7 (by decide) (fun _ => ?_) (fun _ => ?_)
  · refine rr_aload_n dX10_rank_13 rfl 0 rfl ?_
    refine rr_get (v := .ref 10) cl10 k10_35 (Nat.le_of_ble_eq_true rfl) rfl rfl dX10_rank_14 ?_
    refine rr_aload_n dX10_rank_17 rfl 0 rfl ?_
    refine rr_get (v := .ref 33) cl10 k10_66 (Nat.le_of_ble_eq_true rfl) rfl rfl dX10_rank_18 ?_
    refine rr_aload_n dX10_rank_21 rfl 0 rfl ?_
    refine rr_get (v := .int (q1.2.1.1 8)) cl10 k10_70 (Nat.le_of_ble_eq_true rfl) rfl rfl dX10_rank_22 ?_
    refine rr_vis (W := xw P) (As := [.ref 33, .int (q1.2.1.1 8)]) (rest := []) (tX2_loadUnsure P q1.2.1 ((q1.2.1.1 8))) v10_170 rfl rfl ⟨Nat.le_of_ble_eq_true rfl, Nat.le_of_ble_eq_true rfl⟩ (fun _ _ => rfl) rfl rfl (Nat.le_of_ble_eq_true rfl) rfl dX10_rank_25 (fun q2 => ?_)
    refine rr_istore_n (lv' := [(1, .int q2.1), (0, .ref 0)]) dX10_rank_28 rfl (by decide) rfl ?_
    refine rr_iload_n dX10_rank_29 rfl 0 rfl ?_
    refine rr_iconst (v := (-1)) dX10_rank_30 (by decide) ?_
    refine rr_icmp_eq (tgt := 39) dX10_rank_31 (by decide) (fun _ => ?_) (fun _ => ?_)
    · refine rr_aload_n dX10_rank_39 rfl 1 rfl ?_
      refine rr_get (v := .ref 17) cl10 k10_44 (Nat.le_of_ble_eq_true rfl) rfl rfl dX10_rank_40 ?_
      refine rr_aload_n dX10_rank_43 rfl 1 rfl ?_
      refine rr_get (v := .ref 17) cl10 k10_44 (Nat.le_of_ble_eq_true rfl) rfl rfl dX10_rank_44 ?_
      refine rr_get (v := .ref 18) cl0 k10_141 (Nat.le_of_ble_eq_true rfl) rfl rfl dX10_rank_47 ?_
      refine rr_aload_n dX10_rank_50 rfl 1 rfl ?_
      refine rr_get (v := .ref 33) cl10 k10_66 (Nat.le_of_ble_eq_true rfl) rfl rfl dX10_rank_51 ?_
      refine rr_aload_n dX10_rank_54 rfl 1 rfl ?_
      refine rr_get (v := .int (q2.2.1 8)) cl10 k10_70 (Nat.le_of_ble_eq_true rfl) rfl rfl dX10_rank_55 ?_
      refine rr_vi (As := [.ref 33, .int (q2.2.1 8)]) (rest := [.ref 17]) (tX5_find_18 P q2.2 ((q2.2.1 8))) v10_174 rfl rfl ⟨Nat.le_of_ble_eq_true rfl, Nat.le_of_ble_eq_true rfl⟩ rfl rfl (Nat.le_of_ble_eq_true rfl) rfl dX10_rank_58 (fun r3 => ?_)
      refine rr_vi (As := [.int r3]) (rest := []) (tX0_keptNumber P q2.2 r3) v10_177 rfl rfl ⟨Nat.le_of_ble_eq_true rfl, Nat.le_of_ble_eq_true rfl⟩ rfl rfl (Nat.le_of_ble_eq_true rfl) rfl dX10_rank_61 (fun r4 => ?_)
      exact rr_iret dX10_rank_64 rfl rfl rfl rfl rfl
    · refine rr_bipush (v := (-10)) dX10_rank_34 (by decide) ?_
      refine rr_iload_n dX10_rank_36 rfl 0 rfl ?_
      refine rr_isub dX10_rank_37 ?_
      exact rr_iret dX10_rank_38 rfl rfl rfl rfl rfl
  · refine rr_bipush (v := (-104)) dX10_rank_10 (by decide) ?_
    exact rr_iret dX10_rank_12 rfl rfl rfl rfl rfl
def fX1_makeRoom (P : rr_T) (S : rr_T) (x1 : Int32) (u : Nat) (v : Nat) : Option (rr_T × Nat × Nat) :=
  if x1 ≤ (nI (S.2.2.2 28)) then
  some (S, u, v)
else
  (fX10_sizeFor x1).bind (fun r1 =>
    if inb r1 100000 then
    rr_l (xNw S 28 r1.toNatClampNeg) (fun S2 =>
      if inb r1 100000 then
      rr_l (xNw S2 29 r1.toNatClampNeg) (fun S3 =>
        if inb r1 100000 then
        rr_l (xNw S3 30 r1.toNatClampNeg) (fun S4 =>
          if inb r1 100000 then
          rr_l (xNw S4 31 r1.toNatClampNeg) (fun S5 =>
            if inb r1 100000 then
            rr_l (xNw S5 32 r1.toNatClampNeg) (fun S6 =>
              some (S6, (((((u + 1) + 1) + 1) + 1) + 1), (((((v + r1.toNatClampNeg) + r1.toNatClampNeg) + r1.toNatClampNeg) + r1.toNatClampNeg) + r1.toNatClampNeg)))
          else none)
        else none)
      else none)
    else none)
  else none)
set_option maxRecDepth 20000 in
theorem tX1_makeRoom {l : Launch} {G : rr_G} (P : rr_T) (S : rr_T) (x1 : Int32) (u : Nat) (v : Nat) : TT l G mX1_makeRoom 1 22 fxX rvSU (fun q => xw P q.1) (fun q => q.2.1) (fun q => q.2.2) u v [.ref 25, .int x1] (xw P S) (fX1_makeRoom P S x1 u v) := by
  refine TT.by (by decide) (Nat.le_of_ble_eq_true rfl) (lv := [(0, .ref 25), (1, .int x1)]) rfl ?_
  show RR l G mX1_makeRoom 1 22 fxX rvSU (fun q => xw P q.1) (fun q => q.2.1) (fun q => q.2.2) u v 0 [(0, .ref 25), (1, .int x1)] [] (xw P S) (fX1_makeRoom P S x1 u v)
  unfold fX1_makeRoom
  refine rr_aload_n dX1_makeRoom_0 rfl 0 rfl ?_
  refine rr_get (v := .ref 28) cl1 k1_18 (Nat.le_of_ble_eq_true rfl) rfl rfl dX1_makeRoom_1 ?_
  refine rr_alen (by decide) rfl dX1_makeRoom_4 ?_
  refine rr_iload_n dX1_makeRoom_5 rfl 1 rfl ?_
  refine rr_icmp_ge (tgt := 49) dX1_makeRoom_6 (by decide) (fun _ => ?_) (fun _ => ?_)
  · exact rr_vret dX1_makeRoom_49 rfl rfl rfl rfl rfl
  · refine rr_iload_n dX1_makeRoom_9 rfl 1 rfl ?_
    refine rr_si (As := [.int x1]) (rest := []) (tX10_sizeFor x1 (xw P S)) s1_116 rfl ⟨Nat.le_of_ble_eq_true rfl, Nat.le_of_ble_eq_true rfl⟩ rfl rfl (Nat.le_of_ble_eq_true rfl) rfl dX1_makeRoom_10 (fun r1 => ?_)
    refine rr_istore_n (lv' := [(2, .int r1), (0, .ref 25), (1, .int x1)]) dX1_makeRoom_13 rfl (by decide) rfl ?_
    refine rr_aload_n dX1_makeRoom_14 rfl 1 rfl ?_
    refine rr_iload_n dX1_makeRoom_15 rfl 0 rfl ?_
    refine rr_if (fun z => ?_)
    refine x_new28 z k1_18 dX1_makeRoom_16 dX1_makeRoom_18 rfl rfl rfl rfl ?_
    refine rr_letS (W := xw P) (fun S2 => ?_)
    refine rr_aload_n dX1_makeRoom_21 rfl 1 rfl ?_
    refine rr_iload_n dX1_makeRoom_22 rfl 0 rfl ?_
    refine rr_if (fun z => ?_)
    refine x_new29 z k1_22 dX1_makeRoom_23 dX1_makeRoom_25 rfl rfl rfl rfl ?_
    refine rr_letS (W := xw P) (fun S3 => ?_)
    refine rr_aload_n dX1_makeRoom_28 rfl 1 rfl ?_
    refine rr_iload_n dX1_makeRoom_29 rfl 0 rfl ?_
    refine rr_if (fun z => ?_)
    refine x_new30 z k1_25 dX1_makeRoom_30 dX1_makeRoom_32 rfl rfl rfl rfl ?_
    refine rr_letS (W := xw P) (fun S4 => ?_)
    refine rr_aload_n dX1_makeRoom_35 rfl 1 rfl ?_
    refine rr_iload_n dX1_makeRoom_36 rfl 0 rfl ?_
    refine rr_if (fun z => ?_)
    refine x_new31 z k1_28 dX1_makeRoom_37 dX1_makeRoom_39 rfl rfl rfl rfl ?_
    refine rr_letS (W := xw P) (fun S5 => ?_)
    refine rr_aload_n dX1_makeRoom_42 rfl 1 rfl ?_
    refine rr_iload_n dX1_makeRoom_43 rfl 0 rfl ?_
    refine rr_if (fun z => ?_)
    refine x_new32 z k1_31 dX1_makeRoom_44 dX1_makeRoom_46 rfl rfl rfl rfl ?_
    refine rr_letS (W := xw P) (fun S6 => ?_)
    exact rr_vret dX1_makeRoom_49 rfl rfl rfl rfl rfl
def JX1_sort_80 (rec38 : (Int32 × rr_T × Nat × Nat) → Option (rr_T × Nat × Nat)) (a3 : Int32 × rr_T × Nat × Nat) (a4 : rr_T × Nat × Nat) : Option (rr_T × Nat × Nat) :=
  rr_l (xSw a4.1) (fun S5 =>
  rr_l ((a3.1 * 2)) (fun v6 =>
  rec38 (v6, S5, a4.2.1, a4.2.2)))
set_option maxRecDepth 20000 in
theorem tX1_sort_80 {l : Launch} {G : rr_G} (rec38 : (Int32 × rr_T × Nat × Nat) → Option (rr_T × Nat × Nat)) (a3 : Int32 × rr_T × Nat × Nat) (P : rr_T) (v1 : Int32) (hrec38 : ∀ a : Int32 × rr_T × Nat × Nat, RR l G mX1_sort 3 73 fxX rvSU (fun q => xw P q.1) (fun q => q.2.1) (fun q => q.2.2) a.2.2.1 a.2.2.2 38 [(0, .ref 25), (1, .int v1), (2, .int a.1)] [] (xw P a.2.1) (rec38 a)) (a4 : rr_T × Nat × Nat) : RR l G mX1_sort 3 73 fxX rvSU (fun q => xw P q.1) (fun q => q.2.1) (fun q => q.2.2) a4.2.1 a4.2.2 80 [(0, .ref 25), (1, .int v1), (2, .int a3.1)] [] (xw P a4.1) (JX1_sort_80 rec38 a3 a4) := by
  unfold JX1_sort_80
  refine rr_aload_n dX1_sort_80 rfl 0 rfl ?_
  refine rr_get (v := .ref 29) cl1 k1_22 (Nat.le_of_ble_eq_true rfl) rfl rfl dX1_sort_81 ?_
  refine rr_astore_n (lv' := [(3, .ref 29), (0, .ref 25), (1, .int v1), (2, .int a3.1)]) dX1_sort_84 rfl (by decide) rfl ?_
  refine rr_aload_n dX1_sort_85 rfl 1 rfl ?_
  refine rr_aload_n dX1_sort_86 rfl 1 rfl ?_
  refine rr_get (v := .ref 28) cl1 k1_18 (Nat.le_of_ble_eq_true rfl) rfl rfl dX1_sort_87 ?_
  refine rr_put cl1 k1_22 (Nat.le_of_ble_eq_true rfl) rfl rfl rfl rfl (Nat.le_of_ble_eq_true rfl) dX1_sort_90 rfl ?_
  refine rr_aload_n dX1_sort_93 rfl 1 rfl ?_
  refine rr_aload_n dX1_sort_94 rfl 0 rfl ?_
  refine rr_put cl1 k1_18 (Nat.le_of_ble_eq_true rfl) rfl rfl rfl rfl (Nat.le_of_ble_eq_true rfl) dX1_sort_95 rfl ?_
  refine rr_sub (lv' := [(0, .ref 25), (1, .int v1), (2, .int a3.1)]) [1, 2, 3] rfl ?_
  refine x_swap (idx := 0) rfl rfl ?_
  refine rr_letS (W := xw P) (fun S5 => ?_)
  refine rr_iload_n dX1_sort_98 rfl 2 rfl ?_
  refine rr_iconst (v := 2) dX1_sort_99 (by decide) ?_
  refine rr_imul dX1_sort_100 ?_
  refine rr_letI (fun v6 => ?_)
  refine rr_istore_n (lv' := [(2, .int v6), (0, .ref 25), (1, .int v1)]) dX1_sort_101 rfl (by decide) rfl ?_
  refine rr_goto (tgt := 38) dX1_sort_102 (by decide) ?_
  refine rr_sub [1, 2, 0] rfl ?_
  exact hrec38 (v6, S5, a4.2.1, a4.2.2)
def LX1_sort_45 (P : rr_T) (v1 : Int32) (rec38 : (Int32 × rr_T × Nat × Nat) → Option (rr_T × Nat × Nat)) (a3 : Int32 × rr_T × Nat × Nat) (rec45 : (Int32 × rr_T × Nat × Nat) → Option (rr_T × Nat × Nat)) (a7 : Int32 × rr_T × Nat × Nat) : Option (rr_T × Nat × Nat) :=
  if v1 ≤ a7.1 then
  JX1_sort_80 rec38 a3 (a7.2.1, a7.2.2.1, a7.2.2.2)
else
  (fX1_merge P a7.2.1 a7.1 ((jMin ((a7.1 + a3.1)) v1)) ((jMin ((a7.1 + (2 * a3.1))) v1))).bind (fun S8 =>
    rr_l ((a7.1 + (2 * a3.1))) (fun v9 =>
    rec45 (v9, S8, a7.2.2.1, a7.2.2.2)))
set_option maxRecDepth 20000 in
theorem tX1_sort_45 {l : Launch} {G : rr_G} (P : rr_T) (v1 : Int32) (rec38 : (Int32 × rr_T × Nat × Nat) → Option (rr_T × Nat × Nat)) (a3 : Int32 × rr_T × Nat × Nat) (hrec38 : ∀ a : Int32 × rr_T × Nat × Nat, RR l G mX1_sort 3 73 fxX rvSU (fun q => xw P q.1) (fun q => q.2.1) (fun q => q.2.2) a.2.2.1 a.2.2.2 38 [(0, .ref 25), (1, .int v1), (2, .int a.1)] [] (xw P a.2.1) (rec38 a)) : ∀ (n : Nat) (a : Int32 × rr_T × Nat × Nat), RR l G mX1_sort 3 73 fxX rvSU (fun q => xw P q.1) (fun q => q.2.1) (fun q => q.2.2) a.2.2.1 a.2.2.2 45 [(0, .ref 25), (1, .int v1), (2, .int a3.1), (3, .int a.1)] [] (xw P a.2.1) (rr_loop n (LX1_sort_45 P v1 rec38 a3) a) := by
  refine rr_lpU (α := Int32 × rr_T × Nat × Nat) 45 (fun a => [(0, .ref 25), (1, .int v1), (2, .int a3.1), (3, .int a.1)]) (fun a => (xw P a.2.1)) (fun a => a.2.2.1) (fun a => a.2.2.2) (fun rec45 hrec45 a7 => ?_)
  show RR l G mX1_sort 3 73 fxX rvSU (fun q => xw P q.1) (fun q => q.2.1) (fun q => q.2.2) a7.2.2.1 a7.2.2.2 45 [(0, .ref 25), (1, .int v1), (2, .int a3.1), (3, .int a7.1)] [] (xw P a7.2.1) (LX1_sort_45 P v1 rec38 a3 rec45 a7)
  unfold LX1_sort_45
  refine rr_iload_n dX1_sort_45 rfl 3 rfl ?_
  refine rr_iload_n dX1_sort_46 rfl 1 rfl ?_
  refine rr_icmp_ge (tgt := 80) dX1_sort_47 (by decide) (fun _ => ?_) (fun _ => ?_)
  · refine rr_sub [0, 1, 2] rfl ?_
    exact tX1_sort_80 rec38 a3 P v1 hrec38 (a7.2.1, a7.2.2.1, a7.2.2.2)
  · refine rr_aload_n dX1_sort_50 rfl 0 rfl ?_
    refine rr_iload_n dX1_sort_51 rfl 3 rfl ?_
    refine rr_iload_n dX1_sort_52 rfl 3 rfl ?_
    refine rr_iload_n dX1_sort_53 rfl 2 rfl ?_
    refine rr_iadd dX1_sort_54 ?_
    refine rr_iload_n dX1_sort_55 rfl 1 rfl ?_
    refine rr_mmin mk1_119 (Nat.le_of_ble_eq_true rfl) (Nat.le_of_ble_eq_true rfl) dX1_sort_56 ?_
    refine rr_iload_n dX1_sort_59 rfl 3 rfl ?_
    refine rr_iconst (v := 2) dX1_sort_60 (by decide) ?_
    refine rr_iload_n dX1_sort_61 rfl 2 rfl ?_
    refine rr_imul dX1_sort_62 ?_
    refine rr_iadd dX1_sort_63 ?_
    refine rr_iload_n dX1_sort_64 rfl 1 rfl ?_
    refine rr_mmin mk1_119 (Nat.le_of_ble_eq_true rfl) (Nat.le_of_ble_eq_true rfl) dX1_sort_65 ?_
    refine rr_vs (W := xw P) (As := [.int a7.1, .int (jMin ((a7.1 + a3.1)) v1), .int (jMin ((a7.1 + (2 * a3.1))) v1)]) (rest := []) (tX1_merge P a7.2.1 a7.1 ((jMin ((a7.1 + a3.1)) v1)) ((jMin ((a7.1 + (2 * a3.1))) v1))) v1_124 rfl rfl ⟨Nat.le_of_ble_eq_true rfl, Nat.le_of_ble_eq_true rfl⟩ (fun _ _ => rfl) rfl rfl (Nat.le_of_ble_eq_true rfl) rfl dX1_sort_68 (fun S8 => ?_)
    refine rr_iload_n dX1_sort_71 rfl 3 rfl ?_
    refine rr_iconst (v := 2) dX1_sort_72 (by decide) ?_
    refine rr_iload_n dX1_sort_73 rfl 2 rfl ?_
    refine rr_imul dX1_sort_74 ?_
    refine rr_iadd dX1_sort_75 ?_
    refine rr_letI (fun v9 => ?_)
    refine rr_istore_n (lv' := [(3, .int v9), (0, .ref 25), (1, .int v1), (2, .int a3.1)]) dX1_sort_76 rfl (by decide) rfl ?_
    refine rr_goto (tgt := 45) dX1_sort_77 (by decide) ?_
    refine rr_sub [1, 2, 3, 0] rfl ?_
    exact hrec45 (v9, S8, a7.2.2.1, a7.2.2.2)
def LX1_sort_38 (P : rr_T) (v1 : Int32) (rec38 : (Int32 × rr_T × Nat × Nat) → Option (rr_T × Nat × Nat)) (a3 : Int32 × rr_T × Nat × Nat) : Option (rr_T × Nat × Nat) :=
  if v1 ≤ a3.1 then
  some (a3.2.1, a3.2.2.1, a3.2.2.2)
else
  rr_loop FU (LX1_sort_45 P v1 rec38 a3) (0, a3.2.1, a3.2.2.1, a3.2.2.2)
set_option maxRecDepth 20000 in
theorem tX1_sort_38 {l : Launch} {G : rr_G} (P : rr_T) (v1 : Int32) : ∀ (n : Nat) (a : Int32 × rr_T × Nat × Nat), RR l G mX1_sort 3 73 fxX rvSU (fun q => xw P q.1) (fun q => q.2.1) (fun q => q.2.2) a.2.2.1 a.2.2.2 38 [(0, .ref 25), (1, .int v1), (2, .int a.1)] [] (xw P a.2.1) (rr_loop n (LX1_sort_38 P v1) a) := by
  refine rr_lpU (α := Int32 × rr_T × Nat × Nat) 38 (fun a => [(0, .ref 25), (1, .int v1), (2, .int a.1)]) (fun a => (xw P a.2.1)) (fun a => a.2.2.1) (fun a => a.2.2.2) (fun rec38 hrec38 a3 => ?_)
  show RR l G mX1_sort 3 73 fxX rvSU (fun q => xw P q.1) (fun q => q.2.1) (fun q => q.2.2) a3.2.2.1 a3.2.2.2 38 [(0, .ref 25), (1, .int v1), (2, .int a3.1)] [] (xw P a3.2.1) (LX1_sort_38 P v1 rec38 a3)
  unfold LX1_sort_38
  refine rr_iload_n dX1_sort_38 rfl 2 rfl ?_
  refine rr_iload_n dX1_sort_39 rfl 1 rfl ?_
  refine rr_icmp_ge (tgt := 105) dX1_sort_40 (by decide) (fun _ => ?_) (fun _ => ?_)
  · exact rr_vret dX1_sort_105 rfl rfl rfl rfl rfl
  · refine rr_iconst (v := 0) dX1_sort_43 (by decide) ?_
    refine rr_istore_n (lv' := [(3, .int 0), (0, .ref 25), (1, .int v1), (2, .int a3.1)]) dX1_sort_44 rfl (by decide) rfl ?_
    refine rr_sub [1, 2, 3, 0] rfl ?_
    exact tX1_sort_45 P v1 rec38 a3 hrec38 FU (0, a3.2.1, a3.2.2.1, a3.2.2.2)
def JX1_sort_36 (P : rr_T) (v1 : Int32) (a2 : rr_T × Nat × Nat) : Option (rr_T × Nat × Nat) :=
  rr_loop FU (LX1_sort_38 P v1) (1, a2.1, a2.2.1, a2.2.2)
set_option maxRecDepth 20000 in
theorem tX1_sort_36 {l : Launch} {G : rr_G} (P : rr_T) (v1 : Int32) (a2 : rr_T × Nat × Nat) : RR l G mX1_sort 3 73 fxX rvSU (fun q => xw P q.1) (fun q => q.2.1) (fun q => q.2.2) a2.2.1 a2.2.2 36 [(0, .ref 25), (1, .int v1)] [] (xw P a2.1) (JX1_sort_36 P v1 a2) := by
  unfold JX1_sort_36
  refine rr_iconst (v := 1) dX1_sort_36 (by decide) ?_
  refine rr_istore_n (lv' := [(2, .int 1), (0, .ref 25), (1, .int v1)]) dX1_sort_37 rfl (by decide) rfl ?_
  refine rr_sub [1, 2, 0] rfl ?_
  exact tX1_sort_38 P v1 FU (1, a2.1, a2.2.1, a2.2.2)
def LX1_sort_18 (P : rr_T) (v1 : Int32) (rec18 : (Int32 × rr_T × Nat × Nat) → Option (rr_T × Nat × Nat)) (a10 : Int32 × rr_T × Nat × Nat) : Option (rr_T × Nat × Nat) :=
  if v1 ≤ a10.1 then
  JX1_sort_36 P v1 (a10.2.1, a10.2.2.1, a10.2.2.2)
else
  if inb a10.1 (a10.2.1.2.2.2 28) then
    rr_l (pA a10.2.1 28 a10.1 a10.1) (fun S11 =>
      rec18 ((a10.1 + 1), S11, a10.2.2.1, a10.2.2.2))
  else none
set_option maxRecDepth 20000 in
theorem tX1_sort_18 {l : Launch} {G : rr_G} (P : rr_T) (v1 : Int32) : ∀ (n : Nat) (a : Int32 × rr_T × Nat × Nat), RR l G mX1_sort 3 73 fxX rvSU (fun q => xw P q.1) (fun q => q.2.1) (fun q => q.2.2) a.2.2.1 a.2.2.2 18 [(0, .ref 25), (1, .int v1), (2, .int a.1)] [] (xw P a.2.1) (rr_loop n (LX1_sort_18 P v1) a) := by
  refine rr_lpU (α := Int32 × rr_T × Nat × Nat) 18 (fun a => [(0, .ref 25), (1, .int v1), (2, .int a.1)]) (fun a => (xw P a.2.1)) (fun a => a.2.2.1) (fun a => a.2.2.2) (fun rec18 hrec18 a10 => ?_)
  show RR l G mX1_sort 3 73 fxX rvSU (fun q => xw P q.1) (fun q => q.2.1) (fun q => q.2.2) a10.2.2.1 a10.2.2.2 18 [(0, .ref 25), (1, .int v1), (2, .int a10.1)] [] (xw P a10.2.1) (LX1_sort_18 P v1 rec18 a10)
  unfold LX1_sort_18
  refine rr_iload_n dX1_sort_18 rfl 2 rfl ?_
  refine rr_iload_n dX1_sort_19 rfl 1 rfl ?_
  refine rr_icmp_ge (tgt := 36) dX1_sort_20 (by decide) (fun _ => ?_) (fun _ => ?_)
  · refine rr_sub [0, 1] rfl ?_
    exact tX1_sort_36 P v1 (a10.2.1, a10.2.2.1, a10.2.2.2)
  · refine rr_aload_n dX1_sort_23 rfl 0 rfl ?_
    refine rr_get (v := .ref 28) cl1 k1_18 (Nat.le_of_ble_eq_true rfl) rfl rfl dX1_sort_24 ?_
    refine rr_iload_n dX1_sort_27 rfl 2 rfl ?_
    refine rr_iload_n dX1_sort_28 rfl 2 rfl ?_
    refine rr_if (fun z => ?_)
    refine rr_iast (len := (a10.2.1.2.2.2 28)) rfl (inb_in z) dX1_sort_29 (xa28 P a10.2.1 a10.1 a10.1) ?_
    refine rr_letS (W := xw P) (fun S11 => ?_)
    refine rr_iinc (lv' := [(2, .int (a10.1 + 1)), (0, .ref 25), (1, .int v1)]) dX1_sort_30 2 rfl (by decide) rfl ?_
    refine rr_goto (tgt := 18) dX1_sort_33 (by decide) ?_
    refine rr_sub [1, 2, 0] rfl ?_
    exact hrec18 ((a10.1 + 1), S11, a10.2.2.1, a10.2.2.2)
def fX1_sort (P : rr_T) (S : rr_T) (u : Nat) (v : Nat) : Option (rr_T × Nat × Nat) :=
  rr_l ((jMin ((S.1 417)) ((nI (S.2.2.2 28))))) (fun v1 =>
  rr_loop FU (LX1_sort_18 P v1) (0, S, u, v))
set_option maxRecDepth 20000 in
theorem tX1_sort {l : Launch} {G : rr_G} (P : rr_T) (S : rr_T) (u : Nat) (v : Nat) : TT l G mX1_sort 3 73 fxX rvSU (fun q => xw P q.1) (fun q => q.2.1) (fun q => q.2.2) u v [.ref 25] (xw P S) (fX1_sort P S u v) := by
  refine TT.by (by decide) (Nat.le_of_ble_eq_true rfl) (lv := [(0, .ref 25)]) rfl ?_
  show RR l G mX1_sort 3 73 fxX rvSU (fun q => xw P q.1) (fun q => q.2.1) (fun q => q.2.2) u v 0 [(0, .ref 25)] [] (xw P S) (fX1_sort P S u v)
  unfold fX1_sort
  refine rr_aload_n dX1_sort_0 rfl 0 rfl ?_
  refine rr_get (v := .ref 26) cl1 k1_12 (Nat.le_of_ble_eq_true rfl) rfl rfl dX1_sort_1 ?_
  refine rr_get (v := .int (S.1 417)) cl5 k1_59 (Nat.le_of_ble_eq_true rfl) rfl rfl dX1_sort_4 ?_
  refine rr_aload_n dX1_sort_7 rfl 0 rfl ?_
  refine rr_get (v := .ref 28) cl1 k1_18 (Nat.le_of_ble_eq_true rfl) rfl rfl dX1_sort_8 ?_
  refine rr_alen (by decide) rfl dX1_sort_11 ?_
  refine rr_mmin mk1_119 (Nat.le_of_ble_eq_true rfl) (Nat.le_of_ble_eq_true rfl) dX1_sort_12 ?_
  refine rr_letI (fun v1 => ?_)
  refine rr_istore_n (lv' := [(1, .int v1), (0, .ref 25)]) dX1_sort_15 rfl (by decide) rfl ?_
  refine rr_iconst (v := 0) dX1_sort_16 (by decide) ?_
  refine rr_istore_n (lv' := [(2, .int 0), (1, .int v1), (0, .ref 25)]) dX1_sort_17 rfl (by decide) rfl ?_
  refine rr_sub [2, 1, 0] rfl ?_
  exact tX1_sort_18 P v1 FU (0, S, u, v)
