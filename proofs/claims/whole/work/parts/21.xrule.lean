/-! ===== rule, step ===== -/
theorem nw6 : Cond.classLink RX10 108 RX6 ∈ rr_ws ∧ Cond.instantiable RX6 4 ∈ rr_ws ∧ Cond.initialized RX6 ∈ rr_ws := ⟨in_rr 441 (by decide +kernel) rfl, in_rr 442 (by decide +kernel) rfl, in_rr 60 (by decide +kernel) rfl⟩
theorem nw9 : Cond.classLink RX10 183 RX9 ∈ rr_ws ∧ Cond.instantiable RX9 5 ∈ rr_ws ∧ Cond.initialized RX9 ∈ rr_ws := ⟨in_rr 687 (by decide +kernel) rfl, in_rr 688 (by decide +kernel) rfl, in_rr 64 (by decide +kernel) rfl⟩
def JX10_rule_36 (P : rr_T) (S : rr_T) (x1 : Int32) (x2 : Int32) (x3 : Int32) (x4 : Int32) (u : Nat) (v : Nat) (a1 : Unit) : Option (Int32 × rr_T × rr_T × Nat × Nat) :=
  (fRi x1 x3 x4).bind (fun gg => (fX7_add P S (xR4 x1 x2 x3 gg)).bind (fun qq => some (qq.1, qq.2.1, qq.2.2, (u + 1), (v + 4))))
set_option maxRecDepth 20000 in
theorem tX10_rule_36 {l : Launch} {G : rr_G} (P : rr_T) (S : rr_T) (x1 : Int32) (x2 : Int32) (x3 : Int32) (x4 : Int32) (u : Nat) (v : Nat) (a1 : Unit) : RR l G mX10_rule 3 69 fxX rvR (fun q => xw q.2.1 q.2.2.1) (fun q => q.2.2.2.1) (fun q => q.2.2.2.2) u v 36 [(0, .ref 0), (1, .int x1), (2, .int x2), (3, .int x3), (4, .int x4)] [] (xw P S) (JX10_rule_36 P S x1 x2 x3 x4 u v a1) := by
  unfold JX10_rule_36
  refine rr_aload_n dX10_rule_36 rfl 0 rfl ?_
  refine rr_get (v := .ref 6) cl10 k10_19 (Nat.le_of_ble_eq_true rfl) rfl rfl dX10_rule_37 ?_
  refine rr_new (fs := [.int 0, .int 0, .int 0, .int 0]) 56 cl6 nw6.1 nw6.2.1 nw6.2.2 (fun j hj => by rcases (show j = 0 ∨ j = 1 ∨ j = 2 ∨ j = 3 by omega) with rfl | rfl | rfl | rfl <;> rfl) (fun k hk => by simp at hk) rfl (x_no56 P S) rfl (rr_n56L rfl) (rr_n56S rfl) dX10_rule_40 (h' := xwt P S 6 [.int 0, .int 0, .int 0, .int 0]) rfl ?_
  refine rr_dup dX10_rule_43 rfl ?_
  refine rr_iload_n dX10_rule_44 rfl 1 rfl ?_
  refine rr_iload_n dX10_rule_45 rfl 2 rfl ?_
  refine rr_iload_n dX10_rule_46 rfl 3 rfl ?_
  refine rr_iload dX10_rule_47 4 rfl ?_
  refine rr_callI (As := [.int x1, .int x2, .int x3, .int x4]) (b := 56) (rest := [.ref 56, .ref 6]) (tX6_init P S x1 x2 x3 x4) cbX6_init i10_110.1 i10_110.2 rfl rfl rfl ⟨Nat.le_of_ble_eq_true rfl, Nat.le_of_ble_eq_true rfl⟩ (fun _ _ => rfl) rfl rfl (Nat.le_of_ble_eq_true rfl) rfl dX10_rule_49 (fun gg _ => ?_)
  refine rr_callV (As := [.ref 56]) (b := 6) (rest := []) (tX7_add P S (xR4 x1 x2 x3 gg)) v10_113.1 v10_113.2.1 v10_113.2.2.1 v10_113.2.2.2.1 (ci := 7) rfl rfl rfl ⟨Nat.le_of_ble_eq_true rfl, Nat.le_of_ble_eq_true rfl⟩ (fun _ z => z) rfl rfl (Nat.le_of_ble_eq_true rfl) rfl dX10_rule_52 (fun qq _ => ?_)
  exact rr_iret dX10_rule_55 rfl rfl rfl rfl rfl
def fX10_rule (P : rr_T) (S : rr_T) (x1 : Int32) (x2 : Int32) (x3 : Int32) (x4 : Int32) (u : Nat) (v : Nat) : Option (Int32 × rr_T × rr_T × Nat × Nat) :=
  if x1 = 6 then
  JX10_rule_36 P S x1 x2 x3 x4 u v ()
else
  (fX10_namesKnown P S x1 x2 x3 x4).bind (fun r2 =>
    if r2 = 0 then
    some ((-101), P, S, u, v)
  else
    (fX10_sortsFit P S x1 x2 x3 x4).bind (fun r3 =>
      if r3 = 0 then
      some ((-102), P, S, u, v)
    else
      JX10_rule_36 P S x1 x2 x3 x4 u v ()))
set_option maxRecDepth 20000 in
theorem tX10_rule {l : Launch} {G : rr_G} (P : rr_T) (S : rr_T) (x1 : Int32) (x2 : Int32) (x3 : Int32) (x4 : Int32) (u : Nat) (v : Nat) : TT l G mX10_rule 3 69 fxX rvR (fun q => xw q.2.1 q.2.2.1) (fun q => q.2.2.2.1) (fun q => q.2.2.2.2) u v [.ref 0, .int x1, .int x2, .int x3, .int x4] (xw P S) (fX10_rule P S x1 x2 x3 x4 u v) := by
  refine TT.by (by decide) (Nat.le_of_ble_eq_true rfl) (lv := [(0, .ref 0), (1, .int x1), (2, .int x2), (3, .int x3), (4, .int x4)]) rfl ?_
  show RR l G mX10_rule 3 69 fxX rvR (fun q => xw q.2.1 q.2.2.1) (fun q => q.2.2.2.1) (fun q => q.2.2.2.2) u v 0 [(0, .ref 0), (1, .int x1), (2, .int x2), (3, .int x3), (4, .int x4)] [] (xw P S) (fX10_rule P S x1 x2 x3 x4 u v)
  unfold fX10_rule
  refine rr_iload_n dX10_rule_0 rfl 1 rfl ?_
  refine rr_bipush (v := 6) dX10_rule_1 (by decide) ?_
  refine rr_icmp_eq (tgt := 36) dX10_rule_3 (by decide) (fun _ => ?_) (fun _ => ?_)
  · exact tX10_rule_36 P S x1 x2 x3 x4 u v ()
  · refine rr_aload_n dX10_rule_6 rfl 0 rfl ?_
    refine rr_iload_n dX10_rule_7 rfl 1 rfl ?_
    refine rr_iload_n dX10_rule_8 rfl 2 rfl ?_
    refine rr_iload_n dX10_rule_9 rfl 3 rfl ?_
    refine rr_iload dX10_rule_10 4 rfl ?_
    refine rr_vi (As := [.int x1, .int x2, .int x3, .int x4]) (rest := []) (tX10_namesKnown P S x1 x2 x3 x4) v10_101 rfl rfl ⟨Nat.le_of_ble_eq_true rfl, Nat.le_of_ble_eq_true rfl⟩ rfl rfl (Nat.le_of_ble_eq_true rfl) rfl dX10_rule_12 (fun r2 => ?_)
    refine rr_if_ne (tgt := 21) dX10_rule_15 (by decide) (fun _ => ?_) (fun _ => ?_)
    · refine rr_aload_n dX10_rule_21 rfl 0 rfl ?_
      refine rr_iload_n dX10_rule_22 rfl 1 rfl ?_
      refine rr_iload_n dX10_rule_23 rfl 2 rfl ?_
      refine rr_iload_n dX10_rule_24 rfl 3 rfl ?_
      refine rr_iload dX10_rule_25 4 rfl ?_
      refine rr_vi (As := [.int x1, .int x2, .int x3, .int x4]) (rest := []) (tX10_sortsFit P S x1 x2 x3 x4) v10_105 rfl rfl ⟨Nat.le_of_ble_eq_true rfl, Nat.le_of_ble_eq_true rfl⟩ rfl rfl (Nat.le_of_ble_eq_true rfl) rfl dX10_rule_27 (fun r3 => ?_)
      refine rr_if_ne (tgt := 36) dX10_rule_30 (by decide) (fun _ => ?_) (fun _ => ?_)
      · exact tX10_rule_36 P S x1 x2 x3 x4 u v ()
      · refine rr_bipush (v := (-102)) dX10_rule_33 (by decide) ?_
        exact rr_iret dX10_rule_35 rfl rfl rfl rfl rfl
    · refine rr_bipush (v := (-101)) dX10_rule_18 (by decide) ?_
      exact rr_iret dX10_rule_20 rfl rfl rfl rfl rfl
def JX10_step_66 (P : rr_T) (S : rr_T) (x1 : Int32) (x2 : Int32) (x3 : Int32) (x4 : Int32) (x5 : Int32) (u : Nat) (v : Nat) (a3 : Unit) : Option (Int32 × rr_T × rr_T × Nat × Nat) :=
  (some ()).bind (fun gg => (fX4_add P S (xS5 x1 x2 x3 x4 x5)).bind (fun qq =>
  if qq.1 = (-104) then
    some (qq.1, qq.2.1, qq.2.2, (u + 1), (v + 5))
  else
    (fX1_forget qq.2.1 qq.2.2).bind (fun S9 => some (qq.1, qq.2.1, S9, (u + 1), (v + 5)))))
set_option maxRecDepth 20000 in
theorem tX10_step_66 {l : Launch} {G : rr_G} (P : rr_T) (S : rr_T) (x1 : Int32) (x2 : Int32) (x3 : Int32) (x4 : Int32) (x5 : Int32) (u : Nat) (v : Nat) (a3 : Unit) : RR l G mX10_step 2 45 fxX rvR (fun q => xw q.2.1 q.2.2.1) (fun q => q.2.2.2.1) (fun q => q.2.2.2.2) u v 66 [(0, .ref 0), (1, .int x1), (2, .int x2), (3, .int x3), (4, .int x4), (5, .int x5)] [] (xw P S) (JX10_step_66 P S x1 x2 x3 x4 x5 u v a3) := by
  unfold JX10_step_66
  refine rr_aload_n dX10_step_66 rfl 0 rfl ?_
  refine rr_get (v := .ref 8) cl10 k10_26 (Nat.le_of_ble_eq_true rfl) rfl rfl dX10_step_67 ?_
  refine rr_new (fs := [.int 0, .int 0, .int 0, .int 0, .int 0]) 56 cl9 nw9.1 nw9.2.1 nw9.2.2 (fun j hj => by rcases (show j = 0 ∨ j = 1 ∨ j = 2 ∨ j = 3 ∨ j = 4 by omega) with rfl | rfl | rfl | rfl | rfl <;> rfl) (fun k hk => by simp at hk) rfl (x_no56 P S) rfl (rr_n56L rfl) (rr_n56S rfl) dX10_step_70 (h' := xwt P S 9 [.int 0, .int 0, .int 0, .int 0, .int 0]) rfl ?_
  refine rr_dup dX10_step_73 rfl ?_
  refine rr_iload_n dX10_step_74 rfl 1 rfl ?_
  refine rr_iload_n dX10_step_75 rfl 2 rfl ?_
  refine rr_iload_n dX10_step_76 rfl 3 rfl ?_
  refine rr_iload dX10_step_77 4 rfl ?_
  refine rr_iload dX10_step_79 5 rfl ?_
  refine rr_callI (As := [.int x1, .int x2, .int x3, .int x4, .int x5]) (b := 56) (rest := [.ref 56, .ref 8]) (tX9_init P S x1 x2 x3 x4 x5) cbX9_init i10_185.1 i10_185.2 rfl rfl rfl ⟨Nat.le_of_ble_eq_true rfl, Nat.le_of_ble_eq_true rfl⟩ (fun _ _ => rfl) rfl rfl (Nat.le_of_ble_eq_true rfl) rfl dX10_step_81 (fun gg _ => ?_)
  refine rr_callV (As := [.ref 56]) (b := 8) (rest := []) (tX4_add P S (xS5 x1 x2 x3 x4 x5)) v10_188.1 v10_188.2.1 v10_188.2.2.1 v10_188.2.2.2.1 (ci := 4) rfl rfl rfl ⟨Nat.le_of_ble_eq_true rfl, Nat.le_of_ble_eq_true rfl⟩ (fun _ z => z) rfl rfl (Nat.le_of_ble_eq_true rfl) rfl dX10_step_84 (fun qq _ => ?_)
  show RR l G mX10_step 2 45 fxX rvR (fun q => xw q.2.1 q.2.2.1) (fun q => q.2.2.2.1) (fun q => q.2.2.2.2) (u + 1) (v + 5) 87 [(0, .ref 0), (1, .int x1), (2, .int x2), (3, .int x3), (4, .int x4), (5, .int x5)] [.int qq.1] (xw qq.2.1 qq.2.2) _
  refine rr_istore (lv' := [(6, .int qq.1), (0, .ref 0), (1, .int x1), (2, .int x2), (3, .int x3), (4, .int x4), (5, .int x5)]) dX10_step_87 (by decide) rfl ?_
  refine rr_iload dX10_step_89 0 rfl ?_
  refine rr_bipush (v := (-104)) dX10_step_91 (by decide) ?_
  refine rr_icmp_eq (tgt := 103) dX10_step_93 (by decide) (fun _ => ?_) (fun _ => ?_)
  · refine rr_iload dX10_step_103 0 rfl ?_
    exact rr_iret dX10_step_105 rfl rfl rfl rfl rfl
  · refine rr_aload_n dX10_step_96 rfl 1 rfl ?_
    refine rr_get (v := .ref 25) cl10 k10_62 (Nat.le_of_ble_eq_true rfl) rfl rfl dX10_step_97 ?_
    refine rr_vs (W := xw qq.2.1) (As := []) (rest := []) (tX1_forget qq.2.1 qq.2.2) v10_191 rfl rfl ⟨Nat.le_of_ble_eq_true rfl, Nat.le_of_ble_eq_true rfl⟩ (fun _ _ => rfl) rfl rfl (Nat.le_of_ble_eq_true rfl) rfl dX10_step_100 (fun S9 => ?_)
    refine rr_iload dX10_step_103 0 rfl ?_
    exact rr_iret dX10_step_105 rfl rfl rfl rfl rfl
def JX10_step_47 (P : rr_T) (S : rr_T) (x1 : Int32) (x2 : Int32) (x3 : Int32) (x4 : Int32) (x5 : Int32) (u : Nat) (v : Nat) (a2 : Unit) : Option (Int32 × rr_T × rr_T × Nat × Nat) :=
  if x1 = 0 then
  JX10_step_66 P S x1 x2 x3 x4 x5 u v ()
else
  if x5 < 0 then
    some ((-102), P, S, u, v)
  else
    if x5 ≤ 16 then
      JX10_step_66 P S x1 x2 x3 x4 x5 u v ()
    else
      some ((-102), P, S, u, v)
set_option maxRecDepth 20000 in
theorem tX10_step_47 {l : Launch} {G : rr_G} (P : rr_T) (S : rr_T) (x1 : Int32) (x2 : Int32) (x3 : Int32) (x4 : Int32) (x5 : Int32) (u : Nat) (v : Nat) (a2 : Unit) : RR l G mX10_step 2 45 fxX rvR (fun q => xw q.2.1 q.2.2.1) (fun q => q.2.2.2.1) (fun q => q.2.2.2.2) u v 47 [(0, .ref 0), (1, .int x1), (2, .int x2), (3, .int x3), (4, .int x4), (5, .int x5)] [] (xw P S) (JX10_step_47 P S x1 x2 x3 x4 x5 u v a2) := by
  unfold JX10_step_47
  refine rr_iload_n dX10_step_47 rfl 1 rfl ?_
  refine rr_if_eq (tgt := 66) dX10_step_48 (by decide) (fun _ => ?_) (fun _ => ?_)
  · exact tX10_step_66 P S x1 x2 x3 x4 x5 u v ()
  · refine rr_iload dX10_step_51 5 rfl ?_
    refine rr_if_lt (tgt := 63) dX10_step_53 (by decide) (fun _ => ?_) (fun _ => ?_)
    · refine rr_bipush (v := (-102)) dX10_step_63 (by decide) ?_
      exact rr_iret dX10_step_65 rfl rfl rfl rfl rfl
    · refine rr_iload dX10_step_56 5 rfl ?_
      refine rr_bipush (v := 16) dX10_step_58 (by decide) ?_
      refine rr_icmp_le (tgt := 66) dX10_step_60 (by decide) (fun _ => ?_) (fun _ => ?_)
      · exact tX10_step_66 P S x1 x2 x3 x4 x5 u v ()
      · refine rr_bipush (v := (-102)) dX10_step_63 (by decide) ?_
        exact rr_iret dX10_step_65 rfl rfl rfl rfl rfl
def fX10_step (P : rr_T) (S : rr_T) (x1 : Int32) (x2 : Int32) (x3 : Int32) (x4 : Int32) (x5 : Int32) (u : Nat) (v : Nat) : Option (Int32 × rr_T × rr_T × Nat × Nat) :=
  if x1 < 0 then
  some ((-102), P, S, u, v)
else
  if 2 < x1 then
    some ((-102), P, S, u, v)
  else
    (fX10_isVariable x2).bind (fun r1 =>
      if r1 = 0 then
      some ((-102), P, S, u, v)
    else
      if x3 < 0 then
        some ((-102), P, S, u, v)
      else
        if x3 < 4 then
          if x1 = 2 then
            JX10_step_47 P S x1 x2 x3 x4 x5 u v ()
          else
            if x4 < 0 then
              some ((-102), P, S, u, v)
            else
              if x4 ≤ 3 then
                JX10_step_47 P S x1 x2 x3 x4 x5 u v ()
              else
                some ((-102), P, S, u, v)
        else
          some ((-102), P, S, u, v))
set_option maxRecDepth 20000 in
theorem tX10_step {l : Launch} {G : rr_G} (P : rr_T) (S : rr_T) (x1 : Int32) (x2 : Int32) (x3 : Int32) (x4 : Int32) (x5 : Int32) (u : Nat) (v : Nat) : TT l G mX10_step 2 45 fxX rvR (fun q => xw q.2.1 q.2.2.1) (fun q => q.2.2.2.1) (fun q => q.2.2.2.2) u v [.ref 0, .int x1, .int x2, .int x3, .int x4, .int x5] (xw P S) (fX10_step P S x1 x2 x3 x4 x5 u v) := by
  refine TT.by (by decide) (Nat.le_of_ble_eq_true rfl) (lv := [(0, .ref 0), (1, .int x1), (2, .int x2), (3, .int x3), (4, .int x4), (5, .int x5)]) rfl ?_
  show RR l G mX10_step 2 45 fxX rvR (fun q => xw q.2.1 q.2.2.1) (fun q => q.2.2.2.1) (fun q => q.2.2.2.2) u v 0 [(0, .ref 0), (1, .int x1), (2, .int x2), (3, .int x3), (4, .int x4), (5, .int x5)] [] (xw P S) (fX10_step P S x1 x2 x3 x4 x5 u v)
  unfold fX10_step
  refine rr_iload_n dX10_step_0 rfl 1 rfl ?_
  refine rr_if_lt (tgt := 25) dX10_step_1 (by decide) (fun _ => ?_) (fun _ => ?_)
  · refine rr_bipush (v := (-102)) dX10_step_25 (by decide) ?_
    exact rr_iret dX10_step_27 rfl rfl rfl rfl rfl
  · refine rr_iload_n dX10_step_4 rfl 1 rfl ?_
    refine rr_iconst (v := 2) dX10_step_5 (by decide) ?_
    refine rr_icmp_gt (tgt := 25) dX10_step_6 (by decide) (fun _ => ?_) (fun _ => ?_)
    · refine rr_bipush (v := (-102)) dX10_step_25 (by decide) ?_
      exact rr_iret dX10_step_27 rfl rfl rfl rfl rfl
    · refine rr_iload_n dX10_step_9 rfl 2 rfl ?_
      refine rr_si (As := [.int x2]) (rest := []) (tX10_isVariable x2 (xw P S)) s10_180 rfl ⟨Nat.le_of_ble_eq_true rfl, Nat.le_of_ble_eq_true rfl⟩ rfl rfl (Nat.le_of_ble_eq_true rfl) rfl dX10_step_10 (fun r1 => ?_)
      refine rr_if_eq (tgt := 25) dX10_step_13 (by decide) (fun _ => ?_) (fun _ => ?_)
      · refine rr_bipush (v := (-102)) dX10_step_25 (by decide) ?_
        exact rr_iret dX10_step_27 rfl rfl rfl rfl rfl
      · refine rr_iload_n dX10_step_16 rfl 3 rfl ?_
        refine rr_if_lt (tgt := 25) dX10_step_17 (by decide) (fun _ => ?_) (fun _ => ?_)
        · refine rr_bipush (v := (-102)) dX10_step_25 (by decide) ?_
          exact rr_iret dX10_step_27 rfl rfl rfl rfl rfl
        · refine rr_iload_n dX10_step_20 rfl 3 rfl ?_
          refine rr_iconst (v := 4) dX10_step_21 (by decide) ?_
          refine rr_icmp_lt (tgt := 28) dX10_step_22 (by decide) (fun _ => ?_) (fun _ => ?_)
          · refine rr_iload_n dX10_step_28 rfl 1 rfl ?_
            refine rr_iconst (v := 2) dX10_step_29 (by decide) ?_
            refine rr_icmp_eq (tgt := 47) dX10_step_30 (by decide) (fun _ => ?_) (fun _ => ?_)
            · exact tX10_step_47 P S x1 x2 x3 x4 x5 u v ()
            · refine rr_iload dX10_step_33 4 rfl ?_
              refine rr_if_lt (tgt := 44) dX10_step_35 (by decide) (fun _ => ?_) (fun _ => ?_)
              · refine rr_bipush (v := (-102)) dX10_step_44 (by decide) ?_
                exact rr_iret dX10_step_46 rfl rfl rfl rfl rfl
              · refine rr_iload dX10_step_38 4 rfl ?_
                refine rr_iconst (v := 3) dX10_step_40 (by decide) ?_
                refine rr_icmp_le (tgt := 47) dX10_step_41 (by decide) (fun _ => ?_) (fun _ => ?_)
                · exact tX10_step_47 P S x1 x2 x3 x4 x5 u v ()
                · refine rr_bipush (v := (-102)) dX10_step_44 (by decide) ?_
                  exact rr_iret dX10_step_46 rfl rfl rfl rfl rfl
          · refine rr_bipush (v := (-102)) dX10_step_25 (by decide) ?_
            exact rr_iret dX10_step_27 rfl rfl rfl rfl rfl
