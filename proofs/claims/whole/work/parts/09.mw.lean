/-! ===== the reference's world: name 0 its object, names 1.. its rows; S.1 k its field k, S.2.1 n its row n ===== -/
def mF (S : rr_T) : List Value := [.int (S.1 0), .ref 1, .ref 2, .ref 3, .ref 4, .int (S.1 5), .ref 5, .int (S.1 7), .int (S.1 8), .ref 6, .ref 7, .ref 8, .ref 9, .int (S.1 13), .ref 10, .ref 11, .ref 12, .ref 13, .ref 14, .int (S.1 19), .ref 15, .int (S.1 21), .int (S.1 22), .ref 16, .ref 17, .int (S.1 25), .ref 18, .ref 19, .int (S.1 28), .ref 20, .ref 21, .ref 22, .ref 23, .int (S.1 33), .ref 24, .ref 25, .ref 26, .int (S.1 37), .ref 27, .ref 28, .ref 29, .int (S.1 41), .int (S.1 42), .ref 30, .ref 31, .ref 32, .ref 33, .ref 34, .ref 35, .int (S.1 49), .int (S.1 50), .ref 36, .int (S.1 52), .int (S.1 53)]
def mw (S : rr_T) : rr_H := some (.inr (11, mF S)) :: [some (.inl (0, 4, .inl (S.2.1 1))), some (.inl (0, 4, .inl (S.2.1 2))), some (.inl (0, 16, .inl (S.2.1 3))), some (.inl (0, 16, .inl (S.2.1 4))), some (.inl (0, 2, .inl (S.2.1 5))), some (.inl (0, 6, .inl (S.2.1 6))), some (.inl (0, 6, .inl (S.2.1 7))), some (.inl (0, 6, .inl (S.2.1 8))), some (.inl (0, 6, .inl (S.2.1 9))), some (.inl (0, 16, .inl (S.2.1 10))), some (.inl (0, 16, .inl (S.2.1 11))), some (.inl (0, 16, .inl (S.2.1 12))), some (.inl (0, 16, .inl (S.2.1 13))), some (.inl (0, 16, .inl (S.2.1 14))), some (.inl (0, 40, .inl (S.2.1 15))), some (.inl (2, 88000, .inl (S.2.1 16))), some (.inl (2, 4000, .inl (S.2.1 17))), some (.inl (0, 4000, .inl (S.2.1 18))), some (.inl (3, 4000, .inl (S.2.1 19))), some (.inl (2, 80000, .inl (S.2.1 20))), some (.inl (2, 4000, .inl (S.2.1 21))), some (.inl (2, 4000, .inl (S.2.1 22))), some (.inl (2, 4000, .inl (S.2.1 23))), some (.inl (0, 4000, .inl (S.2.1 24))), some (.inl (0, 4000, .inl (S.2.1 25))), some (.inl (0, 41, .inl (S.2.1 26))), some (.inl (0, 5, .inl (S.2.1 27))), some (.inl (0, 2, .inl (S.2.1 28))), some (.inl (0, 20, .inl (S.2.1 29))), some (.inl (3, 25, .inl (S.2.1 30))), some (.inl (0, 4, .inl (S.2.1 31))), some (.inl (3, 4, .inl (S.2.1 32))), some (.inl (3, 2, .inl (S.2.1 33))), some (.inl (3, 20, .inl (S.2.1 34))), some (.inl (0, 5, .inl (S.2.1 35))), some (.inl (0, 20, .inl (S.2.1 36)))]
theorem mp0 (S : rr_T) (v : Int32) : (mw S).set 0 (some (.inr (11, (mF S).set 0 (.int v)))) = mw (pI S 0 v) := rfl
theorem mp5 (S : rr_T) (v : Int32) : (mw S).set 0 (some (.inr (11, (mF S).set 5 (.int v)))) = mw (pI S 5 v) := rfl
theorem mp7 (S : rr_T) (v : Int32) : (mw S).set 0 (some (.inr (11, (mF S).set 7 (.int v)))) = mw (pI S 7 v) := rfl
theorem mp8 (S : rr_T) (v : Int32) : (mw S).set 0 (some (.inr (11, (mF S).set 8 (.int v)))) = mw (pI S 8 v) := rfl
theorem mp13 (S : rr_T) (v : Int32) : (mw S).set 0 (some (.inr (11, (mF S).set 13 (.int v)))) = mw (pI S 13 v) := rfl
theorem mp19 (S : rr_T) (v : Int32) : (mw S).set 0 (some (.inr (11, (mF S).set 19 (.int v)))) = mw (pI S 19 v) := rfl
theorem mp21 (S : rr_T) (v : Int32) : (mw S).set 0 (some (.inr (11, (mF S).set 21 (.int v)))) = mw (pI S 21 v) := rfl
theorem mp22 (S : rr_T) (v : Int32) : (mw S).set 0 (some (.inr (11, (mF S).set 22 (.int v)))) = mw (pI S 22 v) := rfl
theorem mp25 (S : rr_T) (v : Int32) : (mw S).set 0 (some (.inr (11, (mF S).set 25 (.int v)))) = mw (pI S 25 v) := rfl
theorem mp28 (S : rr_T) (v : Int32) : (mw S).set 0 (some (.inr (11, (mF S).set 28 (.int v)))) = mw (pI S 28 v) := rfl
theorem mp33 (S : rr_T) (v : Int32) : (mw S).set 0 (some (.inr (11, (mF S).set 33 (.int v)))) = mw (pI S 33 v) := rfl
theorem mp37 (S : rr_T) (v : Int32) : (mw S).set 0 (some (.inr (11, (mF S).set 37 (.int v)))) = mw (pI S 37 v) := rfl
theorem mp41 (S : rr_T) (v : Int32) : (mw S).set 0 (some (.inr (11, (mF S).set 41 (.int v)))) = mw (pI S 41 v) := rfl
theorem mp42 (S : rr_T) (v : Int32) : (mw S).set 0 (some (.inr (11, (mF S).set 42 (.int v)))) = mw (pI S 42 v) := rfl
theorem mp49 (S : rr_T) (v : Int32) : (mw S).set 0 (some (.inr (11, (mF S).set 49 (.int v)))) = mw (pI S 49 v) := rfl
theorem mp50 (S : rr_T) (v : Int32) : (mw S).set 0 (some (.inr (11, (mF S).set 50 (.int v)))) = mw (pI S 50 v) := rfl
theorem mp52 (S : rr_T) (v : Int32) : (mw S).set 0 (some (.inr (11, (mF S).set 52 (.int v)))) = mw (pI S 52 v) := rfl
theorem mp53 (S : rr_T) (v : Int32) : (mw S).set 0 (some (.inr (11, (mF S).set 53 (.int v)))) = mw (pI S 53 v) := rfl
theorem ma1 (S : rr_T) (i v : Int32) : (mw S).set 1 (some (.inl (0, 4, .inl (upd (S.2.1 1) i.toNatClampNeg v)))) = mw (pA S 1 i v) := rfl
theorem ma2 (S : rr_T) (i v : Int32) : (mw S).set 2 (some (.inl (0, 4, .inl (upd (S.2.1 2) i.toNatClampNeg v)))) = mw (pA S 2 i v) := rfl
theorem ma3 (S : rr_T) (i v : Int32) : (mw S).set 3 (some (.inl (0, 16, .inl (upd (S.2.1 3) i.toNatClampNeg v)))) = mw (pA S 3 i v) := rfl
theorem ma4 (S : rr_T) (i v : Int32) : (mw S).set 4 (some (.inl (0, 16, .inl (upd (S.2.1 4) i.toNatClampNeg v)))) = mw (pA S 4 i v) := rfl
theorem ma5 (S : rr_T) (i v : Int32) : (mw S).set 5 (some (.inl (0, 2, .inl (upd (S.2.1 5) i.toNatClampNeg v)))) = mw (pA S 5 i v) := rfl
theorem ma6 (S : rr_T) (i v : Int32) : (mw S).set 6 (some (.inl (0, 6, .inl (upd (S.2.1 6) i.toNatClampNeg v)))) = mw (pA S 6 i v) := rfl
theorem ma7 (S : rr_T) (i v : Int32) : (mw S).set 7 (some (.inl (0, 6, .inl (upd (S.2.1 7) i.toNatClampNeg v)))) = mw (pA S 7 i v) := rfl
theorem ma8 (S : rr_T) (i v : Int32) : (mw S).set 8 (some (.inl (0, 6, .inl (upd (S.2.1 8) i.toNatClampNeg v)))) = mw (pA S 8 i v) := rfl
theorem ma9 (S : rr_T) (i v : Int32) : (mw S).set 9 (some (.inl (0, 6, .inl (upd (S.2.1 9) i.toNatClampNeg v)))) = mw (pA S 9 i v) := rfl
theorem ma10 (S : rr_T) (i v : Int32) : (mw S).set 10 (some (.inl (0, 16, .inl (upd (S.2.1 10) i.toNatClampNeg v)))) = mw (pA S 10 i v) := rfl
theorem ma11 (S : rr_T) (i v : Int32) : (mw S).set 11 (some (.inl (0, 16, .inl (upd (S.2.1 11) i.toNatClampNeg v)))) = mw (pA S 11 i v) := rfl
theorem ma12 (S : rr_T) (i v : Int32) : (mw S).set 12 (some (.inl (0, 16, .inl (upd (S.2.1 12) i.toNatClampNeg v)))) = mw (pA S 12 i v) := rfl
theorem ma13 (S : rr_T) (i v : Int32) : (mw S).set 13 (some (.inl (0, 16, .inl (upd (S.2.1 13) i.toNatClampNeg v)))) = mw (pA S 13 i v) := rfl
theorem ma14 (S : rr_T) (i v : Int32) : (mw S).set 14 (some (.inl (0, 16, .inl (upd (S.2.1 14) i.toNatClampNeg v)))) = mw (pA S 14 i v) := rfl
theorem ma15 (S : rr_T) (i v : Int32) : (mw S).set 15 (some (.inl (0, 40, .inl (upd (S.2.1 15) i.toNatClampNeg v)))) = mw (pA S 15 i v) := rfl
theorem ma16 (S : rr_T) (i v : Int32) : (mw S).set 16 (some (.inl (2, 88000, .inl (upd (S.2.1 16) i.toNatClampNeg (vp_nar .byte v))))) = mw (pA S 16 i (vp_nar .byte v)) := rfl
theorem ma17 (S : rr_T) (i v : Int32) : (mw S).set 17 (some (.inl (2, 4000, .inl (upd (S.2.1 17) i.toNatClampNeg (vp_nar .byte v))))) = mw (pA S 17 i (vp_nar .byte v)) := rfl
theorem ma18 (S : rr_T) (i v : Int32) : (mw S).set 18 (some (.inl (0, 4000, .inl (upd (S.2.1 18) i.toNatClampNeg v)))) = mw (pA S 18 i v) := rfl
theorem ma19 (S : rr_T) (i v : Int32) : (mw S).set 19 (some (.inl (3, 4000, .inl (upd (S.2.1 19) i.toNatClampNeg (vp_nar .boolean v))))) = mw (pA S 19 i (vp_nar .boolean v)) := rfl
theorem ma20 (S : rr_T) (i v : Int32) : (mw S).set 20 (some (.inl (2, 80000, .inl (upd (S.2.1 20) i.toNatClampNeg (vp_nar .byte v))))) = mw (pA S 20 i (vp_nar .byte v)) := rfl
theorem ma21 (S : rr_T) (i v : Int32) : (mw S).set 21 (some (.inl (2, 4000, .inl (upd (S.2.1 21) i.toNatClampNeg (vp_nar .byte v))))) = mw (pA S 21 i (vp_nar .byte v)) := rfl
theorem ma22 (S : rr_T) (i v : Int32) : (mw S).set 22 (some (.inl (2, 4000, .inl (upd (S.2.1 22) i.toNatClampNeg (vp_nar .byte v))))) = mw (pA S 22 i (vp_nar .byte v)) := rfl
theorem ma23 (S : rr_T) (i v : Int32) : (mw S).set 23 (some (.inl (2, 4000, .inl (upd (S.2.1 23) i.toNatClampNeg (vp_nar .byte v))))) = mw (pA S 23 i (vp_nar .byte v)) := rfl
theorem ma24 (S : rr_T) (i v : Int32) : (mw S).set 24 (some (.inl (0, 4000, .inl (upd (S.2.1 24) i.toNatClampNeg v)))) = mw (pA S 24 i v) := rfl
theorem ma25 (S : rr_T) (i v : Int32) : (mw S).set 25 (some (.inl (0, 4000, .inl (upd (S.2.1 25) i.toNatClampNeg v)))) = mw (pA S 25 i v) := rfl
theorem ma26 (S : rr_T) (i v : Int32) : (mw S).set 26 (some (.inl (0, 41, .inl (upd (S.2.1 26) i.toNatClampNeg v)))) = mw (pA S 26 i v) := rfl
theorem ma27 (S : rr_T) (i v : Int32) : (mw S).set 27 (some (.inl (0, 5, .inl (upd (S.2.1 27) i.toNatClampNeg v)))) = mw (pA S 27 i v) := rfl
theorem ma28 (S : rr_T) (i v : Int32) : (mw S).set 28 (some (.inl (0, 2, .inl (upd (S.2.1 28) i.toNatClampNeg v)))) = mw (pA S 28 i v) := rfl
theorem ma29 (S : rr_T) (i v : Int32) : (mw S).set 29 (some (.inl (0, 20, .inl (upd (S.2.1 29) i.toNatClampNeg v)))) = mw (pA S 29 i v) := rfl
theorem ma30 (S : rr_T) (i v : Int32) : (mw S).set 30 (some (.inl (3, 25, .inl (upd (S.2.1 30) i.toNatClampNeg (vp_nar .boolean v))))) = mw (pA S 30 i (vp_nar .boolean v)) := rfl
theorem ma31 (S : rr_T) (i v : Int32) : (mw S).set 31 (some (.inl (0, 4, .inl (upd (S.2.1 31) i.toNatClampNeg v)))) = mw (pA S 31 i v) := rfl
theorem ma32 (S : rr_T) (i v : Int32) : (mw S).set 32 (some (.inl (3, 4, .inl (upd (S.2.1 32) i.toNatClampNeg (vp_nar .boolean v))))) = mw (pA S 32 i (vp_nar .boolean v)) := rfl
theorem ma33 (S : rr_T) (i v : Int32) : (mw S).set 33 (some (.inl (3, 2, .inl (upd (S.2.1 33) i.toNatClampNeg (vp_nar .boolean v))))) = mw (pA S 33 i (vp_nar .boolean v)) := rfl
theorem ma34 (S : rr_T) (i v : Int32) : (mw S).set 34 (some (.inl (3, 20, .inl (upd (S.2.1 34) i.toNatClampNeg (vp_nar .boolean v))))) = mw (pA S 34 i (vp_nar .boolean v)) := rfl
theorem ma35 (S : rr_T) (i v : Int32) : (mw S).set 35 (some (.inl (0, 5, .inl (upd (S.2.1 35) i.toNatClampNeg v)))) = mw (pA S 35 i v) := rfl
theorem ma36 (S : rr_T) (i v : Int32) : (mw S).set 36 (some (.inl (0, 20, .inl (upd (S.2.1 36) i.toNatClampNeg v)))) = mw (pA S 36 i v) := rfl
