/-! ===== the class's world. P: the rules and steps that were made (P.1 (16 n + k): field k of the object n; P.2.2.2 34, 40: how many); S: all else (S.1 (16 n + k), S.2.1 n, S.2.2.1 n, S.2.2.2 n: fields, rows, long rows, lengths) ===== -/
def xRl (P : rr_T) : Nat → Option Nat := fun i => if i < P.2.2.2 34 ∧ i < 6 then some (34 + i) else none
def xSl (P : rr_T) : Nat → Option Nat := fun i => if i < P.2.2.2 40 ∧ i < 16 then some (40 + i) else none
def xRf (P : rr_T) (r : Nat) : List Value := [.int (P.1 (16 * r)), .int (P.1 (16 * r + 1)), .int (P.1 (16 * r + 2)), .int (P.1 (16 * r + 3))]
def xSf (P : rr_T) (r : Nat) : List Value := [.int (P.1 (16 * r)), .int (P.1 (16 * r + 1)), .int (P.1 (16 * r + 2)), .int (P.1 (16 * r + 3)), .int (P.1 (16 * r + 4))]
def xF0 (S : rr_T) : List Value := [.ref 1, .ref 6, .ref 8, .ref 10, .ref 17, .ref 21, .ref 25, .ref 33, .int (S.1 8)]
def xF1 (S : rr_T) : List Value := [.ref 2, .ref 3, .ref 4, .ref 5, .int (S.1 20), .int (S.1 21), .int (S.1 22)]
def xF6 (S : rr_T) : List Value := [.ref 7, .int (S.1 97)]
def xF8 (S : rr_T) : List Value := [.ref 9, .int (S.1 129)]
def xF10 (S : rr_T) : List Value := [.ref 1, .ref 11, .ref 12, .ref 13, .ref 14, .ref 15, .ref 16, .int (S.1 167), .int (S.1 168), .int (S.1 169), .int (S.1 170)]
def xF17 (S : rr_T) : List Value := [.ref 10, .ref 6, .ref 18, .int (S.1 275), .ref 20, .int (S.1 277), .int (S.1 278)]
def xF18 (S : rr_T) : List Value := [.ref 19, .int (S.1 289)]
def xF21 (S : rr_T) : List Value := [.ref 10, .ref 22, .ref 23, .ref 24, .int (S.1 340), .int (S.1 341), .int (S.1 342), .int (S.1 343), .int (S.1 344), .int (S.1 345)]
def xF25 (S : rr_T) : List Value := [.ref 17, .ref 21, .ref 26, .ref 28, .ref 29, .ref 30, .ref 31, .ref 32, .int (S.1 408), .int (S.1 409)]
def xF26 (S : rr_T) : List Value := [.ref 27, .int (S.1 417)]
def xw (P S : rr_T) : rr_H := [some (.inr (10, xF0 S)), some (.inr (8, xF1 S)), some (.inl (0, 4, .inl (S.2.1 2))), some (.inl (0, 4, .inl (S.2.1 3))), some (.inl (0, 16, .inl (S.2.1 4))), some (.inl (0, 2, .inl (S.2.1 5))), some (.inr (7, xF6 S)), some (.inl (4, 6, .inr (.inr (.inr (.inr (xRl P)))))), some (.inr (4, xF8 S)), some (.inl (5, 16, .inr (.inr (.inr (.inr (xSl P)))))), some (.inr (2, xF10 S)), some (.inl (0, 5, .inl (S.2.1 11))), some (.inl (0, 22, .inl (S.2.1 12))), some (.inl (0, 22, .inl (S.2.1 13))), some (.inl (0, 22, .inl (S.2.1 14))), some (.inl (0, 22, .inl (S.2.1 15))), some (.inl (0, 22, .inl (S.2.1 16))), some (.inr (0, xF17 S)), some (.inr (5, xF18 S)), some (.inl (1, (S.2.2.2 19), .inr (.inl (S.2.2.1 19)))), some (.inl (0, (S.2.2.2 20), .inl (S.2.1 20))), some (.inr (3, xF21 S)), some (.inl (0, 4, .inl (S.2.1 22))), some (.inl (0, 5, .inl (S.2.1 23))), some (.inl (0, 22, .inl (S.2.1 24))), some (.inr (1, xF25 S)), some (.inr (5, xF26 S)), some (.inl (1, (S.2.2.2 27), .inr (.inl (S.2.2.1 27)))), some (.inl (0, (S.2.2.2 28), .inl (S.2.1 28))), some (.inl (0, (S.2.2.2 29), .inl (S.2.1 29))), some (.inl (0, (S.2.2.2 30), .inl (S.2.1 30))), some (.inl (0, (S.2.2.2 31), .inl (S.2.1 31))), some (.inl (0, (S.2.2.2 32), .inl (S.2.1 32))), some (.inl (0, 40, .inl (S.2.1 33))), (if 0 < P.2.2.2 34 then some (.inr (6, xRf P 34)) else none), (if 1 < P.2.2.2 34 then some (.inr (6, xRf P 35)) else none), (if 2 < P.2.2.2 34 then some (.inr (6, xRf P 36)) else none), (if 3 < P.2.2.2 34 then some (.inr (6, xRf P 37)) else none), (if 4 < P.2.2.2 34 then some (.inr (6, xRf P 38)) else none), (if 5 < P.2.2.2 34 then some (.inr (6, xRf P 39)) else none), (if 0 < P.2.2.2 40 then some (.inr (9, xSf P 40)) else none), (if 1 < P.2.2.2 40 then some (.inr (9, xSf P 41)) else none), (if 2 < P.2.2.2 40 then some (.inr (9, xSf P 42)) else none), (if 3 < P.2.2.2 40 then some (.inr (9, xSf P 43)) else none), (if 4 < P.2.2.2 40 then some (.inr (9, xSf P 44)) else none), (if 5 < P.2.2.2 40 then some (.inr (9, xSf P 45)) else none), (if 6 < P.2.2.2 40 then some (.inr (9, xSf P 46)) else none), (if 7 < P.2.2.2 40 then some (.inr (9, xSf P 47)) else none), (if 8 < P.2.2.2 40 then some (.inr (9, xSf P 48)) else none), (if 9 < P.2.2.2 40 then some (.inr (9, xSf P 49)) else none), (if 10 < P.2.2.2 40 then some (.inr (9, xSf P 50)) else none), (if 11 < P.2.2.2 40 then some (.inr (9, xSf P 51)) else none), (if 12 < P.2.2.2 40 then some (.inr (9, xSf P 52)) else none), (if 13 < P.2.2.2 40 then some (.inr (9, xSf P 53)) else none), (if 14 < P.2.2.2 40 then some (.inr (9, xSf P 54)) else none), (if 15 < P.2.2.2 40 then some (.inr (9, xSf P 55)) else none), none]
theorem xp0_8 (P S : rr_T) (v : Int32) : (xw P S).set 0 (some (.inr (10, (xF0 S).set 8 (.int v)))) = xw P (pI S 8 v) := rfl
theorem xp1_4 (P S : rr_T) (v : Int32) : (xw P S).set 1 (some (.inr (8, (xF1 S).set 4 (.int v)))) = xw P (pI S 20 v) := rfl
theorem xp1_5 (P S : rr_T) (v : Int32) : (xw P S).set 1 (some (.inr (8, (xF1 S).set 5 (.int v)))) = xw P (pI S 21 v) := rfl
theorem xp1_6 (P S : rr_T) (v : Int32) : (xw P S).set 1 (some (.inr (8, (xF1 S).set 6 (.int v)))) = xw P (pI S 22 v) := rfl
theorem xp6_1 (P S : rr_T) (v : Int32) : (xw P S).set 6 (some (.inr (7, (xF6 S).set 1 (.int v)))) = xw P (pI S 97 v) := rfl
theorem xp8_1 (P S : rr_T) (v : Int32) : (xw P S).set 8 (some (.inr (4, (xF8 S).set 1 (.int v)))) = xw P (pI S 129 v) := rfl
theorem xp10_7 (P S : rr_T) (v : Int32) : (xw P S).set 10 (some (.inr (2, (xF10 S).set 7 (.int v)))) = xw P (pI S 167 v) := rfl
theorem xp10_8 (P S : rr_T) (v : Int32) : (xw P S).set 10 (some (.inr (2, (xF10 S).set 8 (.int v)))) = xw P (pI S 168 v) := rfl
theorem xp10_9 (P S : rr_T) (v : Int32) : (xw P S).set 10 (some (.inr (2, (xF10 S).set 9 (.int v)))) = xw P (pI S 169 v) := rfl
theorem xp10_10 (P S : rr_T) (v : Int32) : (xw P S).set 10 (some (.inr (2, (xF10 S).set 10 (.int v)))) = xw P (pI S 170 v) := rfl
theorem xp17_3 (P S : rr_T) (v : Int32) : (xw P S).set 17 (some (.inr (0, (xF17 S).set 3 (.int v)))) = xw P (pI S 275 v) := rfl
theorem xp17_5 (P S : rr_T) (v : Int32) : (xw P S).set 17 (some (.inr (0, (xF17 S).set 5 (.int v)))) = xw P (pI S 277 v) := rfl
theorem xp17_6 (P S : rr_T) (v : Int32) : (xw P S).set 17 (some (.inr (0, (xF17 S).set 6 (.int v)))) = xw P (pI S 278 v) := rfl
theorem xp18_1 (P S : rr_T) (v : Int32) : (xw P S).set 18 (some (.inr (5, (xF18 S).set 1 (.int v)))) = xw P (pI S 289 v) := rfl
theorem xp21_4 (P S : rr_T) (v : Int32) : (xw P S).set 21 (some (.inr (3, (xF21 S).set 4 (.int v)))) = xw P (pI S 340 v) := rfl
theorem xp21_5 (P S : rr_T) (v : Int32) : (xw P S).set 21 (some (.inr (3, (xF21 S).set 5 (.int v)))) = xw P (pI S 341 v) := rfl
theorem xp21_6 (P S : rr_T) (v : Int32) : (xw P S).set 21 (some (.inr (3, (xF21 S).set 6 (.int v)))) = xw P (pI S 342 v) := rfl
theorem xp21_7 (P S : rr_T) (v : Int32) : (xw P S).set 21 (some (.inr (3, (xF21 S).set 7 (.int v)))) = xw P (pI S 343 v) := rfl
theorem xp21_8 (P S : rr_T) (v : Int32) : (xw P S).set 21 (some (.inr (3, (xF21 S).set 8 (.int v)))) = xw P (pI S 344 v) := rfl
theorem xp21_9 (P S : rr_T) (v : Int32) : (xw P S).set 21 (some (.inr (3, (xF21 S).set 9 (.int v)))) = xw P (pI S 345 v) := rfl
theorem xp25_8 (P S : rr_T) (v : Int32) : (xw P S).set 25 (some (.inr (1, (xF25 S).set 8 (.int v)))) = xw P (pI S 408 v) := rfl
theorem xp25_9 (P S : rr_T) (v : Int32) : (xw P S).set 25 (some (.inr (1, (xF25 S).set 9 (.int v)))) = xw P (pI S 409 v) := rfl
theorem xp26_1 (P S : rr_T) (v : Int32) : (xw P S).set 26 (some (.inr (5, (xF26 S).set 1 (.int v)))) = xw P (pI S 417 v) := rfl
theorem xa2 (P S : rr_T) (i v : Int32) : (xw P S).set 2 (some (.inl (0, 4, .inl (upd (S.2.1 2) i.toNatClampNeg v)))) = xw P (pA S 2 i v) := rfl
theorem xa3 (P S : rr_T) (i v : Int32) : (xw P S).set 3 (some (.inl (0, 4, .inl (upd (S.2.1 3) i.toNatClampNeg v)))) = xw P (pA S 3 i v) := rfl
theorem xa4 (P S : rr_T) (i v : Int32) : (xw P S).set 4 (some (.inl (0, 16, .inl (upd (S.2.1 4) i.toNatClampNeg v)))) = xw P (pA S 4 i v) := rfl
theorem xa5 (P S : rr_T) (i v : Int32) : (xw P S).set 5 (some (.inl (0, 2, .inl (upd (S.2.1 5) i.toNatClampNeg v)))) = xw P (pA S 5 i v) := rfl
theorem xa11 (P S : rr_T) (i v : Int32) : (xw P S).set 11 (some (.inl (0, 5, .inl (upd (S.2.1 11) i.toNatClampNeg v)))) = xw P (pA S 11 i v) := rfl
theorem xa12 (P S : rr_T) (i v : Int32) : (xw P S).set 12 (some (.inl (0, 22, .inl (upd (S.2.1 12) i.toNatClampNeg v)))) = xw P (pA S 12 i v) := rfl
theorem xa13 (P S : rr_T) (i v : Int32) : (xw P S).set 13 (some (.inl (0, 22, .inl (upd (S.2.1 13) i.toNatClampNeg v)))) = xw P (pA S 13 i v) := rfl
theorem xa14 (P S : rr_T) (i v : Int32) : (xw P S).set 14 (some (.inl (0, 22, .inl (upd (S.2.1 14) i.toNatClampNeg v)))) = xw P (pA S 14 i v) := rfl
theorem xa15 (P S : rr_T) (i v : Int32) : (xw P S).set 15 (some (.inl (0, 22, .inl (upd (S.2.1 15) i.toNatClampNeg v)))) = xw P (pA S 15 i v) := rfl
theorem xa16 (P S : rr_T) (i v : Int32) : (xw P S).set 16 (some (.inl (0, 22, .inl (upd (S.2.1 16) i.toNatClampNeg v)))) = xw P (pA S 16 i v) := rfl
theorem xa19 (P S : rr_T) (i : Int32) (v : Int64) : (xw P S).set 19 (some (.inl (1, (S.2.2.2 19), .inr (.inl (vp_updL (S.2.2.1 19) i.toNatClampNeg v))))) = xw P (pL S 19 i v) := rfl
theorem xa20 (P S : rr_T) (i v : Int32) : (xw P S).set 20 (some (.inl (0, (S.2.2.2 20), .inl (upd (S.2.1 20) i.toNatClampNeg v)))) = xw P (pA S 20 i v) := rfl
theorem xa22 (P S : rr_T) (i v : Int32) : (xw P S).set 22 (some (.inl (0, 4, .inl (upd (S.2.1 22) i.toNatClampNeg v)))) = xw P (pA S 22 i v) := rfl
theorem xa23 (P S : rr_T) (i v : Int32) : (xw P S).set 23 (some (.inl (0, 5, .inl (upd (S.2.1 23) i.toNatClampNeg v)))) = xw P (pA S 23 i v) := rfl
theorem xa24 (P S : rr_T) (i v : Int32) : (xw P S).set 24 (some (.inl (0, 22, .inl (upd (S.2.1 24) i.toNatClampNeg v)))) = xw P (pA S 24 i v) := rfl
theorem xa27 (P S : rr_T) (i : Int32) (v : Int64) : (xw P S).set 27 (some (.inl (1, (S.2.2.2 27), .inr (.inl (vp_updL (S.2.2.1 27) i.toNatClampNeg v))))) = xw P (pL S 27 i v) := rfl
theorem xa28 (P S : rr_T) (i v : Int32) : (xw P S).set 28 (some (.inl (0, (S.2.2.2 28), .inl (upd (S.2.1 28) i.toNatClampNeg v)))) = xw P (pA S 28 i v) := rfl
theorem xa29 (P S : rr_T) (i v : Int32) : (xw P S).set 29 (some (.inl (0, (S.2.2.2 29), .inl (upd (S.2.1 29) i.toNatClampNeg v)))) = xw P (pA S 29 i v) := rfl
theorem xa30 (P S : rr_T) (i v : Int32) : (xw P S).set 30 (some (.inl (0, (S.2.2.2 30), .inl (upd (S.2.1 30) i.toNatClampNeg v)))) = xw P (pA S 30 i v) := rfl
theorem xa31 (P S : rr_T) (i v : Int32) : (xw P S).set 31 (some (.inl (0, (S.2.2.2 31), .inl (upd (S.2.1 31) i.toNatClampNeg v)))) = xw P (pA S 31 i v) := rfl
theorem xa32 (P S : rr_T) (i v : Int32) : (xw P S).set 32 (some (.inl (0, (S.2.2.2 32), .inl (upd (S.2.1 32) i.toNatClampNeg v)))) = xw P (pA S 32 i v) := rfl
theorem xa33 (P S : rr_T) (i v : Int32) : (xw P S).set 33 (some (.inl (0, 40, .inl (upd (S.2.1 33) i.toNatClampNeg v)))) = xw P (pA S 33 i v) := rfl
theorem xR_at {P S : rr_T} {r : Nat} (h : 34 ≤ r ∧ r < 34 + P.2.2.2 34 ∧ r < 40) : (xw P S)[r]? = some (some (.inr (6, xRf P r))) := by
  obtain ⟨h1, h2, h3⟩ := h
  rcases (show r = 34 ∨ r = 35 ∨ r = 36 ∨ r = 37 ∨ r = 38 ∨ r = 39 by omega) with rfl | rfl | rfl | rfl | rfl | rfl
  · exact congrArg some (if_pos (by omega : 0 < P.2.2.2 34))
  · exact congrArg some (if_pos (by omega : 1 < P.2.2.2 34))
  · exact congrArg some (if_pos (by omega : 2 < P.2.2.2 34))
  · exact congrArg some (if_pos (by omega : 3 < P.2.2.2 34))
  · exact congrArg some (if_pos (by omega : 4 < P.2.2.2 34))
  · exact congrArg some (if_pos (by omega : 5 < P.2.2.2 34))
theorem xS_at {P S : rr_T} {r : Nat} (h : 40 ≤ r ∧ r < 40 + P.2.2.2 40 ∧ r < 56) : (xw P S)[r]? = some (some (.inr (9, xSf P r))) := by
  obtain ⟨h1, h2, h3⟩ := h
  rcases (show r = 40 ∨ r = 41 ∨ r = 42 ∨ r = 43 ∨ r = 44 ∨ r = 45 ∨ r = 46 ∨ r = 47 ∨ r = 48 ∨ r = 49 ∨ r = 50 ∨ r = 51 ∨ r = 52 ∨ r = 53 ∨ r = 54 ∨ r = 55 by omega) with rfl | rfl | rfl | rfl | rfl | rfl | rfl | rfl | rfl | rfl | rfl | rfl | rfl | rfl | rfl | rfl
  · exact congrArg some (if_pos (by omega : 0 < P.2.2.2 40))
  · exact congrArg some (if_pos (by omega : 1 < P.2.2.2 40))
  · exact congrArg some (if_pos (by omega : 2 < P.2.2.2 40))
  · exact congrArg some (if_pos (by omega : 3 < P.2.2.2 40))
  · exact congrArg some (if_pos (by omega : 4 < P.2.2.2 40))
  · exact congrArg some (if_pos (by omega : 5 < P.2.2.2 40))
  · exact congrArg some (if_pos (by omega : 6 < P.2.2.2 40))
  · exact congrArg some (if_pos (by omega : 7 < P.2.2.2 40))
  · exact congrArg some (if_pos (by omega : 8 < P.2.2.2 40))
  · exact congrArg some (if_pos (by omega : 9 < P.2.2.2 40))
  · exact congrArg some (if_pos (by omega : 10 < P.2.2.2 40))
  · exact congrArg some (if_pos (by omega : 11 < P.2.2.2 40))
  · exact congrArg some (if_pos (by omega : 12 < P.2.2.2 40))
  · exact congrArg some (if_pos (by omega : 13 < P.2.2.2 40))
  · exact congrArg some (if_pos (by omega : 14 < P.2.2.2 40))
  · exact congrArg some (if_pos (by omega : 15 < P.2.2.2 40))
