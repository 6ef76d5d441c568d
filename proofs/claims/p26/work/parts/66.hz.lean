/-! the whole heap by its numbers: int fields, int and byte arrays, long arrays -/
noncomputable def uF (F : Nat → Nat → Int32) (k j : Nat) (v : Int32) : Nat → Nat → Int32 := fun a b => cond (Nat.beq a k && Nat.beq b j) v (F a b)
noncomputable def uA (A : Nat → List Int32) (k : Nat) (l : List Int32) : Nat → List Int32 := fun a => cond (Nat.beq a k) l (A a)
noncomputable def uL (L : Nat → List Int64) (k : Nat) (l : List Int64) : Nat → List Int64 := fun a => cond (Nat.beq a k) l (L a)
noncomputable def hz_f0 (F : Nat → Nat → Int32) : List Value := [.ref 1, .ref 3, .ref 12, .ref 21, .ref 30, .ref 43, .ref 52, .ref 62, .ref 63, .ref 65, .ref 66, .int (F 0 11)]
noncomputable def hz_f1 (F : Nat → Nat → Int32) : List Value := [.ref 2, .int (F 1 1), .int (F 1 2), .int (F 1 3), .int (F 1 4)]
noncomputable def hz_f3 (F : Nat → Nat → Int32) : List Value := [.int (F 3 0), .int (F 3 1), .int (F 3 2), .int (F 3 3), .int (F 3 4), .int (F 3 5), .int (F 3 6), .ref 4, .ref 5, .ref 6, .ref 7, .ref 8, .ref 9, .ref 10, .ref 11]
noncomputable def hz_f12 (F : Nat → Nat → Int32) : List Value := [.int (F 12 0), .int (F 12 1), .int (F 12 2), .int (F 12 3), .int (F 12 4), .int (F 12 5), .int (F 12 6), .ref 13, .ref 14, .ref 15, .ref 16, .ref 17, .ref 18, .ref 19, .ref 20]
noncomputable def hz_f21 (F : Nat → Nat → Int32) : List Value := [.int (F 21 0), .int (F 21 1), .int (F 21 2), .int (F 21 3), .int (F 21 4), .int (F 21 5), .int (F 21 6), .ref 22, .ref 23, .ref 24, .ref 25, .ref 26, .ref 27, .ref 28, .ref 29]
noncomputable def hz_f30 (F : Nat → Nat → Int32) : List Value := [.ref 3, .ref 31, .ref 32, .ref 33, .ref 34, .ref 35, .ref 36, .ref 37, .ref 38, .ref 39, .ref 40, .ref 41, .ref 42]
noncomputable def hz_f43 (F : Nat → Nat → Int32) : List Value := [.int (F 43 0), .int (F 43 1), .ref 44, .ref 45, .ref 46, .ref 47, .ref 48, .ref 49, .ref 50, .ref 51, .int (F 43 10)]
noncomputable def hz_f52 (F : Nat → Nat → Int32) : List Value := [.ref 1, .ref 53, .int (F 52 2)]
noncomputable def hz_f53 (F : Nat → Nat → Int32) : List Value := [.int (F 53 0), .int (F 53 1), .ref 54, .ref 55, .ref 56, .ref 57, .ref 58, .ref 59, .ref 60, .ref 61, .int (F 53 10)]
noncomputable def hz_f62 (F : Nat → Nat → Int32) : List Value := [.ref 1, .ref 30]
noncomputable def hz_f63 (F : Nat → Nat → Int32) : List Value := [.ref 43, .ref 64, .int (F 63 2), .int (F 63 3)]
noncomputable def hz_f67 (F : Nat → Nat → Int32) : List Value := [.ref 68, .ref 69, .ref 70, .int (F 67 3), .int (F 67 4), .int (F 67 5), .int (F 67 6), .ref 71, .int (F 67 8), .int (F 67 9), .int (F 67 10), .int (F 67 11), .int (F 67 12), .int (F 67 13), .int (F 67 14), .int (F 67 15), .int (F 67 16), .int (F 67 17), .ref 72, .ref 73, .ref 74, .ref 75, .ref 76, .ref 77, .ref 78, .ref 79, .ref 80, .ref 81, .ref 82, .ref 83, .ref 84, .ref 85, .int (F 67 32), .int (F 67 33), .ref 86, .ref 87, .ref 88, .ref 89, .ref 90, .ref 91, .ref 92, .ref 93, .ref 94, .ref 95, .ref 96, .ref 97, .ref 98]
noncomputable def hz (F : Nat → Nat → Int32) (A : Nat → List Int32) (L : Nat → List Int64) : sm_H := [.inr (7, hz_f0 F), .inr (5, hz_f1 F), .inl (0, .inl (A 2)), .inr (4, hz_f3 F), .inl (0, .inl (A 4)), .inl (0, .inl (A 5)), .inl (0, .inl (A 6)), .inl (0, .inl (A 7)), .inl (0, .inl (A 8)), .inl (0, .inl (A 9)), .inl (0, .inl (A 10)), .inl (1, .inr (L 11)), .inr (4, hz_f12 F), .inl (0, .inl (A 13)), .inl (0, .inl (A 14)), .inl (0, .inl (A 15)), .inl (0, .inl (A 16)), .inl (0, .inl (A 17)), .inl (0, .inl (A 18)), .inl (0, .inl (A 19)), .inl (1, .inr (L 20)), .inr (4, hz_f21 F), .inl (0, .inl (A 22)), .inl (0, .inl (A 23)), .inl (0, .inl (A 24)), .inl (0, .inl (A 25)), .inl (0, .inl (A 26)), .inl (0, .inl (A 27)), .inl (0, .inl (A 28)), .inl (1, .inr (L 29)), .inr (6, hz_f30 F), .inl (0, .inl (A 31)), .inl (0, .inl (A 32)), .inl (0, .inl (A 33)), .inl (0, .inl (A 34)), .inl (0, .inl (A 35)), .inl (0, .inl (A 36)), .inl (0, .inl (A 37)), .inl (0, .inl (A 38)), .inl (0, .inl (A 39)), .inl (0, .inl (A 40)), .inl (0, .inl (A 41)), .inl (0, .inl (A 42)), .inr (1, hz_f43 F), .inl (0, .inl (A 44)), .inl (0, .inl (A 45)), .inl (0, .inl (A 46)), .inl (0, .inl (A 47)), .inl (0, .inl (A 48)), .inl (0, .inl (A 49)), .inl (0, .inl (A 50)), .inl (0, .inl (A 51)), .inr (2, hz_f52 F), .inr (1, hz_f53 F), .inl (0, .inl (A 54)), .inl (0, .inl (A 55)), .inl (0, .inl (A 56)), .inl (0, .inl (A 57)), .inl (0, .inl (A 58)), .inl (0, .inl (A 59)), .inl (0, .inl (A 60)), .inl (0, .inl (A 61)), .inr (0, hz_f62 F), .inr (3, hz_f63 F), .inl (0, .inl (A 64)), .inl (0, .inl (A 65)), .inl (0, .inl (A 66)), .inr (8, hz_f67 F), .inl (0, .inl (A 68)), .inl (0, .inl (A 69)), .inl (0, .inl (A 70)), .inl (2, .inl (A 71)), .inl (0, .inl (A 72)), .inl (0, .inl (A 73)), .inl (0, .inl (A 74)), .inl (0, .inl (A 75)), .inl (0, .inl (A 76)), .inl (0, .inl (A 77)), .inl (0, .inl (A 78)), .inl (0, .inl (A 79)), .inl (0, .inl (A 80)), .inl (0, .inl (A 81)), .inl (0, .inl (A 82)), .inl (0, .inl (A 83)), .inl (0, .inl (A 84)), .inl (0, .inl (A 85)), .inl (0, .inl (A 86)), .inl (0, .inl (A 87)), .inl (0, .inl (A 88)), .inl (0, .inl (A 89)), .inl (0, .inl (A 90)), .inl (0, .inl (A 91)), .inl (0, .inl (A 92)), .inl (0, .inl (A 93)), .inl (0, .inl (A 94)), .inl (0, .inl (A 95)), .inl (0, .inl (A 96)), .inl (0, .inl (A 97)), .inl (0, .inl (A 98))]
section HZ
variable {F : Nat → Nat → Int32} {A : Nat → List Int32} {L : Nat → List Int64}
theorem hz_g0 : (hz F A L)[0]? = some (.inr (7, hz_f0 F)) := rfl
theorem hz_p0_11 (v : Int32) : (hz F A L).set 0 (.inr (7, (hz_f0 F).set 11 (.int v))) = hz (uF F 0 11 v) A L := rfl
theorem hz_g1 : (hz F A L)[1]? = some (.inr (5, hz_f1 F)) := rfl
theorem hz_p1_1 (v : Int32) : (hz F A L).set 1 (.inr (5, (hz_f1 F).set 1 (.int v))) = hz (uF F 1 1 v) A L := rfl
theorem hz_p1_2 (v : Int32) : (hz F A L).set 1 (.inr (5, (hz_f1 F).set 2 (.int v))) = hz (uF F 1 2 v) A L := rfl
theorem hz_p1_3 (v : Int32) : (hz F A L).set 1 (.inr (5, (hz_f1 F).set 3 (.int v))) = hz (uF F 1 3 v) A L := rfl
theorem hz_p1_4 (v : Int32) : (hz F A L).set 1 (.inr (5, (hz_f1 F).set 4 (.int v))) = hz (uF F 1 4 v) A L := rfl
theorem hz_g2 : (hz F A L)[2]? = some (.inl (0, .inl (A 2))) := rfl
theorem hz_s2 (l : List Int32) : (hz F A L).set 2 (.inl (0, .inl l)) = hz F (uA A 2 l) L := rfl
theorem hz_g3 : (hz F A L)[3]? = some (.inr (4, hz_f3 F)) := rfl
theorem hz_p3_0 (v : Int32) : (hz F A L).set 3 (.inr (4, (hz_f3 F).set 0 (.int v))) = hz (uF F 3 0 v) A L := rfl
theorem hz_p3_1 (v : Int32) : (hz F A L).set 3 (.inr (4, (hz_f3 F).set 1 (.int v))) = hz (uF F 3 1 v) A L := rfl
theorem hz_p3_2 (v : Int32) : (hz F A L).set 3 (.inr (4, (hz_f3 F).set 2 (.int v))) = hz (uF F 3 2 v) A L := rfl
theorem hz_p3_3 (v : Int32) : (hz F A L).set 3 (.inr (4, (hz_f3 F).set 3 (.int v))) = hz (uF F 3 3 v) A L := rfl
theorem hz_p3_4 (v : Int32) : (hz F A L).set 3 (.inr (4, (hz_f3 F).set 4 (.int v))) = hz (uF F 3 4 v) A L := rfl
theorem hz_p3_5 (v : Int32) : (hz F A L).set 3 (.inr (4, (hz_f3 F).set 5 (.int v))) = hz (uF F 3 5 v) A L := rfl
theorem hz_p3_6 (v : Int32) : (hz F A L).set 3 (.inr (4, (hz_f3 F).set 6 (.int v))) = hz (uF F 3 6 v) A L := rfl
theorem hz_g4 : (hz F A L)[4]? = some (.inl (0, .inl (A 4))) := rfl
theorem hz_s4 (l : List Int32) : (hz F A L).set 4 (.inl (0, .inl l)) = hz F (uA A 4 l) L := rfl
theorem hz_g5 : (hz F A L)[5]? = some (.inl (0, .inl (A 5))) := rfl
theorem hz_s5 (l : List Int32) : (hz F A L).set 5 (.inl (0, .inl l)) = hz F (uA A 5 l) L := rfl
theorem hz_g6 : (hz F A L)[6]? = some (.inl (0, .inl (A 6))) := rfl
theorem hz_s6 (l : List Int32) : (hz F A L).set 6 (.inl (0, .inl l)) = hz F (uA A 6 l) L := rfl
theorem hz_g7 : (hz F A L)[7]? = some (.inl (0, .inl (A 7))) := rfl
theorem hz_s7 (l : List Int32) : (hz F A L).set 7 (.inl (0, .inl l)) = hz F (uA A 7 l) L := rfl
theorem hz_g8 : (hz F A L)[8]? = some (.inl (0, .inl (A 8))) := rfl
theorem hz_s8 (l : List Int32) : (hz F A L).set 8 (.inl (0, .inl l)) = hz F (uA A 8 l) L := rfl
theorem hz_g9 : (hz F A L)[9]? = some (.inl (0, .inl (A 9))) := rfl
theorem hz_s9 (l : List Int32) : (hz F A L).set 9 (.inl (0, .inl l)) = hz F (uA A 9 l) L := rfl
theorem hz_g10 : (hz F A L)[10]? = some (.inl (0, .inl (A 10))) := rfl
theorem hz_s10 (l : List Int32) : (hz F A L).set 10 (.inl (0, .inl l)) = hz F (uA A 10 l) L := rfl
theorem hz_g11 : (hz F A L)[11]? = some (.inl (1, .inr (L 11))) := rfl
theorem hz_s11 (l : List Int64) : (hz F A L).set 11 (.inl (1, .inr l)) = hz F A (uL L 11 l) := rfl
theorem hz_g12 : (hz F A L)[12]? = some (.inr (4, hz_f12 F)) := rfl
theorem hz_p12_0 (v : Int32) : (hz F A L).set 12 (.inr (4, (hz_f12 F).set 0 (.int v))) = hz (uF F 12 0 v) A L := rfl
theorem hz_p12_1 (v : Int32) : (hz F A L).set 12 (.inr (4, (hz_f12 F).set 1 (.int v))) = hz (uF F 12 1 v) A L := rfl
theorem hz_p12_2 (v : Int32) : (hz F A L).set 12 (.inr (4, (hz_f12 F).set 2 (.int v))) = hz (uF F 12 2 v) A L := rfl
theorem hz_p12_3 (v : Int32) : (hz F A L).set 12 (.inr (4, (hz_f12 F).set 3 (.int v))) = hz (uF F 12 3 v) A L := rfl
theorem hz_p12_4 (v : Int32) : (hz F A L).set 12 (.inr (4, (hz_f12 F).set 4 (.int v))) = hz (uF F 12 4 v) A L := rfl
theorem hz_p12_5 (v : Int32) : (hz F A L).set 12 (.inr (4, (hz_f12 F).set 5 (.int v))) = hz (uF F 12 5 v) A L := rfl
theorem hz_p12_6 (v : Int32) : (hz F A L).set 12 (.inr (4, (hz_f12 F).set 6 (.int v))) = hz (uF F 12 6 v) A L := rfl
theorem hz_g13 : (hz F A L)[13]? = some (.inl (0, .inl (A 13))) := rfl
theorem hz_s13 (l : List Int32) : (hz F A L).set 13 (.inl (0, .inl l)) = hz F (uA A 13 l) L := rfl
theorem hz_g14 : (hz F A L)[14]? = some (.inl (0, .inl (A 14))) := rfl
theorem hz_s14 (l : List Int32) : (hz F A L).set 14 (.inl (0, .inl l)) = hz F (uA A 14 l) L := rfl
theorem hz_g15 : (hz F A L)[15]? = some (.inl (0, .inl (A 15))) := rfl
theorem hz_s15 (l : List Int32) : (hz F A L).set 15 (.inl (0, .inl l)) = hz F (uA A 15 l) L := rfl
theorem hz_g16 : (hz F A L)[16]? = some (.inl (0, .inl (A 16))) := rfl
theorem hz_s16 (l : List Int32) : (hz F A L).set 16 (.inl (0, .inl l)) = hz F (uA A 16 l) L := rfl
theorem hz_g17 : (hz F A L)[17]? = some (.inl (0, .inl (A 17))) := rfl
theorem hz_s17 (l : List Int32) : (hz F A L).set 17 (.inl (0, .inl l)) = hz F (uA A 17 l) L := rfl
theorem hz_g18 : (hz F A L)[18]? = some (.inl (0, .inl (A 18))) := rfl
theorem hz_s18 (l : List Int32) : (hz F A L).set 18 (.inl (0, .inl l)) = hz F (uA A 18 l) L := rfl
theorem hz_g19 : (hz F A L)[19]? = some (.inl (0, .inl (A 19))) := rfl
theorem hz_s19 (l : List Int32) : (hz F A L).set 19 (.inl (0, .inl l)) = hz F (uA A 19 l) L := rfl
theorem hz_g20 : (hz F A L)[20]? = some (.inl (1, .inr (L 20))) := rfl
theorem hz_s20 (l : List Int64) : (hz F A L).set 20 (.inl (1, .inr l)) = hz F A (uL L 20 l) := rfl
theorem hz_g21 : (hz F A L)[21]? = some (.inr (4, hz_f21 F)) := rfl
theorem hz_p21_0 (v : Int32) : (hz F A L).set 21 (.inr (4, (hz_f21 F).set 0 (.int v))) = hz (uF F 21 0 v) A L := rfl
theorem hz_p21_1 (v : Int32) : (hz F A L).set 21 (.inr (4, (hz_f21 F).set 1 (.int v))) = hz (uF F 21 1 v) A L := rfl
theorem hz_p21_2 (v : Int32) : (hz F A L).set 21 (.inr (4, (hz_f21 F).set 2 (.int v))) = hz (uF F 21 2 v) A L := rfl
theorem hz_p21_3 (v : Int32) : (hz F A L).set 21 (.inr (4, (hz_f21 F).set 3 (.int v))) = hz (uF F 21 3 v) A L := rfl
theorem hz_p21_4 (v : Int32) : (hz F A L).set 21 (.inr (4, (hz_f21 F).set 4 (.int v))) = hz (uF F 21 4 v) A L := rfl
theorem hz_p21_5 (v : Int32) : (hz F A L).set 21 (.inr (4, (hz_f21 F).set 5 (.int v))) = hz (uF F 21 5 v) A L := rfl
theorem hz_p21_6 (v : Int32) : (hz F A L).set 21 (.inr (4, (hz_f21 F).set 6 (.int v))) = hz (uF F 21 6 v) A L := rfl
theorem hz_g22 : (hz F A L)[22]? = some (.inl (0, .inl (A 22))) := rfl
theorem hz_s22 (l : List Int32) : (hz F A L).set 22 (.inl (0, .inl l)) = hz F (uA A 22 l) L := rfl
theorem hz_g23 : (hz F A L)[23]? = some (.inl (0, .inl (A 23))) := rfl
theorem hz_s23 (l : List Int32) : (hz F A L).set 23 (.inl (0, .inl l)) = hz F (uA A 23 l) L := rfl
theorem hz_g24 : (hz F A L)[24]? = some (.inl (0, .inl (A 24))) := rfl
theorem hz_s24 (l : List Int32) : (hz F A L).set 24 (.inl (0, .inl l)) = hz F (uA A 24 l) L := rfl
theorem hz_g25 : (hz F A L)[25]? = some (.inl (0, .inl (A 25))) := rfl
theorem hz_s25 (l : List Int32) : (hz F A L).set 25 (.inl (0, .inl l)) = hz F (uA A 25 l) L := rfl
theorem hz_g26 : (hz F A L)[26]? = some (.inl (0, .inl (A 26))) := rfl
theorem hz_s26 (l : List Int32) : (hz F A L).set 26 (.inl (0, .inl l)) = hz F (uA A 26 l) L := rfl
theorem hz_g27 : (hz F A L)[27]? = some (.inl (0, .inl (A 27))) := rfl
theorem hz_s27 (l : List Int32) : (hz F A L).set 27 (.inl (0, .inl l)) = hz F (uA A 27 l) L := rfl
theorem hz_g28 : (hz F A L)[28]? = some (.inl (0, .inl (A 28))) := rfl
theorem hz_s28 (l : List Int32) : (hz F A L).set 28 (.inl (0, .inl l)) = hz F (uA A 28 l) L := rfl
theorem hz_g29 : (hz F A L)[29]? = some (.inl (1, .inr (L 29))) := rfl
theorem hz_s29 (l : List Int64) : (hz F A L).set 29 (.inl (1, .inr l)) = hz F A (uL L 29 l) := rfl
theorem hz_g30 : (hz F A L)[30]? = some (.inr (6, hz_f30 F)) := rfl
theorem hz_g31 : (hz F A L)[31]? = some (.inl (0, .inl (A 31))) := rfl
theorem hz_s31 (l : List Int32) : (hz F A L).set 31 (.inl (0, .inl l)) = hz F (uA A 31 l) L := rfl
theorem hz_g32 : (hz F A L)[32]? = some (.inl (0, .inl (A 32))) := rfl
theorem hz_s32 (l : List Int32) : (hz F A L).set 32 (.inl (0, .inl l)) = hz F (uA A 32 l) L := rfl
theorem hz_g33 : (hz F A L)[33]? = some (.inl (0, .inl (A 33))) := rfl
theorem hz_s33 (l : List Int32) : (hz F A L).set 33 (.inl (0, .inl l)) = hz F (uA A 33 l) L := rfl
theorem hz_g34 : (hz F A L)[34]? = some (.inl (0, .inl (A 34))) := rfl
theorem hz_s34 (l : List Int32) : (hz F A L).set 34 (.inl (0, .inl l)) = hz F (uA A 34 l) L := rfl
theorem hz_g35 : (hz F A L)[35]? = some (.inl (0, .inl (A 35))) := rfl
theorem hz_s35 (l : List Int32) : (hz F A L).set 35 (.inl (0, .inl l)) = hz F (uA A 35 l) L := rfl
theorem hz_g36 : (hz F A L)[36]? = some (.inl (0, .inl (A 36))) := rfl
theorem hz_s36 (l : List Int32) : (hz F A L).set 36 (.inl (0, .inl l)) = hz F (uA A 36 l) L := rfl
theorem hz_g37 : (hz F A L)[37]? = some (.inl (0, .inl (A 37))) := rfl
theorem hz_s37 (l : List Int32) : (hz F A L).set 37 (.inl (0, .inl l)) = hz F (uA A 37 l) L := rfl
theorem hz_g38 : (hz F A L)[38]? = some (.inl (0, .inl (A 38))) := rfl
theorem hz_s38 (l : List Int32) : (hz F A L).set 38 (.inl (0, .inl l)) = hz F (uA A 38 l) L := rfl
theorem hz_g39 : (hz F A L)[39]? = some (.inl (0, .inl (A 39))) := rfl
theorem hz_s39 (l : List Int32) : (hz F A L).set 39 (.inl (0, .inl l)) = hz F (uA A 39 l) L := rfl
theorem hz_g40 : (hz F A L)[40]? = some (.inl (0, .inl (A 40))) := rfl
theorem hz_s40 (l : List Int32) : (hz F A L).set 40 (.inl (0, .inl l)) = hz F (uA A 40 l) L := rfl
theorem hz_g41 : (hz F A L)[41]? = some (.inl (0, .inl (A 41))) := rfl
theorem hz_s41 (l : List Int32) : (hz F A L).set 41 (.inl (0, .inl l)) = hz F (uA A 41 l) L := rfl
theorem hz_g42 : (hz F A L)[42]? = some (.inl (0, .inl (A 42))) := rfl
theorem hz_s42 (l : List Int32) : (hz F A L).set 42 (.inl (0, .inl l)) = hz F (uA A 42 l) L := rfl
theorem hz_g43 : (hz F A L)[43]? = some (.inr (1, hz_f43 F)) := rfl
theorem hz_p43_0 (v : Int32) : (hz F A L).set 43 (.inr (1, (hz_f43 F).set 0 (.int v))) = hz (uF F 43 0 v) A L := rfl
theorem hz_p43_1 (v : Int32) : (hz F A L).set 43 (.inr (1, (hz_f43 F).set 1 (.int v))) = hz (uF F 43 1 v) A L := rfl
theorem hz_p43_10 (v : Int32) : (hz F A L).set 43 (.inr (1, (hz_f43 F).set 10 (.int v))) = hz (uF F 43 10 v) A L := rfl
theorem hz_g44 : (hz F A L)[44]? = some (.inl (0, .inl (A 44))) := rfl
theorem hz_s44 (l : List Int32) : (hz F A L).set 44 (.inl (0, .inl l)) = hz F (uA A 44 l) L := rfl
theorem hz_g45 : (hz F A L)[45]? = some (.inl (0, .inl (A 45))) := rfl
theorem hz_s45 (l : List Int32) : (hz F A L).set 45 (.inl (0, .inl l)) = hz F (uA A 45 l) L := rfl
theorem hz_g46 : (hz F A L)[46]? = some (.inl (0, .inl (A 46))) := rfl
theorem hz_s46 (l : List Int32) : (hz F A L).set 46 (.inl (0, .inl l)) = hz F (uA A 46 l) L := rfl
theorem hz_g47 : (hz F A L)[47]? = some (.inl (0, .inl (A 47))) := rfl
theorem hz_s47 (l : List Int32) : (hz F A L).set 47 (.inl (0, .inl l)) = hz F (uA A 47 l) L := rfl
theorem hz_g48 : (hz F A L)[48]? = some (.inl (0, .inl (A 48))) := rfl
theorem hz_s48 (l : List Int32) : (hz F A L).set 48 (.inl (0, .inl l)) = hz F (uA A 48 l) L := rfl
theorem hz_g49 : (hz F A L)[49]? = some (.inl (0, .inl (A 49))) := rfl
theorem hz_s49 (l : List Int32) : (hz F A L).set 49 (.inl (0, .inl l)) = hz F (uA A 49 l) L := rfl
theorem hz_g50 : (hz F A L)[50]? = some (.inl (0, .inl (A 50))) := rfl
theorem hz_s50 (l : List Int32) : (hz F A L).set 50 (.inl (0, .inl l)) = hz F (uA A 50 l) L := rfl
theorem hz_g51 : (hz F A L)[51]? = some (.inl (0, .inl (A 51))) := rfl
theorem hz_s51 (l : List Int32) : (hz F A L).set 51 (.inl (0, .inl l)) = hz F (uA A 51 l) L := rfl
theorem hz_g52 : (hz F A L)[52]? = some (.inr (2, hz_f52 F)) := rfl
theorem hz_p52_2 (v : Int32) : (hz F A L).set 52 (.inr (2, (hz_f52 F).set 2 (.int v))) = hz (uF F 52 2 v) A L := rfl
theorem hz_g53 : (hz F A L)[53]? = some (.inr (1, hz_f53 F)) := rfl
theorem hz_p53_0 (v : Int32) : (hz F A L).set 53 (.inr (1, (hz_f53 F).set 0 (.int v))) = hz (uF F 53 0 v) A L := rfl
theorem hz_p53_1 (v : Int32) : (hz F A L).set 53 (.inr (1, (hz_f53 F).set 1 (.int v))) = hz (uF F 53 1 v) A L := rfl
theorem hz_p53_10 (v : Int32) : (hz F A L).set 53 (.inr (1, (hz_f53 F).set 10 (.int v))) = hz (uF F 53 10 v) A L := rfl
theorem hz_g54 : (hz F A L)[54]? = some (.inl (0, .inl (A 54))) := rfl
theorem hz_s54 (l : List Int32) : (hz F A L).set 54 (.inl (0, .inl l)) = hz F (uA A 54 l) L := rfl
theorem hz_g55 : (hz F A L)[55]? = some (.inl (0, .inl (A 55))) := rfl
theorem hz_s55 (l : List Int32) : (hz F A L).set 55 (.inl (0, .inl l)) = hz F (uA A 55 l) L := rfl
theorem hz_g56 : (hz F A L)[56]? = some (.inl (0, .inl (A 56))) := rfl
theorem hz_s56 (l : List Int32) : (hz F A L).set 56 (.inl (0, .inl l)) = hz F (uA A 56 l) L := rfl
theorem hz_g57 : (hz F A L)[57]? = some (.inl (0, .inl (A 57))) := rfl
theorem hz_s57 (l : List Int32) : (hz F A L).set 57 (.inl (0, .inl l)) = hz F (uA A 57 l) L := rfl
theorem hz_g58 : (hz F A L)[58]? = some (.inl (0, .inl (A 58))) := rfl
theorem hz_s58 (l : List Int32) : (hz F A L).set 58 (.inl (0, .inl l)) = hz F (uA A 58 l) L := rfl
theorem hz_g59 : (hz F A L)[59]? = some (.inl (0, .inl (A 59))) := rfl
theorem hz_s59 (l : List Int32) : (hz F A L).set 59 (.inl (0, .inl l)) = hz F (uA A 59 l) L := rfl
theorem hz_g60 : (hz F A L)[60]? = some (.inl (0, .inl (A 60))) := rfl
theorem hz_s60 (l : List Int32) : (hz F A L).set 60 (.inl (0, .inl l)) = hz F (uA A 60 l) L := rfl
theorem hz_g61 : (hz F A L)[61]? = some (.inl (0, .inl (A 61))) := rfl
theorem hz_s61 (l : List Int32) : (hz F A L).set 61 (.inl (0, .inl l)) = hz F (uA A 61 l) L := rfl
theorem hz_g62 : (hz F A L)[62]? = some (.inr (0, hz_f62 F)) := rfl
theorem hz_g63 : (hz F A L)[63]? = some (.inr (3, hz_f63 F)) := rfl
theorem hz_p63_2 (v : Int32) : (hz F A L).set 63 (.inr (3, (hz_f63 F).set 2 (.int v))) = hz (uF F 63 2 v) A L := rfl
theorem hz_p63_3 (v : Int32) : (hz F A L).set 63 (.inr (3, (hz_f63 F).set 3 (.int v))) = hz (uF F 63 3 v) A L := rfl
theorem hz_g64 : (hz F A L)[64]? = some (.inl (0, .inl (A 64))) := rfl
theorem hz_s64 (l : List Int32) : (hz F A L).set 64 (.inl (0, .inl l)) = hz F (uA A 64 l) L := rfl
theorem hz_g65 : (hz F A L)[65]? = some (.inl (0, .inl (A 65))) := rfl
theorem hz_s65 (l : List Int32) : (hz F A L).set 65 (.inl (0, .inl l)) = hz F (uA A 65 l) L := rfl
theorem hz_g66 : (hz F A L)[66]? = some (.inl (0, .inl (A 66))) := rfl
theorem hz_s66 (l : List Int32) : (hz F A L).set 66 (.inl (0, .inl l)) = hz F (uA A 66 l) L := rfl
theorem hz_g67 : (hz F A L)[67]? = some (.inr (8, hz_f67 F)) := rfl
theorem hz_p67_3 (v : Int32) : (hz F A L).set 67 (.inr (8, (hz_f67 F).set 3 (.int v))) = hz (uF F 67 3 v) A L := rfl
theorem hz_p67_4 (v : Int32) : (hz F A L).set 67 (.inr (8, (hz_f67 F).set 4 (.int v))) = hz (uF F 67 4 v) A L := rfl
theorem hz_p67_5 (v : Int32) : (hz F A L).set 67 (.inr (8, (hz_f67 F).set 5 (.int v))) = hz (uF F 67 5 v) A L := rfl
theorem hz_p67_6 (v : Int32) : (hz F A L).set 67 (.inr (8, (hz_f67 F).set 6 (.int v))) = hz (uF F 67 6 v) A L := rfl
theorem hz_p67_8 (v : Int32) : (hz F A L).set 67 (.inr (8, (hz_f67 F).set 8 (.int v))) = hz (uF F 67 8 v) A L := rfl
theorem hz_p67_9 (v : Int32) : (hz F A L).set 67 (.inr (8, (hz_f67 F).set 9 (.int v))) = hz (uF F 67 9 v) A L := rfl
theorem hz_p67_10 (v : Int32) : (hz F A L).set 67 (.inr (8, (hz_f67 F).set 10 (.int v))) = hz (uF F 67 10 v) A L := rfl
theorem hz_p67_11 (v : Int32) : (hz F A L).set 67 (.inr (8, (hz_f67 F).set 11 (.int v))) = hz (uF F 67 11 v) A L := rfl
theorem hz_p67_12 (v : Int32) : (hz F A L).set 67 (.inr (8, (hz_f67 F).set 12 (.int v))) = hz (uF F 67 12 v) A L := rfl
theorem hz_p67_13 (v : Int32) : (hz F A L).set 67 (.inr (8, (hz_f67 F).set 13 (.int v))) = hz (uF F 67 13 v) A L := rfl
theorem hz_p67_14 (v : Int32) : (hz F A L).set 67 (.inr (8, (hz_f67 F).set 14 (.int v))) = hz (uF F 67 14 v) A L := rfl
theorem hz_p67_15 (v : Int32) : (hz F A L).set 67 (.inr (8, (hz_f67 F).set 15 (.int v))) = hz (uF F 67 15 v) A L := rfl
theorem hz_p67_16 (v : Int32) : (hz F A L).set 67 (.inr (8, (hz_f67 F).set 16 (.int v))) = hz (uF F 67 16 v) A L := rfl
theorem hz_p67_17 (v : Int32) : (hz F A L).set 67 (.inr (8, (hz_f67 F).set 17 (.int v))) = hz (uF F 67 17 v) A L := rfl
theorem hz_p67_32 (v : Int32) : (hz F A L).set 67 (.inr (8, (hz_f67 F).set 32 (.int v))) = hz (uF F 67 32 v) A L := rfl
theorem hz_p67_33 (v : Int32) : (hz F A L).set 67 (.inr (8, (hz_f67 F).set 33 (.int v))) = hz (uF F 67 33 v) A L := rfl
theorem hz_g68 : (hz F A L)[68]? = some (.inl (0, .inl (A 68))) := rfl
theorem hz_s68 (l : List Int32) : (hz F A L).set 68 (.inl (0, .inl l)) = hz F (uA A 68 l) L := rfl
theorem hz_g69 : (hz F A L)[69]? = some (.inl (0, .inl (A 69))) := rfl
theorem hz_s69 (l : List Int32) : (hz F A L).set 69 (.inl (0, .inl l)) = hz F (uA A 69 l) L := rfl
theorem hz_g70 : (hz F A L)[70]? = some (.inl (0, .inl (A 70))) := rfl
theorem hz_s70 (l : List Int32) : (hz F A L).set 70 (.inl (0, .inl l)) = hz F (uA A 70 l) L := rfl
theorem hz_g71 : (hz F A L)[71]? = some (.inl (2, .inl (A 71))) := rfl
theorem hz_s71 (l : List Int32) : (hz F A L).set 71 (.inl (2, .inl l)) = hz F (uA A 71 l) L := rfl
theorem hz_g72 : (hz F A L)[72]? = some (.inl (0, .inl (A 72))) := rfl
theorem hz_s72 (l : List Int32) : (hz F A L).set 72 (.inl (0, .inl l)) = hz F (uA A 72 l) L := rfl
theorem hz_g73 : (hz F A L)[73]? = some (.inl (0, .inl (A 73))) := rfl
theorem hz_s73 (l : List Int32) : (hz F A L).set 73 (.inl (0, .inl l)) = hz F (uA A 73 l) L := rfl
theorem hz_g74 : (hz F A L)[74]? = some (.inl (0, .inl (A 74))) := rfl
theorem hz_s74 (l : List Int32) : (hz F A L).set 74 (.inl (0, .inl l)) = hz F (uA A 74 l) L := rfl
theorem hz_g75 : (hz F A L)[75]? = some (.inl (0, .inl (A 75))) := rfl
theorem hz_s75 (l : List Int32) : (hz F A L).set 75 (.inl (0, .inl l)) = hz F (uA A 75 l) L := rfl
theorem hz_g76 : (hz F A L)[76]? = some (.inl (0, .inl (A 76))) := rfl
theorem hz_s76 (l : List Int32) : (hz F A L).set 76 (.inl (0, .inl l)) = hz F (uA A 76 l) L := rfl
theorem hz_g77 : (hz F A L)[77]? = some (.inl (0, .inl (A 77))) := rfl
theorem hz_s77 (l : List Int32) : (hz F A L).set 77 (.inl (0, .inl l)) = hz F (uA A 77 l) L := rfl
theorem hz_g78 : (hz F A L)[78]? = some (.inl (0, .inl (A 78))) := rfl
theorem hz_s78 (l : List Int32) : (hz F A L).set 78 (.inl (0, .inl l)) = hz F (uA A 78 l) L := rfl
theorem hz_g79 : (hz F A L)[79]? = some (.inl (0, .inl (A 79))) := rfl
theorem hz_s79 (l : List Int32) : (hz F A L).set 79 (.inl (0, .inl l)) = hz F (uA A 79 l) L := rfl
theorem hz_g80 : (hz F A L)[80]? = some (.inl (0, .inl (A 80))) := rfl
theorem hz_s80 (l : List Int32) : (hz F A L).set 80 (.inl (0, .inl l)) = hz F (uA A 80 l) L := rfl
theorem hz_g81 : (hz F A L)[81]? = some (.inl (0, .inl (A 81))) := rfl
theorem hz_s81 (l : List Int32) : (hz F A L).set 81 (.inl (0, .inl l)) = hz F (uA A 81 l) L := rfl
theorem hz_g82 : (hz F A L)[82]? = some (.inl (0, .inl (A 82))) := rfl
theorem hz_s82 (l : List Int32) : (hz F A L).set 82 (.inl (0, .inl l)) = hz F (uA A 82 l) L := rfl
theorem hz_g83 : (hz F A L)[83]? = some (.inl (0, .inl (A 83))) := rfl
theorem hz_s83 (l : List Int32) : (hz F A L).set 83 (.inl (0, .inl l)) = hz F (uA A 83 l) L := rfl
theorem hz_g84 : (hz F A L)[84]? = some (.inl (0, .inl (A 84))) := rfl
theorem hz_s84 (l : List Int32) : (hz F A L).set 84 (.inl (0, .inl l)) = hz F (uA A 84 l) L := rfl
theorem hz_g85 : (hz F A L)[85]? = some (.inl (0, .inl (A 85))) := rfl
theorem hz_s85 (l : List Int32) : (hz F A L).set 85 (.inl (0, .inl l)) = hz F (uA A 85 l) L := rfl
theorem hz_g86 : (hz F A L)[86]? = some (.inl (0, .inl (A 86))) := rfl
theorem hz_s86 (l : List Int32) : (hz F A L).set 86 (.inl (0, .inl l)) = hz F (uA A 86 l) L := rfl
theorem hz_g87 : (hz F A L)[87]? = some (.inl (0, .inl (A 87))) := rfl
theorem hz_s87 (l : List Int32) : (hz F A L).set 87 (.inl (0, .inl l)) = hz F (uA A 87 l) L := rfl
theorem hz_g88 : (hz F A L)[88]? = some (.inl (0, .inl (A 88))) := rfl
theorem hz_s88 (l : List Int32) : (hz F A L).set 88 (.inl (0, .inl l)) = hz F (uA A 88 l) L := rfl
theorem hz_g89 : (hz F A L)[89]? = some (.inl (0, .inl (A 89))) := rfl
theorem hz_s89 (l : List Int32) : (hz F A L).set 89 (.inl (0, .inl l)) = hz F (uA A 89 l) L := rfl
theorem hz_g90 : (hz F A L)[90]? = some (.inl (0, .inl (A 90))) := rfl
theorem hz_s90 (l : List Int32) : (hz F A L).set 90 (.inl (0, .inl l)) = hz F (uA A 90 l) L := rfl
theorem hz_g91 : (hz F A L)[91]? = some (.inl (0, .inl (A 91))) := rfl
theorem hz_s91 (l : List Int32) : (hz F A L).set 91 (.inl (0, .inl l)) = hz F (uA A 91 l) L := rfl
theorem hz_g92 : (hz F A L)[92]? = some (.inl (0, .inl (A 92))) := rfl
theorem hz_s92 (l : List Int32) : (hz F A L).set 92 (.inl (0, .inl l)) = hz F (uA A 92 l) L := rfl
theorem hz_g93 : (hz F A L)[93]? = some (.inl (0, .inl (A 93))) := rfl
theorem hz_s93 (l : List Int32) : (hz F A L).set 93 (.inl (0, .inl l)) = hz F (uA A 93 l) L := rfl
theorem hz_g94 : (hz F A L)[94]? = some (.inl (0, .inl (A 94))) := rfl
theorem hz_s94 (l : List Int32) : (hz F A L).set 94 (.inl (0, .inl l)) = hz F (uA A 94 l) L := rfl
theorem hz_g95 : (hz F A L)[95]? = some (.inl (0, .inl (A 95))) := rfl
theorem hz_s95 (l : List Int32) : (hz F A L).set 95 (.inl (0, .inl l)) = hz F (uA A 95 l) L := rfl
theorem hz_g96 : (hz F A L)[96]? = some (.inl (0, .inl (A 96))) := rfl
theorem hz_s96 (l : List Int32) : (hz F A L).set 96 (.inl (0, .inl l)) = hz F (uA A 96 l) L := rfl
theorem hz_g97 : (hz F A L)[97]? = some (.inl (0, .inl (A 97))) := rfl
theorem hz_s97 (l : List Int32) : (hz F A L).set 97 (.inl (0, .inl l)) = hz F (uA A 97 l) L := rfl
theorem hz_g98 : (hz F A L)[98]? = some (.inl (0, .inl (A 98))) := rfl
theorem hz_s98 (l : List Int32) : (hz F A L).set 98 (.inl (0, .inl l)) = hz F (uA A 98 l) L := rfl
end HZ
