/-! lifts, printed by genlift.py: 5 -/
noncomputable def kc_teas (f : Nat) (f3_0 : Int32) (f3_1 : Int32) (f3_2 : Int32) (f3_3 : Int32) (f3_4 : Int32) (f3_5 : Int32) (f3_6 : Int32) (f43_0 : Int32) (f43_10 : Int32) (f63_2 : Int32) (f63_3 : Int32) (a4 : List Int32) (a5 : List Int32) (a6 : List Int32) (a7 : List Int32) (a8 : List Int32) (a9 : List Int32) (a10 : List Int32) (a44 : List Int32) (a45 : List Int32) (a46 : List Int32) (a47 : List Int32) (a48 : List Int32) (a49 : List Int32) (a50 : List Int32) (a51 : List Int32) (a64 : List Int32) (l11 : List Int64) (x1 : Int32) : Int32 × Int32 × Int32 × Int32 × Int32 × Int32 × Int32 × List Int32 × List Int32 × List Int32 × List Int32 × List Int32 × List Int32 := (if (kc_within x1 1 60) = 0 then ((-1), f3_2, f3_3, f3_4, f3_5, f3_6, f43_10, a8, a9, a10, a50, a51, a64) else (if f3_2 = (-1) then ((-2), f3_2, f3_3, f3_4, f3_5, f3_6, f43_10, a8, a9, a10, a50, a51, a64) else ((kc_teas_30 f f3_0 f3_1 f43_0 f63_2 f63_3 a4 a5 a6 a7 a44 a45 a46 a47 a48 a49 l11 x1.toInt.toNat 0 0 f3_2 f3_3 f3_4 f3_5 f3_6 f43_10 a8 a9 a10 a50 a51 a64).1, (kc_teas_30 f f3_0 f3_1 f43_0 f63_2 f63_3 a4 a5 a6 a7 a44 a45 a46 a47 a48 a49 l11 x1.toInt.toNat 0 0 f3_2 f3_3 f3_4 f3_5 f3_6 f43_10 a8 a9 a10 a50 a51 a64).2.1, (kc_teas_30 f f3_0 f3_1 f43_0 f63_2 f63_3 a4 a5 a6 a7 a44 a45 a46 a47 a48 a49 l11 x1.toInt.toNat 0 0 f3_2 f3_3 f3_4 f3_5 f3_6 f43_10 a8 a9 a10 a50 a51 a64).2.2.1, (kc_teas_30 f f3_0 f3_1 f43_0 f63_2 f63_3 a4 a5 a6 a7 a44 a45 a46 a47 a48 a49 l11 x1.toInt.toNat 0 0 f3_2 f3_3 f3_4 f3_5 f3_6 f43_10 a8 a9 a10 a50 a51 a64).2.2.2.1, (kc_teas_30 f f3_0 f3_1 f43_0 f63_2 f63_3 a4 a5 a6 a7 a44 a45 a46 a47 a48 a49 l11 x1.toInt.toNat 0 0 f3_2 f3_3 f3_4 f3_5 f3_6 f43_10 a8 a9 a10 a50 a51 a64).2.2.2.2.1, (kc_teas_30 f f3_0 f3_1 f43_0 f63_2 f63_3 a4 a5 a6 a7 a44 a45 a46 a47 a48 a49 l11 x1.toInt.toNat 0 0 f3_2 f3_3 f3_4 f3_5 f3_6 f43_10 a8 a9 a10 a50 a51 a64).2.2.2.2.2.1, (kc_teas_30 f f3_0 f3_1 f43_0 f63_2 f63_3 a4 a5 a6 a7 a44 a45 a46 a47 a48 a49 l11 x1.toInt.toNat 0 0 f3_2 f3_3 f3_4 f3_5 f3_6 f43_10 a8 a9 a10 a50 a51 a64).2.2.2.2.2.2.1, (kc_teas_30 f f3_0 f3_1 f43_0 f63_2 f63_3 a4 a5 a6 a7 a44 a45 a46 a47 a48 a49 l11 x1.toInt.toNat 0 0 f3_2 f3_3 f3_4 f3_5 f3_6 f43_10 a8 a9 a10 a50 a51 a64).2.2.2.2.2.2.2.1, (kc_teas_30 f f3_0 f3_1 f43_0 f63_2 f63_3 a4 a5 a6 a7 a44 a45 a46 a47 a48 a49 l11 x1.toInt.toNat 0 0 f3_2 f3_3 f3_4 f3_5 f3_6 f43_10 a8 a9 a10 a50 a51 a64).2.2.2.2.2.2.2.2.1, (kc_teas_30 f f3_0 f3_1 f43_0 f63_2 f63_3 a4 a5 a6 a7 a44 a45 a46 a47 a48 a49 l11 x1.toInt.toNat 0 0 f3_2 f3_3 f3_4 f3_5 f3_6 f43_10 a8 a9 a10 a50 a51 a64).2.2.2.2.2.2.2.2.2.1, (kc_teas_30 f f3_0 f3_1 f43_0 f63_2 f63_3 a4 a5 a6 a7 a44 a45 a46 a47 a48 a49 l11 x1.toInt.toNat 0 0 f3_2 f3_3 f3_4 f3_5 f3_6 f43_10 a8 a9 a10 a50 a51 a64).2.2.2.2.2.2.2.2.2.2.1, (kc_teas_30 f f3_0 f3_1 f43_0 f63_2 f63_3 a4 a5 a6 a7 a44 a45 a46 a47 a48 a49 l11 x1.toInt.toNat 0 0 f3_2 f3_3 f3_4 f3_5 f3_6 f43_10 a8 a9 a10 a50 a51 a64).2.2.2.2.2.2.2.2.2.2.2.1, (kc_teas_30 f f3_0 f3_1 f43_0 f63_2 f63_3 a4 a5 a6 a7 a44 a45 a46 a47 a48 a49 l11 x1.toInt.toNat 0 0 f3_2 f3_3 f3_4 f3_5 f3_6 f43_10 a8 a9 a10 a50 a51 a64).2.2.2.2.2.2.2.2.2.2.2.2)))
theorem t_kc_teas {f D : Nat} {F : Nat → Nat → Int32} {A : Nat → List Int32} {L : Nat → List Int64} {Q : Option Value → sm_H → Prop} {x1 : Int32} (K : Q (some (.int ((kc_teas f (F 3 0) (F 3 1) (F 3 2) (F 3 3) (F 3 4) (F 3 5) (F 3 6) (F 43 0) (F 43 10) (F 63 2) (F 63 3) (A 4) (A 5) (A 6) (A 7) (A 8) (A 9) (A 10) (A 44) (A 45) (A 46) (A 47) (A 48) (A 49) (A 50) (A 51) (A 64) (L 11) x1).1))) (hz (uF (uF (uF (uF (uF (uF F 3 2 ((kc_teas f (F 3 0) (F 3 1) (F 3 2) (F 3 3) (F 3 4) (F 3 5) (F 3 6) (F 43 0) (F 43 10) (F 63 2) (F 63 3) (A 4) (A 5) (A 6) (A 7) (A 8) (A 9) (A 10) (A 44) (A 45) (A 46) (A 47) (A 48) (A 49) (A 50) (A 51) (A 64) (L 11) x1).2.1)) 3 3 ((kc_teas f (F 3 0) (F 3 1) (F 3 2) (F 3 3) (F 3 4) (F 3 5) (F 3 6) (F 43 0) (F 43 10) (F 63 2) (F 63 3) (A 4) (A 5) (A 6) (A 7) (A 8) (A 9) (A 10) (A 44) (A 45) (A 46) (A 47) (A 48) (A 49) (A 50) (A 51) (A 64) (L 11) x1).2.2.1)) 3 4 ((kc_teas f (F 3 0) (F 3 1) (F 3 2) (F 3 3) (F 3 4) (F 3 5) (F 3 6) (F 43 0) (F 43 10) (F 63 2) (F 63 3) (A 4) (A 5) (A 6) (A 7) (A 8) (A 9) (A 10) (A 44) (A 45) (A 46) (A 47) (A 48) (A 49) (A 50) (A 51) (A 64) (L 11) x1).2.2.2.1)) 3 5 ((kc_teas f (F 3 0) (F 3 1) (F 3 2) (F 3 3) (F 3 4) (F 3 5) (F 3 6) (F 43 0) (F 43 10) (F 63 2) (F 63 3) (A 4) (A 5) (A 6) (A 7) (A 8) (A 9) (A 10) (A 44) (A 45) (A 46) (A 47) (A 48) (A 49) (A 50) (A 51) (A 64) (L 11) x1).2.2.2.2.1)) 3 6 ((kc_teas f (F 3 0) (F 3 1) (F 3 2) (F 3 3) (F 3 4) (F 3 5) (F 3 6) (F 43 0) (F 43 10) (F 63 2) (F 63 3) (A 4) (A 5) (A 6) (A 7) (A 8) (A 9) (A 10) (A 44) (A 45) (A 46) (A 47) (A 48) (A 49) (A 50) (A 51) (A 64) (L 11) x1).2.2.2.2.2.1)) 43 10 ((kc_teas f (F 3 0) (F 3 1) (F 3 2) (F 3 3) (F 3 4) (F 3 5) (F 3 6) (F 43 0) (F 43 10) (F 63 2) (F 63 3) (A 4) (A 5) (A 6) (A 7) (A 8) (A 9) (A 10) (A 44) (A 45) (A 46) (A 47) (A 48) (A 49) (A 50) (A 51) (A 64) (L 11) x1).2.2.2.2.2.2.1)) (uA (uA (uA (uA (uA (uA A 8 ((kc_teas f (F 3 0) (F 3 1) (F 3 2) (F 3 3) (F 3 4) (F 3 5) (F 3 6) (F 43 0) (F 43 10) (F 63 2) (F 63 3) (A 4) (A 5) (A 6) (A 7) (A 8) (A 9) (A 10) (A 44) (A 45) (A 46) (A 47) (A 48) (A 49) (A 50) (A 51) (A 64) (L 11) x1).2.2.2.2.2.2.2.1)) 9 ((kc_teas f (F 3 0) (F 3 1) (F 3 2) (F 3 3) (F 3 4) (F 3 5) (F 3 6) (F 43 0) (F 43 10) (F 63 2) (F 63 3) (A 4) (A 5) (A 6) (A 7) (A 8) (A 9) (A 10) (A 44) (A 45) (A 46) (A 47) (A 48) (A 49) (A 50) (A 51) (A 64) (L 11) x1).2.2.2.2.2.2.2.2.1)) 10 ((kc_teas f (F 3 0) (F 3 1) (F 3 2) (F 3 3) (F 3 4) (F 3 5) (F 3 6) (F 43 0) (F 43 10) (F 63 2) (F 63 3) (A 4) (A 5) (A 6) (A 7) (A 8) (A 9) (A 10) (A 44) (A 45) (A 46) (A 47) (A 48) (A 49) (A 50) (A 51) (A 64) (L 11) x1).2.2.2.2.2.2.2.2.2.1)) 50 ((kc_teas f (F 3 0) (F 3 1) (F 3 2) (F 3 3) (F 3 4) (F 3 5) (F 3 6) (F 43 0) (F 43 10) (F 63 2) (F 63 3) (A 4) (A 5) (A 6) (A 7) (A 8) (A 9) (A 10) (A 44) (A 45) (A 46) (A 47) (A 48) (A 49) (A 50) (A 51) (A 64) (L 11) x1).2.2.2.2.2.2.2.2.2.2.1)) 51 ((kc_teas f (F 3 0) (F 3 1) (F 3 2) (F 3 3) (F 3 4) (F 3 5) (F 3 6) (F 43 0) (F 43 10) (F 63 2) (F 63 3) (A 4) (A 5) (A 6) (A 7) (A 8) (A 9) (A 10) (A 44) (A 45) (A 46) (A 47) (A 48) (A 49) (A 50) (A 51) (A 64) (L 11) x1).2.2.2.2.2.2.2.2.2.2.2.1)) 64 ((kc_teas f (F 3 0) (F 3 1) (F 3 2) (F 3 3) (F 3 4) (F 3 5) (F 3 6) (F 43 0) (F 43 10) (F 63 2) (F 63 3) (A 4) (A 5) (A 6) (A 7) (A 8) (A 9) (A 10) (A 44) (A 45) (A 46) (A 47) (A 48) (A 49) (A 50) (A 51) (A 64) (L 11) x1).2.2.2.2.2.2.2.2.2.2.2.2)) L)) : wl_M f D 47 [.ref 0, .int x1] (hz F A L) Q := by
  generalize hT : (kc_teas f (F 3 0) (F 3 1) (F 3 2) (F 3 3) (F 3 4) (F 3 5) (F 3 6) (F 43 0) (F 43 10) (F 63 2) (F 63 3) (A 4) (A 5) (A 6) (A 7) (A 8) (A 9) (A 10) (A 44) (A 45) (A 46) (A 47) (A 48) (A 49) (A 50) (A 51) (A 64) (L 11) x1) = T at K
  have hE : T = (if (kc_within x1 1 60) = 0 then ((-1), (F 3 2), (F 3 3), (F 3 4), (F 3 5), (F 3 6), (F 43 10), (A 8), (A 9), (A 10), (A 50), (A 51), (A 64)) else (if (F 3 2) = (-1) then ((-2), (F 3 2), (F 3 3), (F 3 4), (F 3 5), (F 3 6), (F 43 10), (A 8), (A 9), (A 10), (A 50), (A 51), (A 64)) else ((kc_teas_30 f (F 3 0) (F 3 1) (F 43 0) (F 63 2) (F 63 3) (A 4) (A 5) (A 6) (A 7) (A 44) (A 45) (A 46) (A 47) (A 48) (A 49) (L 11) x1.toInt.toNat 0 0 (F 3 2) (F 3 3) (F 3 4) (F 3 5) (F 3 6) (F 43 10) (A 8) (A 9) (A 10) (A 50) (A 51) (A 64)).1, (kc_teas_30 f (F 3 0) (F 3 1) (F 43 0) (F 63 2) (F 63 3) (A 4) (A 5) (A 6) (A 7) (A 44) (A 45) (A 46) (A 47) (A 48) (A 49) (L 11) x1.toInt.toNat 0 0 (F 3 2) (F 3 3) (F 3 4) (F 3 5) (F 3 6) (F 43 10) (A 8) (A 9) (A 10) (A 50) (A 51) (A 64)).2.1, (kc_teas_30 f (F 3 0) (F 3 1) (F 43 0) (F 63 2) (F 63 3) (A 4) (A 5) (A 6) (A 7) (A 44) (A 45) (A 46) (A 47) (A 48) (A 49) (L 11) x1.toInt.toNat 0 0 (F 3 2) (F 3 3) (F 3 4) (F 3 5) (F 3 6) (F 43 10) (A 8) (A 9) (A 10) (A 50) (A 51) (A 64)).2.2.1, (kc_teas_30 f (F 3 0) (F 3 1) (F 43 0) (F 63 2) (F 63 3) (A 4) (A 5) (A 6) (A 7) (A 44) (A 45) (A 46) (A 47) (A 48) (A 49) (L 11) x1.toInt.toNat 0 0 (F 3 2) (F 3 3) (F 3 4) (F 3 5) (F 3 6) (F 43 10) (A 8) (A 9) (A 10) (A 50) (A 51) (A 64)).2.2.2.1, (kc_teas_30 f (F 3 0) (F 3 1) (F 43 0) (F 63 2) (F 63 3) (A 4) (A 5) (A 6) (A 7) (A 44) (A 45) (A 46) (A 47) (A 48) (A 49) (L 11) x1.toInt.toNat 0 0 (F 3 2) (F 3 3) (F 3 4) (F 3 5) (F 3 6) (F 43 10) (A 8) (A 9) (A 10) (A 50) (A 51) (A 64)).2.2.2.2.1, (kc_teas_30 f (F 3 0) (F 3 1) (F 43 0) (F 63 2) (F 63 3) (A 4) (A 5) (A 6) (A 7) (A 44) (A 45) (A 46) (A 47) (A 48) (A 49) (L 11) x1.toInt.toNat 0 0 (F 3 2) (F 3 3) (F 3 4) (F 3 5) (F 3 6) (F 43 10) (A 8) (A 9) (A 10) (A 50) (A 51) (A 64)).2.2.2.2.2.1, (kc_teas_30 f (F 3 0) (F 3 1) (F 43 0) (F 63 2) (F 63 3) (A 4) (A 5) (A 6) (A 7) (A 44) (A 45) (A 46) (A 47) (A 48) (A 49) (L 11) x1.toInt.toNat 0 0 (F 3 2) (F 3 3) (F 3 4) (F 3 5) (F 3 6) (F 43 10) (A 8) (A 9) (A 10) (A 50) (A 51) (A 64)).2.2.2.2.2.2.1, (kc_teas_30 f (F 3 0) (F 3 1) (F 43 0) (F 63 2) (F 63 3) (A 4) (A 5) (A 6) (A 7) (A 44) (A 45) (A 46) (A 47) (A 48) (A 49) (L 11) x1.toInt.toNat 0 0 (F 3 2) (F 3 3) (F 3 4) (F 3 5) (F 3 6) (F 43 10) (A 8) (A 9) (A 10) (A 50) (A 51) (A 64)).2.2.2.2.2.2.2.1, (kc_teas_30 f (F 3 0) (F 3 1) (F 43 0) (F 63 2) (F 63 3) (A 4) (A 5) (A 6) (A 7) (A 44) (A 45) (A 46) (A 47) (A 48) (A 49) (L 11) x1.toInt.toNat 0 0 (F 3 2) (F 3 3) (F 3 4) (F 3 5) (F 3 6) (F 43 10) (A 8) (A 9) (A 10) (A 50) (A 51) (A 64)).2.2.2.2.2.2.2.2.1, (kc_teas_30 f (F 3 0) (F 3 1) (F 43 0) (F 63 2) (F 63 3) (A 4) (A 5) (A 6) (A 7) (A 44) (A 45) (A 46) (A 47) (A 48) (A 49) (L 11) x1.toInt.toNat 0 0 (F 3 2) (F 3 3) (F 3 4) (F 3 5) (F 3 6) (F 43 10) (A 8) (A 9) (A 10) (A 50) (A 51) (A 64)).2.2.2.2.2.2.2.2.2.1, (kc_teas_30 f (F 3 0) (F 3 1) (F 43 0) (F 63 2) (F 63 3) (A 4) (A 5) (A 6) (A 7) (A 44) (A 45) (A 46) (A 47) (A 48) (A 49) (L 11) x1.toInt.toNat 0 0 (F 3 2) (F 3 3) (F 3 4) (F 3 5) (F 3 6) (F 43 10) (A 8) (A 9) (A 10) (A 50) (A 51) (A 64)).2.2.2.2.2.2.2.2.2.2.1, (kc_teas_30 f (F 3 0) (F 3 1) (F 43 0) (F 63 2) (F 63 3) (A 4) (A 5) (A 6) (A 7) (A 44) (A 45) (A 46) (A 47) (A 48) (A 49) (L 11) x1.toInt.toNat 0 0 (F 3 2) (F 3 3) (F 3 4) (F 3 5) (F 3 6) (F 43 10) (A 8) (A 9) (A 10) (A 50) (A 51) (A 64)).2.2.2.2.2.2.2.2.2.2.2.1, (kc_teas_30 f (F 3 0) (F 3 1) (F 43 0) (F 63 2) (F 63 3) (A 4) (A 5) (A 6) (A 7) (A 44) (A 45) (A 46) (A 47) (A 48) (A 49) (L 11) x1.toInt.toNat 0 0 (F 3 2) (F 3 3) (F 3 4) (F 3 5) (F 3 6) (F 43 10) (A 8) (A 9) (A 10) (A 50) (A 51) (A 64)).2.2.2.2.2.2.2.2.2.2.2.2))) := hT.symm
  clear hT
  refine w_m (E := mm47) rfl ?_
  show wl_E f f (D - 1) mm47.2.2.2.2.2.2.2.2 0 [some (.ref 0), some (.int x1), none, none] [] (hz F A L) Q
  refine w_n 3 (pc1 := 4) (ls1 := [some (.ref 0), some (.int x1), none, none]) (st1 := [.int 60, .int 1, .int x1]) (hp1 := (hz F A L)) rfl ?_
  refine w_c rfl rfl (t_kc_within ?_)
  show wl_E f _ _ mm47.2.2.2.2.2.2.2.2 7 [some (.ref 0), some (.int x1), none, none] [.int (kc_within x1 1 60)] (hz F A L) _
  generalize hG34 : (kc_within x1 1 60) = G34 at hE ⊢
  refine w_zne (p3 := 10) rfl rfl (fun h => ?_) (fun h => ?_)
  · have h1 : ¬ G34 = 0 := h
    rw [if_neg h1] at hE
    refine w_n 4 (pc1 := 20) (ls1 := [some (.ref 0), some (.int x1), none, none]) (st1 := [.int (-1), .int (F 3 2)]) (hp1 := (hz F A L)) rfl ?_
    refine w_ne (p3 := 23) rfl rfl (fun h => ?_) (fun h => ?_)
    · have h2 : ¬ (F 3 2) = (-1) := h
      rw [if_neg h2] at hE
      refine w_n 4 (pc1 := 30) (ls1 := [some (.ref 0), some (.int x1), some (.int 0), some (.int 0)]) (st1 := []) (hp1 := (hz F A L)) rfl ?_
      refine t_kc_teas_30 x1.toInt.toNat (show x1.toInt.toNat = (x1.toInt - (0 : Int32).toInt).toNat by have e0 : (0 : Int32).toInt = 0 := rfl; first | rfl | omega) ?_
      intro r1
      show wl_E f _ _ mm47.2.2.2.2.2.2.2.2 58 [some (.ref 0), some (.int x1), some (.int (kc_teas_30 f (F 3 0) (F 3 1) (F 43 0) (F 63 2) (F 63 3) (A 4) (A 5) (A 6) (A 7) (A 44) (A 45) (A 46) (A 47) (A 48) (A 49) (L 11) x1.toInt.toNat 0 0 (F 3 2) (F 3 3) (F 3 4) (F 3 5) (F 3 6) (F 43 10) (A 8) (A 9) (A 10) (A 50) (A 51) (A 64)).1), some (.int r1)] [] (hz (uF (uF (uF (uF (uF (uF F 3 2 (kc_teas_30 f (F 3 0) (F 3 1) (F 43 0) (F 63 2) (F 63 3) (A 4) (A 5) (A 6) (A 7) (A 44) (A 45) (A 46) (A 47) (A 48) (A 49) (L 11) x1.toInt.toNat 0 0 (F 3 2) (F 3 3) (F 3 4) (F 3 5) (F 3 6) (F 43 10) (A 8) (A 9) (A 10) (A 50) (A 51) (A 64)).2.1) 3 3 (kc_teas_30 f (F 3 0) (F 3 1) (F 43 0) (F 63 2) (F 63 3) (A 4) (A 5) (A 6) (A 7) (A 44) (A 45) (A 46) (A 47) (A 48) (A 49) (L 11) x1.toInt.toNat 0 0 (F 3 2) (F 3 3) (F 3 4) (F 3 5) (F 3 6) (F 43 10) (A 8) (A 9) (A 10) (A 50) (A 51) (A 64)).2.2.1) 3 4 (kc_teas_30 f (F 3 0) (F 3 1) (F 43 0) (F 63 2) (F 63 3) (A 4) (A 5) (A 6) (A 7) (A 44) (A 45) (A 46) (A 47) (A 48) (A 49) (L 11) x1.toInt.toNat 0 0 (F 3 2) (F 3 3) (F 3 4) (F 3 5) (F 3 6) (F 43 10) (A 8) (A 9) (A 10) (A 50) (A 51) (A 64)).2.2.2.1) 3 5 (kc_teas_30 f (F 3 0) (F 3 1) (F 43 0) (F 63 2) (F 63 3) (A 4) (A 5) (A 6) (A 7) (A 44) (A 45) (A 46) (A 47) (A 48) (A 49) (L 11) x1.toInt.toNat 0 0 (F 3 2) (F 3 3) (F 3 4) (F 3 5) (F 3 6) (F 43 10) (A 8) (A 9) (A 10) (A 50) (A 51) (A 64)).2.2.2.2.1) 3 6 (kc_teas_30 f (F 3 0) (F 3 1) (F 43 0) (F 63 2) (F 63 3) (A 4) (A 5) (A 6) (A 7) (A 44) (A 45) (A 46) (A 47) (A 48) (A 49) (L 11) x1.toInt.toNat 0 0 (F 3 2) (F 3 3) (F 3 4) (F 3 5) (F 3 6) (F 43 10) (A 8) (A 9) (A 10) (A 50) (A 51) (A 64)).2.2.2.2.2.1) 43 10 (kc_teas_30 f (F 3 0) (F 3 1) (F 43 0) (F 63 2) (F 63 3) (A 4) (A 5) (A 6) (A 7) (A 44) (A 45) (A 46) (A 47) (A 48) (A 49) (L 11) x1.toInt.toNat 0 0 (F 3 2) (F 3 3) (F 3 4) (F 3 5) (F 3 6) (F 43 10) (A 8) (A 9) (A 10) (A 50) (A 51) (A 64)).2.2.2.2.2.2.1) (uA (uA (uA (uA (uA (uA A 8 (kc_teas_30 f (F 3 0) (F 3 1) (F 43 0) (F 63 2) (F 63 3) (A 4) (A 5) (A 6) (A 7) (A 44) (A 45) (A 46) (A 47) (A 48) (A 49) (L 11) x1.toInt.toNat 0 0 (F 3 2) (F 3 3) (F 3 4) (F 3 5) (F 3 6) (F 43 10) (A 8) (A 9) (A 10) (A 50) (A 51) (A 64)).2.2.2.2.2.2.2.1) 9 (kc_teas_30 f (F 3 0) (F 3 1) (F 43 0) (F 63 2) (F 63 3) (A 4) (A 5) (A 6) (A 7) (A 44) (A 45) (A 46) (A 47) (A 48) (A 49) (L 11) x1.toInt.toNat 0 0 (F 3 2) (F 3 3) (F 3 4) (F 3 5) (F 3 6) (F 43 10) (A 8) (A 9) (A 10) (A 50) (A 51) (A 64)).2.2.2.2.2.2.2.2.1) 10 (kc_teas_30 f (F 3 0) (F 3 1) (F 43 0) (F 63 2) (F 63 3) (A 4) (A 5) (A 6) (A 7) (A 44) (A 45) (A 46) (A 47) (A 48) (A 49) (L 11) x1.toInt.toNat 0 0 (F 3 2) (F 3 3) (F 3 4) (F 3 5) (F 3 6) (F 43 10) (A 8) (A 9) (A 10) (A 50) (A 51) (A 64)).2.2.2.2.2.2.2.2.2.1) 50 (kc_teas_30 f (F 3 0) (F 3 1) (F 43 0) (F 63 2) (F 63 3) (A 4) (A 5) (A 6) (A 7) (A 44) (A 45) (A 46) (A 47) (A 48) (A 49) (L 11) x1.toInt.toNat 0 0 (F 3 2) (F 3 3) (F 3 4) (F 3 5) (F 3 6) (F 43 10) (A 8) (A 9) (A 10) (A 50) (A 51) (A 64)).2.2.2.2.2.2.2.2.2.2.1) 51 (kc_teas_30 f (F 3 0) (F 3 1) (F 43 0) (F 63 2) (F 63 3) (A 4) (A 5) (A 6) (A 7) (A 44) (A 45) (A 46) (A 47) (A 48) (A 49) (L 11) x1.toInt.toNat 0 0 (F 3 2) (F 3 3) (F 3 4) (F 3 5) (F 3 6) (F 43 10) (A 8) (A 9) (A 10) (A 50) (A 51) (A 64)).2.2.2.2.2.2.2.2.2.2.2.1) 64 (kc_teas_30 f (F 3 0) (F 3 1) (F 43 0) (F 63 2) (F 63 3) (A 4) (A 5) (A 6) (A 7) (A 44) (A 45) (A 46) (A 47) (A 48) (A 49) (L 11) x1.toInt.toNat 0 0 (F 3 2) (F 3 3) (F 3 4) (F 3 5) (F 3 6) (F 43 10) (A 8) (A 9) (A 10) (A 50) (A 51) (A 64)).2.2.2.2.2.2.2.2.2.2.2.2) L) _
      generalize hG74 : (kc_teas_30 f (F 3 0) (F 3 1) (F 43 0) (F 63 2) (F 63 3) (A 4) (A 5) (A 6) (A 7) (A 44) (A 45) (A 46) (A 47) (A 48) (A 49) (L 11) x1.toInt.toNat 0 0 (F 3 2) (F 3 3) (F 3 4) (F 3 5) (F 3 6) (F 43 10) (A 8) (A 9) (A 10) (A 50) (A 51) (A 64)) = G74 at hE ⊢
      refine w_n 1 (pc1 := 59) (ls1 := [some (.ref 0), some (.int x1), some (.int G74.1), some (.int r1)]) (st1 := [.int G74.1]) (hp1 := (hz (uF (uF (uF (uF (uF (uF F 3 2 G74.2.1) 3 3 G74.2.2.1) 3 4 G74.2.2.2.1) 3 5 G74.2.2.2.2.1) 3 6 G74.2.2.2.2.2.1) 43 10 G74.2.2.2.2.2.2.1) (uA (uA (uA (uA (uA (uA A 8 G74.2.2.2.2.2.2.2.1) 9 G74.2.2.2.2.2.2.2.2.1) 10 G74.2.2.2.2.2.2.2.2.2.1) 50 G74.2.2.2.2.2.2.2.2.2.2.1) 51 G74.2.2.2.2.2.2.2.2.2.2.2.1) 64 G74.2.2.2.2.2.2.2.2.2.2.2.2) L)) rfl ?_
      subst T
      exact w_ri rfl (cvQ rfl rfl rfl K)
    · have h2 : (F 3 2) = (-1) := h
      rw [if_pos h2] at hE
      refine w_n 1 (pc1 := 25) (ls1 := [some (.ref 0), some (.int x1), none, none]) (st1 := [.int (-2)]) (hp1 := (hz F A L)) rfl ?_
      subst T
      exact w_ri rfl (cvQ (funext fun q => funext fun z => if k0 : q = 3 ∧ z = 2 then by obtain ⟨w1, w2⟩ := k0; subst w1; subst w2; exact Eq.trans (b := (F 3 2)) rfl rfl else if k1 : q = 3 ∧ z = 3 then by obtain ⟨w1, w2⟩ := k1; subst w1; subst w2; exact Eq.trans (b := (F 3 3)) rfl rfl else if k2 : q = 3 ∧ z = 4 then by obtain ⟨w1, w2⟩ := k2; subst w1; subst w2; exact Eq.trans (b := (F 3 4)) rfl rfl else if k3 : q = 3 ∧ z = 5 then by obtain ⟨w1, w2⟩ := k3; subst w1; subst w2; exact Eq.trans (b := (F 3 5)) rfl rfl else if k4 : q = 3 ∧ z = 6 then by obtain ⟨w1, w2⟩ := k4; subst w1; subst w2; exact Eq.trans (b := (F 3 6)) rfl rfl else if k5 : q = 43 ∧ z = 10 then by obtain ⟨w1, w2⟩ := k5; subst w1; subst w2; exact Eq.trans (b := (F 43 10)) rfl rfl else by unfold uF; simp only [nb2 k0, nb2 k1, nb2 k2, nb2 k3, nb2 k4, nb2 k5, cond_false]) (funext fun q => if k0 : q = 8 then by subst k0; exact Eq.trans (b := (A 8)) rfl rfl else if k1 : q = 9 then by subst k1; exact Eq.trans (b := (A 9)) rfl rfl else if k2 : q = 10 then by subst k2; exact Eq.trans (b := (A 10)) rfl rfl else if k3 : q = 50 then by subst k3; exact Eq.trans (b := (A 50)) rfl rfl else if k4 : q = 51 then by subst k4; exact Eq.trans (b := (A 51)) rfl rfl else if k5 : q = 64 then by subst k5; exact Eq.trans (b := (A 64)) rfl rfl else by unfold uA; simp only [nb1 k0, nb1 k1, nb1 k2, nb1 k3, nb1 k4, nb1 k5, cond_false]) rfl K)
  · have h1 : G34 = 0 := h
    rw [if_pos h1] at hE
    refine w_n 1 (pc1 := 11) (ls1 := [some (.ref 0), some (.int x1), none, none]) (st1 := [.int (-1)]) (hp1 := (hz F A L)) rfl ?_
    subst T
    exact w_ri rfl (cvQ (funext fun q => funext fun z => if k0 : q = 3 ∧ z = 2 then by obtain ⟨w1, w2⟩ := k0; subst w1; subst w2; exact Eq.trans (b := (F 3 2)) rfl rfl else if k1 : q = 3 ∧ z = 3 then by obtain ⟨w1, w2⟩ := k1; subst w1; subst w2; exact Eq.trans (b := (F 3 3)) rfl rfl else if k2 : q = 3 ∧ z = 4 then by obtain ⟨w1, w2⟩ := k2; subst w1; subst w2; exact Eq.trans (b := (F 3 4)) rfl rfl else if k3 : q = 3 ∧ z = 5 then by obtain ⟨w1, w2⟩ := k3; subst w1; subst w2; exact Eq.trans (b := (F 3 5)) rfl rfl else if k4 : q = 3 ∧ z = 6 then by obtain ⟨w1, w2⟩ := k4; subst w1; subst w2; exact Eq.trans (b := (F 3 6)) rfl rfl else if k5 : q = 43 ∧ z = 10 then by obtain ⟨w1, w2⟩ := k5; subst w1; subst w2; exact Eq.trans (b := (F 43 10)) rfl rfl else by unfold uF; simp only [nb2 k0, nb2 k1, nb2 k2, nb2 k3, nb2 k4, nb2 k5, cond_false]) (funext fun q => if k0 : q = 8 then by subst k0; exact Eq.trans (b := (A 8)) rfl rfl else if k1 : q = 9 then by subst k1; exact Eq.trans (b := (A 9)) rfl rfl else if k2 : q = 10 then by subst k2; exact Eq.trans (b := (A 10)) rfl rfl else if k3 : q = 50 then by subst k3; exact Eq.trans (b := (A 50)) rfl rfl else if k4 : q = 51 then by subst k4; exact Eq.trans (b := (A 51)) rfl rfl else if k5 : q = 64 then by subst k5; exact Eq.trans (b := (A 64)) rfl rfl else by unfold uA; simp only [nb1 k0, nb1 k1, nb1 k2, nb1 k3, nb1 k4, nb1 k5, cond_false]) rfl K)
noncomputable def km_feelsOne_2   : Nat → Int32 → List Int32 → List Int32
  | 0, _, a84 => a84
  | m + 1, y2, a84 => (km_feelsOne_2 m (y2 + 1) (a84.set y2.toInt.toNat 0))
theorem t_km_feelsOne_2 {f : Nat} {Q : Option Value → sm_H → Prop} : ∀ (m : Nat) {B D : Nat} {F : Nat → Nat → Int32} {A : Nat → List Int32} {L : Nat → List Int64} {x1 : Int32} {y2 : Int32}, m = (8 - y2.toInt).toNat → (∀ q2 : Int32, wl_E f B D mm179.2.2.2.2.2.2.2.2 21 [some (.ref 67), some (.int x1), some (.int q2)] [] (hz F (uA A 84 (km_feelsOne_2 m y2 (A 84))) L) Q) → wl_E f B D mm179.2.2.2.2.2.2.2.2 2 [some (.ref 67), some (.int x1), some (.int y2)] [] (hz F A L) Q := by
  intro m
  induction m with
  | zero =>
    intro B D F A L x1 y2 hm K
    generalize hT : (km_feelsOne_2 0 y2 (A 84)) = T at K
    have hE : T = (A 84) := hT.symm
    clear hT
    refine w_n 2 (pc1 := 5) (ls1 := [some (.ref 67), some (.int x1), some (.int y2)]) (st1 := [.int 8, .int y2]) (hp1 := (hz F A L)) rfl ?_
    refine w_ge (p3 := 8) rfl rfl (fun hb => ?_) (fun h => False.elim (by have h : y2.toInt < 8 := h; omega))
    subst T
    exact cvE rfl (funext fun q => if k0 : q = 84 then by subst k0; exact Eq.trans (b := (A 84)) rfl rfl else by unfold uA; simp only [nb1 k0, cond_false]) rfl (K _)
  | succ m ih =>
    intro B D F A L x1 y2 hm K
    generalize hT : (km_feelsOne_2 (m + 1) y2 (A 84)) = T at K
    have hE : T = (km_feelsOne_2 m (y2 + 1) ((A 84).set y2.toInt.toNat 0)) := hT.symm
    clear hT
    refine w_n 2 (pc1 := 5) (ls1 := [some (.ref 67), some (.int x1), some (.int y2)]) (st1 := [.int 8, .int y2]) (hp1 := (hz F A L)) rfl ?_
    refine w_ge (p3 := 8) rfl rfl (fun h => False.elim (by have h : 8 ≤ y2.toInt := h; omega)) (fun hb => ?_)
    refine w_n 4 (pc1 := 14) (ls1 := [some (.ref 67), some (.int x1), some (.int y2)]) (st1 := [.int 0, .int y2, .ref 84]) (hp1 := (hz F A L)) rfl ?_
    refine w_as (k := 84) (l := (A 84)) (hp1 := (hz F (uA A 84 ((A 84).set y2.toInt.toNat 0)) L)) rfl rfl rfl (hz_s84 _) (fun ab => ?_)
    refine w_n 2 (pc1 := 2) (ls1 := [some (.ref 67), some (.int x1), some (.int (y2 + 1))]) (st1 := []) (hp1 := (hz F (uA A 84 ((A 84).set y2.toInt.toNat 0)) L)) rfl ?_
    subst T
    have hb2 := i_up (B := (8 : Int32)) hb
    have hb3 : y2.toInt < 8 := hb
    exact ih (show m = (8 - (y2 + 1).toInt).toNat by rw [hb2]; omega) (fun q2 => cvE rfl (funext fun q => if k0 : q = 84 then by subst k0; exact Eq.trans (b := (km_feelsOne_2 m (y2 + 1) ((A 84).set y2.toInt.toNat 0))) rfl rfl else by unfold uA; simp only [nb1 k0, cond_false]) rfl (K q2))
noncomputable def km_feelsOne (a68 : List Int32) (a84 : List Int32) (x1 : Int32) : List Int32 := ((((((km_feelsOne_2 8 0 a84).set 0 x1).set 4 (a68.getD (12 + x1).toInt.toNat 0)).set 5 (a68.getD (36 + x1).toInt.toNat 0)).set 6 (a68.getD (60 + x1).toInt.toNat 0)).set 7 (a68.getD 147 0))
theorem t_km_feelsOne {f D : Nat} {F : Nat → Nat → Int32} {A : Nat → List Int32} {L : Nat → List Int64} {Q : Option Value → sm_H → Prop} {x1 : Int32} (K : Q none (hz F (uA A 84 (km_feelsOne (A 68) (A 84) x1)) L)) : wl_M f D 179 [.ref 67, .int x1] (hz F A L) Q := by
  generalize hT : (km_feelsOne (A 68) (A 84) x1) = T at K
  have hE : T = ((((((km_feelsOne_2 8 0 (A 84)).set 0 x1).set 4 ((A 68).getD (12 + x1).toInt.toNat 0)).set 5 ((A 68).getD (36 + x1).toInt.toNat 0)).set 6 ((A 68).getD (60 + x1).toInt.toNat 0)).set 7 ((A 68).getD 147 0)) := hT.symm
  clear hT
  refine w_m (E := mm179) rfl ?_
  show wl_E f f (D - 1) mm179.2.2.2.2.2.2.2.2 0 [some (.ref 67), some (.int x1), none] [] (hz F A L) Q
  refine w_n 2 (pc1 := 2) (ls1 := [some (.ref 67), some (.int x1), some (.int 0)]) (st1 := []) (hp1 := (hz F A L)) rfl ?_
  refine t_km_feelsOne_2 8 (show (8 : Nat) = (8 - (0 : Int32).toInt).toNat by have e0 : (0 : Int32).toInt = 0 := rfl; first | rfl | omega) ?_
  intro r1
  show wl_E f _ _ mm179.2.2.2.2.2.2.2.2 21 [some (.ref 67), some (.int x1), some (.int r1)] [] (hz F (uA A 84 (km_feelsOne_2 8 0 (A 84))) L) _
  generalize hG76 : (km_feelsOne_2 8 0 (A 84)) = G76 at hE ⊢
  refine w_n 4 (pc1 := 27) (ls1 := [some (.ref 67), some (.int x1), some (.int r1)]) (st1 := [.int x1, .int 0, .ref 84]) (hp1 := (hz F (uA A 84 G76) L)) rfl ?_
  refine w_as (k := 84) (l := G76) (hp1 := (hz F (uA (uA A 84 G76) 84 (G76.set 0 x1)) L)) rfl rfl rfl (hz_s84 _) (fun _ => ?_)
  refine w_n 8 (pc1 := 41) (ls1 := [some (.ref 67), some (.int x1), some (.int r1)]) (st1 := [.int (12 + x1), .ref 68, .int 4, .ref 84]) (hp1 := (hz F (uA (uA A 84 G76) 84 (G76.set 0 x1)) L)) rfl ?_
  refine w_al (k := 68) (l := (A 68)) rfl rfl rfl (fun _ => ?_)
  refine w_as (k := 84) (l := (G76.set 0 x1)) (hp1 := (hz F (uA (uA (uA A 84 G76) 84 (G76.set 0 x1)) 84 ((G76.set 0 x1).set 4 ((A 68).getD (12 + x1).toInt.toNat 0))) L)) rfl rfl rfl (hz_s84 _) (fun _ => ?_)
  refine w_n 8 (pc1 := 56) (ls1 := [some (.ref 67), some (.int x1), some (.int r1)]) (st1 := [.int (36 + x1), .ref 68, .int 5, .ref 84]) (hp1 := (hz F (uA (uA (uA A 84 G76) 84 (G76.set 0 x1)) 84 ((G76.set 0 x1).set 4 ((A 68).getD (12 + x1).toInt.toNat 0))) L)) rfl ?_
  refine w_al (k := 68) (l := (A 68)) rfl rfl rfl (fun _ => ?_)
  refine w_as (k := 84) (l := ((G76.set 0 x1).set 4 ((A 68).getD (12 + x1).toInt.toNat 0))) (hp1 := (hz F (uA (uA (uA (uA A 84 G76) 84 (G76.set 0 x1)) 84 ((G76.set 0 x1).set 4 ((A 68).getD (12 + x1).toInt.toNat 0))) 84 (((G76.set 0 x1).set 4 ((A 68).getD (12 + x1).toInt.toNat 0)).set 5 ((A 68).getD (36 + x1).toInt.toNat 0))) L)) rfl rfl rfl (hz_s84 _) (fun _ => ?_)
  refine w_n 8 (pc1 := 72) (ls1 := [some (.ref 67), some (.int x1), some (.int r1)]) (st1 := [.int (60 + x1), .ref 68, .int 6, .ref 84]) (hp1 := (hz F (uA (uA (uA (uA A 84 G76) 84 (G76.set 0 x1)) 84 ((G76.set 0 x1).set 4 ((A 68).getD (12 + x1).toInt.toNat 0))) 84 (((G76.set 0 x1).set 4 ((A 68).getD (12 + x1).toInt.toNat 0)).set 5 ((A 68).getD (36 + x1).toInt.toNat 0))) L)) rfl ?_
  refine w_al (k := 68) (l := (A 68)) rfl rfl rfl (fun _ => ?_)
  refine w_as (k := 84) (l := (((G76.set 0 x1).set 4 ((A 68).getD (12 + x1).toInt.toNat 0)).set 5 ((A 68).getD (36 + x1).toInt.toNat 0))) (hp1 := (hz F (uA (uA (uA (uA (uA A 84 G76) 84 (G76.set 0 x1)) 84 ((G76.set 0 x1).set 4 ((A 68).getD (12 + x1).toInt.toNat 0))) 84 (((G76.set 0 x1).set 4 ((A 68).getD (12 + x1).toInt.toNat 0)).set 5 ((A 68).getD (36 + x1).toInt.toNat 0))) 84 ((((G76.set 0 x1).set 4 ((A 68).getD (12 + x1).toInt.toNat 0)).set 5 ((A 68).getD (36 + x1).toInt.toNat 0)).set 6 ((A 68).getD (60 + x1).toInt.toNat 0))) L)) rfl rfl rfl (hz_s84 _) (fun _ => ?_)
  refine w_n 6 (pc1 := 87) (ls1 := [some (.ref 67), some (.int x1), some (.int r1)]) (st1 := [.int 147, .ref 68, .int 7, .ref 84]) (hp1 := (hz F (uA (uA (uA (uA (uA A 84 G76) 84 (G76.set 0 x1)) 84 ((G76.set 0 x1).set 4 ((A 68).getD (12 + x1).toInt.toNat 0))) 84 (((G76.set 0 x1).set 4 ((A 68).getD (12 + x1).toInt.toNat 0)).set 5 ((A 68).getD (36 + x1).toInt.toNat 0))) 84 ((((G76.set 0 x1).set 4 ((A 68).getD (12 + x1).toInt.toNat 0)).set 5 ((A 68).getD (36 + x1).toInt.toNat 0)).set 6 ((A 68).getD (60 + x1).toInt.toNat 0))) L)) rfl ?_
  refine w_al (k := 68) (l := (A 68)) rfl rfl rfl (fun _ => ?_)
  refine w_as (k := 84) (l := ((((G76.set 0 x1).set 4 ((A 68).getD (12 + x1).toInt.toNat 0)).set 5 ((A 68).getD (36 + x1).toInt.toNat 0)).set 6 ((A 68).getD (60 + x1).toInt.toNat 0))) (hp1 := (hz F (uA (uA (uA (uA (uA (uA A 84 G76) 84 (G76.set 0 x1)) 84 ((G76.set 0 x1).set 4 ((A 68).getD (12 + x1).toInt.toNat 0))) 84 (((G76.set 0 x1).set 4 ((A 68).getD (12 + x1).toInt.toNat 0)).set 5 ((A 68).getD (36 + x1).toInt.toNat 0))) 84 ((((G76.set 0 x1).set 4 ((A 68).getD (12 + x1).toInt.toNat 0)).set 5 ((A 68).getD (36 + x1).toInt.toNat 0)).set 6 ((A 68).getD (60 + x1).toInt.toNat 0))) 84 (((((G76.set 0 x1).set 4 ((A 68).getD (12 + x1).toInt.toNat 0)).set 5 ((A 68).getD (36 + x1).toInt.toNat 0)).set 6 ((A 68).getD (60 + x1).toInt.toNat 0)).set 7 ((A 68).getD 147 0))) L)) rfl rfl rfl (hz_s84 _) (fun _ => ?_)
  subst T
  exact w_r rfl rfl (cvQ rfl (funext fun q => if k0 : q = 84 then by subst k0; exact Eq.trans (b := (((((G76.set 0 x1).set 4 ((A 68).getD (12 + x1).toInt.toNat 0)).set 5 ((A 68).getD (36 + x1).toInt.toNat 0)).set 6 ((A 68).getD (60 + x1).toInt.toNat 0)).set 7 ((A 68).getD 147 0))) rfl rfl else by unfold uA; simp only [nb1 k0, cond_false]) rfl K)
noncomputable def km_reckon (x0 : Int32) (x1 : Int32) (x2 : Int32) : Int32 := (if x0 = 2 then (x1 + x2) else (if x0 = 3 then (x1 - x2) else (if x0 = 4 then (x1 * x2) else (if x0 = 5 then (x1 / x2) else (if x0 = 6 then (x1 - x1 / x2 * x2) else (if x0 = 7 then (if x1.toInt < x2.toInt then 1 else 0) else (if x0 = 8 then (if x2.toInt < x1.toInt then 1 else 0) else (if x1 = x2 then 1 else 0))))))))
theorem t_km_reckon {f D : Nat} {F : Nat → Nat → Int32} {A : Nat → List Int32} {L : Nat → List Int64} {Q : Option Value → sm_H → Prop} {x0 : Int32} {x1 : Int32} {x2 : Int32} (K : Q (some (.int (km_reckon x0 x1 x2))) (hz F A L)) : wl_M f D 182 [.int x0, .int x1, .int x2] (hz F A L) Q := by
  generalize hT : (km_reckon x0 x1 x2) = T at K
  have hE : T = (if x0 = 2 then (x1 + x2) else (if x0 = 3 then (x1 - x2) else (if x0 = 4 then (x1 * x2) else (if x0 = 5 then (x1 / x2) else (if x0 = 6 then (x1 - x1 / x2 * x2) else (if x0 = 7 then (if x1.toInt < x2.toInt then 1 else 0) else (if x0 = 8 then (if x2.toInt < x1.toInt then 1 else 0) else (if x1 = x2 then 1 else 0)))))))) := hT.symm
  clear hT
  refine w_m (E := mm182) rfl ?_
  show wl_E f f (D - 1) mm182.2.2.2.2.2.2.2.2 0 [some (.int x0), some (.int x1), some (.int x2)] [] (hz F A L) Q
  refine w_n 1 (pc1 := 1) (ls1 := [some (.int x0), some (.int x1), some (.int x2)]) (st1 := [.int x0]) (hp1 := (hz F A L)) rfl ?_
  by_cases h : x0 = 2
  · have h1 : x0 = 2 := h
    rw [if_pos h1] at hE
    refine w_k h1 ?_
    refine w_n 1 (pc1 := 44) (ls1 := [some (.int x0), some (.int x1), some (.int x2)]) (st1 := []) (hp1 := (hz F A L)) rfl ?_
    refine w_n 3 (pc1 := 47) (ls1 := [some (.int x0), some (.int x1), some (.int x2)]) (st1 := [.int (x1 + x2)]) (hp1 := (hz F A L)) rfl ?_
    subst T
    exact w_ri rfl (cvQ rfl rfl rfl K)
  · have h1 : ¬ x0 = 2 := h
    rw [if_neg h1] at hE
    by_cases h : x0 = 3
    · have h2 : x0 = 3 := h
      rw [if_pos h2] at hE
      refine w_k h2 ?_
      refine w_n 1 (pc1 := 48) (ls1 := [some (.int x0), some (.int x1), some (.int x2)]) (st1 := []) (hp1 := (hz F A L)) rfl ?_
      refine w_n 3 (pc1 := 51) (ls1 := [some (.int x0), some (.int x1), some (.int x2)]) (st1 := [.int (x1 - x2)]) (hp1 := (hz F A L)) rfl ?_
      subst T
      exact w_ri rfl (cvQ rfl rfl rfl K)
    · have h2 : ¬ x0 = 3 := h
      rw [if_neg h2] at hE
      by_cases h : x0 = 4
      · have h3 : x0 = 4 := h
        rw [if_pos h3] at hE
        refine w_k h3 ?_
        refine w_n 1 (pc1 := 52) (ls1 := [some (.int x0), some (.int x1), some (.int x2)]) (st1 := []) (hp1 := (hz F A L)) rfl ?_
        refine w_n 3 (pc1 := 55) (ls1 := [some (.int x0), some (.int x1), some (.int x2)]) (st1 := [.int (x1 * x2)]) (hp1 := (hz F A L)) rfl ?_
        subst T
        exact w_ri rfl (cvQ rfl rfl rfl K)
      · have h3 : ¬ x0 = 4 := h
        rw [if_neg h3] at hE
        by_cases h : x0 = 5
        · have h4 : x0 = 5 := h
          rw [if_pos h4] at hE
          refine w_k h4 ?_
          refine w_n 1 (pc1 := 56) (ls1 := [some (.int x0), some (.int x1), some (.int x2)]) (st1 := []) (hp1 := (hz F A L)) rfl ?_
          refine w_n 2 (pc1 := 58) (ls1 := [some (.int x0), some (.int x1), some (.int x2)]) (st1 := [.int x2, .int x1]) (hp1 := (hz F A L)) rfl ?_
          refine w_dv rfl rfl (fun _ => ?_)
          subst T
          exact w_ri rfl (cvQ rfl rfl rfl K)
        · have h4 : ¬ x0 = 5 := h
          rw [if_neg h4] at hE
          by_cases h : x0 = 6
          · have h5 : x0 = 6 := h
            rw [if_pos h5] at hE
            refine w_k h5 ?_
            refine w_n 1 (pc1 := 60) (ls1 := [some (.int x0), some (.int x1), some (.int x2)]) (st1 := []) (hp1 := (hz F A L)) rfl ?_
            refine w_n 2 (pc1 := 62) (ls1 := [some (.int x0), some (.int x1), some (.int x2)]) (st1 := [.int x2, .int x1]) (hp1 := (hz F A L)) rfl ?_
            refine w_rm rfl rfl (fun _ => ?_)
            subst T
            exact w_ri rfl (cvQ rfl rfl rfl K)
          · have h5 : ¬ x0 = 6 := h
            rw [if_neg h5] at hE
            by_cases h : x0 = 7
            · have h6 : x0 = 7 := h
              rw [if_pos h6] at hE
              refine w_k h6 ?_
              refine w_n 1 (pc1 := 64) (ls1 := [some (.int x0), some (.int x1), some (.int x2)]) (st1 := []) (hp1 := (hz F A L)) rfl ?_
              refine w_n 2 (pc1 := 66) (ls1 := [some (.int x0), some (.int x1), some (.int x2)]) (st1 := [.int x2, .int x1]) (hp1 := (hz F A L)) rfl ?_
              refine w_ge (p3 := 69) rfl rfl (fun h => ?_) (fun h => ?_)
              · have h7 : x2.toInt ≤ x1.toInt := h
                rw [if_neg (Int.not_lt.mpr h7)] at hE
                refine w_n 1 (pc1 := 74) (ls1 := [some (.int x0), some (.int x1), some (.int x2)]) (st1 := [.int 0]) (hp1 := (hz F A L)) rfl ?_
                subst T
                exact w_ri rfl (cvQ rfl rfl rfl K)
              · have h7 : x1.toInt < x2.toInt := h
                rw [if_pos h7] at hE
                refine w_n 2 (pc1 := 74) (ls1 := [some (.int x0), some (.int x1), some (.int x2)]) (st1 := [.int 1]) (hp1 := (hz F A L)) rfl ?_
                subst T
                exact w_ri rfl (cvQ rfl rfl rfl K)
            · have h6 : ¬ x0 = 7 := h
              rw [if_neg h6] at hE
              by_cases h : x0 = 8
              · have h8 : x0 = 8 := h
                rw [if_pos h8] at hE
                refine w_k h8 ?_
                refine w_n 1 (pc1 := 75) (ls1 := [some (.int x0), some (.int x1), some (.int x2)]) (st1 := []) (hp1 := (hz F A L)) rfl ?_
                refine w_n 2 (pc1 := 77) (ls1 := [some (.int x0), some (.int x1), some (.int x2)]) (st1 := [.int x2, .int x1]) (hp1 := (hz F A L)) rfl ?_
                refine w_le (p3 := 80) rfl rfl (fun h => ?_) (fun h => ?_)
                · have h9 : x1.toInt ≤ x2.toInt := h
                  rw [if_neg (Int.not_lt.mpr h9)] at hE
                  refine w_n 1 (pc1 := 85) (ls1 := [some (.int x0), some (.int x1), some (.int x2)]) (st1 := [.int 0]) (hp1 := (hz F A L)) rfl ?_
                  subst T
                  exact w_ri rfl (cvQ rfl rfl rfl K)
                · have h9 : x2.toInt < x1.toInt := h
                  rw [if_pos h9] at hE
                  refine w_n 2 (pc1 := 85) (ls1 := [some (.int x0), some (.int x1), some (.int x2)]) (st1 := [.int 1]) (hp1 := (hz F A L)) rfl ?_
                  subst T
                  exact w_ri rfl (cvQ rfl rfl rfl K)
              · have h8 : ¬ x0 = 8 := h
                rw [if_neg h8] at hE
                have n0 : ¬ x0.toInt = 2 := fun z => h1 (Int32.toInt_inj.mp (show _ = (2 : Int32).toInt from z))
                have n1 : ¬ x0.toInt = 3 := fun z => h2 (Int32.toInt_inj.mp (show _ = (3 : Int32).toInt from z))
                have n2 : ¬ x0.toInt = 4 := fun z => h3 (Int32.toInt_inj.mp (show _ = (4 : Int32).toInt from z))
                have n3 : ¬ x0.toInt = 5 := fun z => h4 (Int32.toInt_inj.mp (show _ = (5 : Int32).toInt from z))
                have n4 : ¬ x0.toInt = 6 := fun z => h5 (Int32.toInt_inj.mp (show _ = (6 : Int32).toInt from z))
                have n5 : ¬ x0.toInt = 7 := fun z => h6 (Int32.toInt_inj.mp (show _ = (7 : Int32).toInt from z))
                have n6 : ¬ x0.toInt = 8 := fun z => h8 (Int32.toInt_inj.mp (show _ = (8 : Int32).toInt from z))
                refine w_tsw rfl (by omega) (p1 := 86) (by decide) (by decide) ?_
                refine w_n 2 (pc1 := 88) (ls1 := [some (.int x0), some (.int x1), some (.int x2)]) (st1 := [.int x2, .int x1]) (hp1 := (hz F A L)) rfl ?_
                refine w_ne (p3 := 91) rfl rfl (fun h => ?_) (fun h => ?_)
                · have h10 : ¬ x1 = x2 := h
                  rw [if_neg h10] at hE
                  refine w_n 1 (pc1 := 96) (ls1 := [some (.int x0), some (.int x1), some (.int x2)]) (st1 := [.int 0]) (hp1 := (hz F A L)) rfl ?_
                  subst T
                  exact w_ri rfl (cvQ rfl rfl rfl K)
                · have h10 : x1 = x2 := h
                  rw [if_pos h10] at hE
                  refine w_n 2 (pc1 := 96) (ls1 := [some (.int x0), some (.int x1), some (.int x2)]) (st1 := [.int 1]) (hp1 := (hz F A L)) rfl ?_
                  subst T
                  exact w_ri rfl (cvQ rfl rfl rfl K)
noncomputable def km_comesTo_16 (a78 : List Int32) (a84 : List Int32) (x2 : Int32) (x4 : Int32) : Nat → Int32 → Int32 → List Int32 → Int32 × List Int32
  | 0, _, _, a83 => (0, a83)
  | m + 1, y3, y5, a83 => (if y5.toInt < x2.toInt then (if ((a78.getD y5.toInt.toNat 0) / 1048576) = 0 then (km_comesTo_16 a78 a84 x2 x4 m (y3 + 1) (y5 + 1) (a83.set y3.toInt.toNat ((a78.getD y5.toInt.toNat 0) - (a78.getD y5.toInt.toNat 0) / 1048576 * 1048576))) else (if ((a78.getD y5.toInt.toNat 0) / 1048576) = 1 then (km_comesTo_16 a78 a84 x2 x4 m (y3 + 1) (y5 + 1) (a83.set y3.toInt.toNat (a84.getD ((a78.getD y5.toInt.toNat 0) - (a78.getD y5.toInt.toNat 0) / 1048576 * 1048576).toInt.toNat 0))) else (if ((a78.getD y5.toInt.toNat 0) / 1048576) = 10 then (km_comesTo_16 a78 a84 x2 x4 m y3 (y5 + 1) (a83.set (y3 - 1).toInt.toNat (1 - (a83.getD (y3 - 1).toInt.toNat 0)))) else (if ((a78.getD y5.toInt.toNat 0) / 1048576) = 11 then (if ((a78.getD y5.toInt.toNat 0) / 1048576) = 12 then (if (a83.getD (y3 - 1).toInt.toNat 0) = 1 then (km_comesTo_16 a78 a84 x2 x4 m y3 (x4 + ((a78.getD y5.toInt.toNat 0) - (a78.getD y5.toInt.toNat 0) / 1048576 * 1048576)) a83) else (km_comesTo_16 a78 a84 x2 x4 m (y3 - 1) (y5 + 1) a83)) else (if (a83.getD (y3 - 1).toInt.toNat 0) = 0 then (km_comesTo_16 a78 a84 x2 x4 m y3 (x4 + ((a78.getD y5.toInt.toNat 0) - (a78.getD y5.toInt.toNat 0) / 1048576 * 1048576)) a83) else (km_comesTo_16 a78 a84 x2 x4 m (y3 - 1) (y5 + 1) a83))) else (if ((a78.getD y5.toInt.toNat 0) / 1048576) = 12 then (if (a83.getD (y3 - 1).toInt.toNat 0) = 1 then (km_comesTo_16 a78 a84 x2 x4 m y3 (x4 + ((a78.getD y5.toInt.toNat 0) - (a78.getD y5.toInt.toNat 0) / 1048576 * 1048576)) a83) else (km_comesTo_16 a78 a84 x2 x4 m (y3 - 1) (y5 + 1) a83)) else (if ((a78.getD y5.toInt.toNat 0) / 1048576) = 5 then (if (a83.getD (y3 - 1).toInt.toNat 0) = 0 then (0, a83) else (km_comesTo_16 a78 a84 x2 x4 m (y3 - 1) (y5 + 1) (a83.set ((y3 - 1) - 1).toInt.toNat (km_reckon ((a78.getD y5.toInt.toNat 0) / 1048576) (a83.getD ((y3 - 1) - 1).toInt.toNat 0) (a83.getD (y3 - 1).toInt.toNat 0))))) else (if ((a78.getD y5.toInt.toNat 0) / 1048576) = 6 then (if (a83.getD (y3 - 1).toInt.toNat 0) = 0 then (0, a83) else (km_comesTo_16 a78 a84 x2 x4 m (y3 - 1) (y5 + 1) (a83.set ((y3 - 1) - 1).toInt.toNat (km_reckon ((a78.getD y5.toInt.toNat 0) / 1048576) (a83.getD ((y3 - 1) - 1).toInt.toNat 0) (a83.getD (y3 - 1).toInt.toNat 0))))) else (km_comesTo_16 a78 a84 x2 x4 m (y3 - 1) (y5 + 1) (a83.set ((y3 - 1) - 1).toInt.toNat (km_reckon ((a78.getD y5.toInt.toNat 0) / 1048576) (a83.getD ((y3 - 1) - 1).toInt.toNat 0) (a83.getD (y3 - 1).toInt.toNat 0))))))))))) else ((a83.getD 0 0), a83))
theorem t_km_comesTo_16 {f : Nat} {Q : Option Value → sm_H → Prop} : ∀ (m : Nat) (B : Nat) {D : Nat} {F : Nat → Nat → Int32} {A : Nat → List Int32} {L : Nat → List Int64} {x1 : Int32} {x2 : Int32} {y3 : Int32} {x4 : Int32} {y5 : Int32} {o6 : Option Value} {o7 : Option Value}, B ≤ m → (Q (some (.int ((km_comesTo_16 (A 78) (A 84) x2 x4 m y3 y5 (A 83)).1))) (hz F (uA A 83 ((km_comesTo_16 (A 78) (A 84) x2 x4 m y3 y5 (A 83)).2)) L)) → wl_E f B D mm181.2.2.2.2.2.2.2.2 16 [some (.ref 67), some (.int x1), some (.int x2), some (.int y3), some (.int x4), some (.int y5), o6, o7] [] (hz F A L) Q := by
  intro m
  induction m with
  | zero =>
    intro B D F A L x1 x2 y3 x4 y5 o6 o7 hm K
    rw [show B = 0 by omega]
    exact w_0
  | succ m ih =>
    intro B D F A L x1 x2 y3 x4 y5 o6 o7 hm K
    cases B with
    | zero => exact w_0
    | succ B =>
      generalize hT : (km_comesTo_16 (A 78) (A 84) x2 x4 (m + 1) y3 y5 (A 83)) = T at K
      have hE : T = (if y5.toInt < x2.toInt then (if (((A 78).getD y5.toInt.toNat 0) / 1048576) = 0 then (km_comesTo_16 (A 78) (A 84) x2 x4 m (y3 + 1) (y5 + 1) ((A 83).set y3.toInt.toNat (((A 78).getD y5.toInt.toNat 0) - ((A 78).getD y5.toInt.toNat 0) / 1048576 * 1048576))) else (if (((A 78).getD y5.toInt.toNat 0) / 1048576) = 1 then (km_comesTo_16 (A 78) (A 84) x2 x4 m (y3 + 1) (y5 + 1) ((A 83).set y3.toInt.toNat ((A 84).getD (((A 78).getD y5.toInt.toNat 0) - ((A 78).getD y5.toInt.toNat 0) / 1048576 * 1048576).toInt.toNat 0))) else (if (((A 78).getD y5.toInt.toNat 0) / 1048576) = 10 then (km_comesTo_16 (A 78) (A 84) x2 x4 m y3 (y5 + 1) ((A 83).set (y3 - 1).toInt.toNat (1 - ((A 83).getD (y3 - 1).toInt.toNat 0)))) else (if (((A 78).getD y5.toInt.toNat 0) / 1048576) = 11 then (if (((A 78).getD y5.toInt.toNat 0) / 1048576) = 12 then (if ((A 83).getD (y3 - 1).toInt.toNat 0) = 1 then (km_comesTo_16 (A 78) (A 84) x2 x4 m y3 (x4 + (((A 78).getD y5.toInt.toNat 0) - ((A 78).getD y5.toInt.toNat 0) / 1048576 * 1048576)) (A 83)) else (km_comesTo_16 (A 78) (A 84) x2 x4 m (y3 - 1) (y5 + 1) (A 83))) else (if ((A 83).getD (y3 - 1).toInt.toNat 0) = 0 then (km_comesTo_16 (A 78) (A 84) x2 x4 m y3 (x4 + (((A 78).getD y5.toInt.toNat 0) - ((A 78).getD y5.toInt.toNat 0) / 1048576 * 1048576)) (A 83)) else (km_comesTo_16 (A 78) (A 84) x2 x4 m (y3 - 1) (y5 + 1) (A 83)))) else (if (((A 78).getD y5.toInt.toNat 0) / 1048576) = 12 then (if ((A 83).getD (y3 - 1).toInt.toNat 0) = 1 then (km_comesTo_16 (A 78) (A 84) x2 x4 m y3 (x4 + (((A 78).getD y5.toInt.toNat 0) - ((A 78).getD y5.toInt.toNat 0) / 1048576 * 1048576)) (A 83)) else (km_comesTo_16 (A 78) (A 84) x2 x4 m (y3 - 1) (y5 + 1) (A 83))) else (if (((A 78).getD y5.toInt.toNat 0) / 1048576) = 5 then (if ((A 83).getD (y3 - 1).toInt.toNat 0) = 0 then (0, (A 83)) else (km_comesTo_16 (A 78) (A 84) x2 x4 m (y3 - 1) (y5 + 1) ((A 83).set ((y3 - 1) - 1).toInt.toNat (km_reckon (((A 78).getD y5.toInt.toNat 0) / 1048576) ((A 83).getD ((y3 - 1) - 1).toInt.toNat 0) ((A 83).getD (y3 - 1).toInt.toNat 0))))) else (if (((A 78).getD y5.toInt.toNat 0) / 1048576) = 6 then (if ((A 83).getD (y3 - 1).toInt.toNat 0) = 0 then (0, (A 83)) else (km_comesTo_16 (A 78) (A 84) x2 x4 m (y3 - 1) (y5 + 1) ((A 83).set ((y3 - 1) - 1).toInt.toNat (km_reckon (((A 78).getD y5.toInt.toNat 0) / 1048576) ((A 83).getD ((y3 - 1) - 1).toInt.toNat 0) ((A 83).getD (y3 - 1).toInt.toNat 0))))) else (km_comesTo_16 (A 78) (A 84) x2 x4 m (y3 - 1) (y5 + 1) ((A 83).set ((y3 - 1) - 1).toInt.toNat (km_reckon (((A 78).getD y5.toInt.toNat 0) / 1048576) ((A 83).getD ((y3 - 1) - 1).toInt.toNat 0) ((A 83).getD (y3 - 1).toInt.toNat 0))))))))))) else (((A 83).getD 0 0), (A 83))) := hT.symm
      clear hT
      refine w_n1 (pc1 := 18) (ls1 := [some (.ref 67), some (.int x1), some (.int x2), some (.int y3), some (.int x4), some (.int y5), o6, o7]) (st1 := [.int y5]) (hp1 := (hz F A L)) rfl ?_
      refine w_n 1 (pc1 := 19) (ls1 := [some (.ref 67), some (.int x1), some (.int x2), some (.int y3), some (.int x4), some (.int y5), o6, o7]) (st1 := [.int x2, .int y5]) (hp1 := (hz F A L)) rfl ?_
      refine w_ge (p3 := 22) rfl rfl (fun h => ?_) (fun h => ?_)
      · have h1 : x2.toInt ≤ y5.toInt := h
        rw [if_neg (Int.not_lt.mpr h1)] at hE
        refine w_n 3 (pc1 := 238) (ls1 := [some (.ref 67), some (.int x1), some (.int x2), some (.int y3), some (.int x4), some (.int y5), o6, o7]) (st1 := [.int 0, .ref 83]) (hp1 := (hz F A L)) rfl ?_
        refine w_al (k := 83) (l := (A 83)) rfl rfl rfl (fun _ => ?_)
        subst T
        exact w_ri rfl (cvQ rfl (funext fun q => if k0 : q = 83 then by subst k0; exact Eq.trans (b := (A 83)) rfl rfl else by unfold uA; simp only [nb1 k0, cond_false]) rfl K)
      · have h1 : y5.toInt < x2.toInt := h
        rw [if_pos h1] at hE
        refine w_n 3 (pc1 := 28) (ls1 := [some (.ref 67), some (.int x1), some (.int x2), some (.int y3), some (.int x4), some (.int y5), o6, o7]) (st1 := [.int y5, .ref 78]) (hp1 := (hz F A L)) rfl ?_
        refine w_al (k := 78) (l := (A 78)) rfl rfl rfl (fun _ => ?_)
        refine w_n 1 (pc1 := 31) (ls1 := [some (.ref 67), some (.int x1), some (.int x2), some (.int y3), some (.int x4), some (.int y5), o6, o7]) (st1 := [.int 1048576, .int ((A 78).getD y5.toInt.toNat 0)]) (hp1 := (hz F A L)) rfl ?_
        refine w_dv rfl rfl (fun _ => ?_)
        refine w_n 4 (pc1 := 40) (ls1 := [some (.ref 67), some (.int x1), some (.int x2), some (.int y3), some (.int x4), some (.int y5), some (.int (((A 78).getD y5.toInt.toNat 0) / 1048576)), o7]) (st1 := [.int y5, .ref 78]) (hp1 := (hz F A L)) rfl ?_
        refine w_al (k := 78) (l := (A 78)) rfl rfl rfl (fun _ => ?_)
        refine w_n 1 (pc1 := 43) (ls1 := [some (.ref 67), some (.int x1), some (.int x2), some (.int y3), some (.int x4), some (.int y5), some (.int (((A 78).getD y5.toInt.toNat 0) / 1048576)), o7]) (st1 := [.int 1048576, .int ((A 78).getD y5.toInt.toNat 0)]) (hp1 := (hz F A L)) rfl ?_
        refine w_rm rfl rfl (fun _ => ?_)
        refine w_n 6 (pc1 := 54) (ls1 := [some (.ref 67), some (.int x1), some (.int x2), some (.int y3), some (.int x4), some (.int (y5 + 1)), some (.int (((A 78).getD y5.toInt.toNat 0) / 1048576)), some (.int (((A 78).getD y5.toInt.toNat 0) - ((A 78).getD y5.toInt.toNat 0) / 1048576 * 1048576))]) (st1 := [.int (((A 78).getD y5.toInt.toNat 0) / 1048576)]) (hp1 := (hz F A L)) rfl ?_
        refine w_zeq (p3 := 57) rfl rfl (fun h => ?_) (fun h => ?_)
        · have h2 : (((A 78).getD y5.toInt.toNat 0) / 1048576) = 0 := h
          rw [if_pos h2] at hE
          refine w_n 4 (pc1 := 70) (ls1 := [some (.ref 67), some (.int x1), some (.int x2), some (.int y3), some (.int x4), some (.int (y5 + 1)), some (.int (((A 78).getD y5.toInt.toNat 0) / 1048576)), some (.int (((A 78).getD y5.toInt.toNat 0) - ((A 78).getD y5.toInt.toNat 0) / 1048576 * 1048576))]) (st1 := [.int (((A 78).getD y5.toInt.toNat 0) / 1048576), .int y3, .ref 83]) (hp1 := (hz F A L)) rfl ?_
          refine w_zne (p3 := 73) rfl rfl (fun h => absurd h2 h) (fun _ => ?_)
          refine w_n 2 (pc1 := 85) (ls1 := [some (.ref 67), some (.int x1), some (.int x2), some (.int y3), some (.int x4), some (.int (y5 + 1)), some (.int (((A 78).getD y5.toInt.toNat 0) / 1048576)), some (.int (((A 78).getD y5.toInt.toNat 0) - ((A 78).getD y5.toInt.toNat 0) / 1048576 * 1048576))]) (st1 := [.int (((A 78).getD y5.toInt.toNat 0) - ((A 78).getD y5.toInt.toNat 0) / 1048576 * 1048576), .int y3, .ref 83]) (hp1 := (hz F A L)) rfl ?_
          refine w_as (k := 83) (l := (A 83)) (hp1 := (hz F (uA A 83 ((A 83).set y3.toInt.toNat (((A 78).getD y5.toInt.toNat 0) - ((A 78).getD y5.toInt.toNat 0) / 1048576 * 1048576))) L)) rfl rfl rfl (hz_s83 _) (fun _ => ?_)
          refine w_n 6 (pc1 := 16) (ls1 := [some (.ref 67), some (.int x1), some (.int x2), some (.int (y3 + 1)), some (.int x4), some (.int (y5 + 1)), some (.int (((A 78).getD y5.toInt.toNat 0) / 1048576)), some (.int (((A 78).getD y5.toInt.toNat 0) - ((A 78).getD y5.toInt.toNat 0) / 1048576 * 1048576))]) (st1 := []) (hp1 := (hz F (uA A 83 ((A 83).set y3.toInt.toNat (((A 78).getD y5.toInt.toNat 0) - ((A 78).getD y5.toInt.toNat 0) / 1048576 * 1048576))) L)) rfl ?_
          subst T
          exact ih _ (by omega) (cvQ rfl (funext fun q => if k0 : q = 83 then by subst k0; exact Eq.trans (b := (km_comesTo_16 (A 78) (A 84) x2 x4 m (y3 + 1) (y5 + 1) ((A 83).set y3.toInt.toNat (((A 78).getD y5.toInt.toNat 0) - ((A 78).getD y5.toInt.toNat 0) / 1048576 * 1048576))).2) rfl rfl else by unfold uA; simp only [nb1 k0, cond_false]) rfl K)
        · have h2 : ¬ (((A 78).getD y5.toInt.toNat 0) / 1048576) = 0 := h
          rw [if_neg h2] at hE
          refine w_n 2 (pc1 := 60) (ls1 := [some (.ref 67), some (.int x1), some (.int x2), some (.int y3), some (.int x4), some (.int (y5 + 1)), some (.int (((A 78).getD y5.toInt.toNat 0) / 1048576)), some (.int (((A 78).getD y5.toInt.toNat 0) - ((A 78).getD y5.toInt.toNat 0) / 1048576 * 1048576))]) (st1 := [.int 1, .int (((A 78).getD y5.toInt.toNat 0) / 1048576)]) (hp1 := (hz F A L)) rfl ?_
          refine w_ne (p3 := 63) rfl rfl (fun h => ?_) (fun h => ?_)
          · have h3 : ¬ (((A 78).getD y5.toInt.toNat 0) / 1048576) = 1 := h
            rw [if_neg h3] at hE
            refine w_n 2 (pc1 := 97) (ls1 := [some (.ref 67), some (.int x1), some (.int x2), some (.int y3), some (.int x4), some (.int (y5 + 1)), some (.int (((A 78).getD y5.toInt.toNat 0) / 1048576)), some (.int (((A 78).getD y5.toInt.toNat 0) - ((A 78).getD y5.toInt.toNat 0) / 1048576 * 1048576))]) (st1 := [.int 10, .int (((A 78).getD y5.toInt.toNat 0) / 1048576)]) (hp1 := (hz F A L)) rfl ?_
            refine w_ne (p3 := 100) rfl rfl (fun h => ?_) (fun h => ?_)
            · have h4 : ¬ (((A 78).getD y5.toInt.toNat 0) / 1048576) = 10 := h
              rw [if_neg h4] at hE
              refine w_n 2 (pc1 := 125) (ls1 := [some (.ref 67), some (.int x1), some (.int x2), some (.int y3), some (.int x4), some (.int (y5 + 1)), some (.int (((A 78).getD y5.toInt.toNat 0) / 1048576)), some (.int (((A 78).getD y5.toInt.toNat 0) - ((A 78).getD y5.toInt.toNat 0) / 1048576 * 1048576))]) (st1 := [.int 11, .int (((A 78).getD y5.toInt.toNat 0) / 1048576)]) (hp1 := (hz F A L)) rfl ?_
              refine w_eq (p3 := 128) rfl rfl (fun h => ?_) (fun h => ?_)
              · have h5 : (((A 78).getD y5.toInt.toNat 0) / 1048576) = 11 := h
                rw [if_pos h5] at hE
                refine w_n 5 (pc1 := 142) (ls1 := [some (.ref 67), some (.int x1), some (.int x2), some (.int y3), some (.int x4), some (.int (y5 + 1)), some (.int (((A 78).getD y5.toInt.toNat 0) / 1048576)), some (.int (((A 78).getD y5.toInt.toNat 0) - ((A 78).getD y5.toInt.toNat 0) / 1048576 * 1048576))]) (st1 := [.int (y3 - 1), .ref 83]) (hp1 := (hz F A L)) rfl ?_
                refine w_al (k := 83) (l := (A 83)) rfl rfl rfl (fun _ => ?_)
                refine w_n 2 (pc1 := 147) (ls1 := [some (.ref 67), some (.int x1), some (.int x2), some (.int y3), some (.int x4), some (.int (y5 + 1)), some (.int (((A 78).getD y5.toInt.toNat 0) / 1048576)), some (.int (((A 78).getD y5.toInt.toNat 0) - ((A 78).getD y5.toInt.toNat 0) / 1048576 * 1048576))]) (st1 := [.int 12, .int (((A 78).getD y5.toInt.toNat 0) / 1048576), .int ((A 83).getD (y3 - 1).toInt.toNat 0)]) (hp1 := (hz F A L)) rfl ?_
                refine w_ne (p3 := 150) rfl rfl (fun h => ?_) (fun h => ?_)
                · have h6 : ¬ (((A 78).getD y5.toInt.toNat 0) / 1048576) = 12 := h
                  rw [if_neg h6] at hE
                  refine w_n 1 (pc1 := 155) (ls1 := [some (.ref 67), some (.int x1), some (.int x2), some (.int y3), some (.int x4), some (.int (y5 + 1)), some (.int (((A 78).getD y5.toInt.toNat 0) / 1048576)), some (.int (((A 78).getD y5.toInt.toNat 0) - ((A 78).getD y5.toInt.toNat 0) / 1048576 * 1048576))]) (st1 := [.int 0, .int ((A 83).getD (y3 - 1).toInt.toNat 0)]) (hp1 := (hz F A L)) rfl ?_
                  refine w_ne (p3 := 158) rfl rfl (fun h => ?_) (fun h => ?_)
                  · have h7 : ¬ ((A 83).getD (y3 - 1).toInt.toNat 0) = 0 := h
                    rw [if_neg h7] at hE
                    refine w_n 6 (pc1 := 16) (ls1 := [some (.ref 67), some (.int x1), some (.int x2), some (.int (y3 - 1)), some (.int x4), some (.int (y5 + 1)), some (.int (((A 78).getD y5.toInt.toNat 0) / 1048576)), some (.int (((A 78).getD y5.toInt.toNat 0) - ((A 78).getD y5.toInt.toNat 0) / 1048576 * 1048576))]) (st1 := []) (hp1 := (hz F A L)) rfl ?_
                    subst T
                    exact ih _ (by omega) (cvQ rfl (funext fun q => if k0 : q = 83 then by subst k0; exact Eq.trans (b := (km_comesTo_16 (A 78) (A 84) x2 x4 m (y3 - 1) (y5 + 1) (A 83)).2) rfl rfl else by unfold uA; simp only [nb1 k0, cond_false]) rfl K)
                  · have h7 : ((A 83).getD (y3 - 1).toInt.toNat 0) = 0 := h
                    rw [if_pos h7] at hE
                    refine w_n 6 (pc1 := 16) (ls1 := [some (.ref 67), some (.int x1), some (.int x2), some (.int y3), some (.int x4), some (.int (x4 + (((A 78).getD y5.toInt.toNat 0) - ((A 78).getD y5.toInt.toNat 0) / 1048576 * 1048576))), some (.int (((A 78).getD y5.toInt.toNat 0) / 1048576)), some (.int (((A 78).getD y5.toInt.toNat 0) - ((A 78).getD y5.toInt.toNat 0) / 1048576 * 1048576))]) (st1 := []) (hp1 := (hz F A L)) rfl ?_
                    subst T
                    exact ih _ (by omega) (cvQ rfl (funext fun q => if k0 : q = 83 then by subst k0; exact Eq.trans (b := (km_comesTo_16 (A 78) (A 84) x2 x4 m y3 (x4 + (((A 78).getD y5.toInt.toNat 0) - ((A 78).getD y5.toInt.toNat 0) / 1048576 * 1048576)) (A 83)).2) rfl rfl else by unfold uA; simp only [nb1 k0, cond_false]) rfl K)
                · have h6 : (((A 78).getD y5.toInt.toNat 0) / 1048576) = 12 := h
                  rw [if_pos h6] at hE
                  refine w_n 2 (pc1 := 155) (ls1 := [some (.ref 67), some (.int x1), some (.int x2), some (.int y3), some (.int x4), some (.int (y5 + 1)), some (.int (((A 78).getD y5.toInt.toNat 0) / 1048576)), some (.int (((A 78).getD y5.toInt.toNat 0) - ((A 78).getD y5.toInt.toNat 0) / 1048576 * 1048576))]) (st1 := [.int 1, .int ((A 83).getD (y3 - 1).toInt.toNat 0)]) (hp1 := (hz F A L)) rfl ?_
                  refine w_ne (p3 := 158) rfl rfl (fun h => ?_) (fun h => ?_)
                  · have h8 : ¬ ((A 83).getD (y3 - 1).toInt.toNat 0) = 1 := h
                    rw [if_neg h8] at hE
                    refine w_n 6 (pc1 := 16) (ls1 := [some (.ref 67), some (.int x1), some (.int x2), some (.int (y3 - 1)), some (.int x4), some (.int (y5 + 1)), some (.int (((A 78).getD y5.toInt.toNat 0) / 1048576)), some (.int (((A 78).getD y5.toInt.toNat 0) - ((A 78).getD y5.toInt.toNat 0) / 1048576 * 1048576))]) (st1 := []) (hp1 := (hz F A L)) rfl ?_
                    subst T
                    exact ih _ (by omega) (cvQ rfl (funext fun q => if k0 : q = 83 then by subst k0; exact Eq.trans (b := (km_comesTo_16 (A 78) (A 84) x2 x4 m (y3 - 1) (y5 + 1) (A 83)).2) rfl rfl else by unfold uA; simp only [nb1 k0, cond_false]) rfl K)
                  · have h8 : ((A 83).getD (y3 - 1).toInt.toNat 0) = 1 := h
                    rw [if_pos h8] at hE
                    refine w_n 6 (pc1 := 16) (ls1 := [some (.ref 67), some (.int x1), some (.int x2), some (.int y3), some (.int x4), some (.int (x4 + (((A 78).getD y5.toInt.toNat 0) - ((A 78).getD y5.toInt.toNat 0) / 1048576 * 1048576))), some (.int (((A 78).getD y5.toInt.toNat 0) / 1048576)), some (.int (((A 78).getD y5.toInt.toNat 0) - ((A 78).getD y5.toInt.toNat 0) / 1048576 * 1048576))]) (st1 := []) (hp1 := (hz F A L)) rfl ?_
                    subst T
                    exact ih _ (by omega) (cvQ rfl (funext fun q => if k0 : q = 83 then by subst k0; exact Eq.trans (b := (km_comesTo_16 (A 78) (A 84) x2 x4 m y3 (x4 + (((A 78).getD y5.toInt.toNat 0) - ((A 78).getD y5.toInt.toNat 0) / 1048576 * 1048576)) (A 83)).2) rfl rfl else by unfold uA; simp only [nb1 k0, cond_false]) rfl K)
              · have h5 : ¬ (((A 78).getD y5.toInt.toNat 0) / 1048576) = 11 := h
                rw [if_neg h5] at hE
                refine w_n 2 (pc1 := 132) (ls1 := [some (.ref 67), some (.int x1), some (.int x2), some (.int y3), some (.int x4), some (.int (y5 + 1)), some (.int (((A 78).getD y5.toInt.toNat 0) / 1048576)), some (.int (((A 78).getD y5.toInt.toNat 0) - ((A 78).getD y5.toInt.toNat 0) / 1048576 * 1048576))]) (st1 := [.int 12, .int (((A 78).getD y5.toInt.toNat 0) / 1048576)]) (hp1 := (hz F A L)) rfl ?_
                refine w_ne (p3 := 135) rfl rfl (fun h => ?_) (fun h => ?_)
                · have h9 : ¬ (((A 78).getD y5.toInt.toNat 0) / 1048576) = 12 := h
                  rw [if_neg h9] at hE
                  refine w_n 6 (pc1 := 182) (ls1 := [some (.ref 67), some (.int x1), some (.int x2), some (.int (y3 - 1)), some (.int x4), some (.int (y5 + 1)), some (.int (((A 78).getD y5.toInt.toNat 0) / 1048576)), some (.int (((A 78).getD y5.toInt.toNat 0) - ((A 78).getD y5.toInt.toNat 0) / 1048576 * 1048576))]) (st1 := [.int 5, .int (((A 78).getD y5.toInt.toNat 0) / 1048576)]) (hp1 := (hz F A L)) rfl ?_
                  refine w_eq (p3 := 185) rfl rfl (fun h => ?_) (fun h => ?_)
                  · have h10 : (((A 78).getD y5.toInt.toNat 0) / 1048576) = 5 := h
                    rw [if_pos h10] at hE
                    refine w_n 3 (pc1 := 197) (ls1 := [some (.ref 67), some (.int x1), some (.int x2), some (.int (y3 - 1)), some (.int x4), some (.int (y5 + 1)), some (.int (((A 78).getD y5.toInt.toNat 0) / 1048576)), some (.int (((A 78).getD y5.toInt.toNat 0) - ((A 78).getD y5.toInt.toNat 0) / 1048576 * 1048576))]) (st1 := [.int (y3 - 1), .ref 83]) (hp1 := (hz F A L)) rfl ?_
                    refine w_al (k := 83) (l := (A 83)) rfl rfl rfl (fun _ => ?_)
                    refine w_zne (p3 := 201) rfl rfl (fun h => ?_) (fun h => ?_)
                    · have h11 : ¬ ((A 83).getD (y3 - 1).toInt.toNat 0) = 0 := h
                      rw [if_neg h11] at hE
                      refine w_n 11 (pc1 := 219) (ls1 := [some (.ref 67), some (.int x1), some (.int x2), some (.int (y3 - 1)), some (.int x4), some (.int (y5 + 1)), some (.int (((A 78).getD y5.toInt.toNat 0) / 1048576)), some (.int (((A 78).getD y5.toInt.toNat 0) - ((A 78).getD y5.toInt.toNat 0) / 1048576 * 1048576))]) (st1 := [.int ((y3 - 1) - 1), .ref 83, .int (((A 78).getD y5.toInt.toNat 0) / 1048576), .int ((y3 - 1) - 1), .ref 83]) (hp1 := (hz F A L)) rfl ?_
                      refine w_al (k := 83) (l := (A 83)) rfl rfl rfl (fun _ => ?_)
                      refine w_n 3 (pc1 := 225) (ls1 := [some (.ref 67), some (.int x1), some (.int x2), some (.int (y3 - 1)), some (.int x4), some (.int (y5 + 1)), some (.int (((A 78).getD y5.toInt.toNat 0) / 1048576)), some (.int (((A 78).getD y5.toInt.toNat 0) - ((A 78).getD y5.toInt.toNat 0) / 1048576 * 1048576))]) (st1 := [.int (y3 - 1), .ref 83, .int ((A 83).getD ((y3 - 1) - 1).toInt.toNat 0), .int (((A 78).getD y5.toInt.toNat 0) / 1048576), .int ((y3 - 1) - 1), .ref 83]) (hp1 := (hz F A L)) rfl ?_
                      refine w_al (k := 83) (l := (A 83)) rfl rfl rfl (fun _ => ?_)
                      refine w_c rfl rfl (t_km_reckon ?_)
                      show wl_E f _ _ mm181.2.2.2.2.2.2.2.2 229 [some (.ref 67), some (.int x1), some (.int x2), some (.int (y3 - 1)), some (.int x4), some (.int (y5 + 1)), some (.int (((A 78).getD y5.toInt.toNat 0) / 1048576)), some (.int (((A 78).getD y5.toInt.toNat 0) - ((A 78).getD y5.toInt.toNat 0) / 1048576 * 1048576))] [.int (km_reckon (((A 78).getD y5.toInt.toNat 0) / 1048576) ((A 83).getD ((y3 - 1) - 1).toInt.toNat 0) ((A 83).getD (y3 - 1).toInt.toNat 0)), .int ((y3 - 1) - 1), .ref 83] (hz F A L) _
                      generalize hG78 : (km_reckon (((A 78).getD y5.toInt.toNat 0) / 1048576) ((A 83).getD ((y3 - 1) - 1).toInt.toNat 0) ((A 83).getD (y3 - 1).toInt.toNat 0)) = G78 at hE ⊢
                      refine w_as (k := 83) (l := (A 83)) (hp1 := (hz F (uA A 83 ((A 83).set ((y3 - 1) - 1).toInt.toNat G78)) L)) rfl rfl rfl (hz_s83 _) (fun _ => ?_)
                      refine w_n 1 (pc1 := 16) (ls1 := [some (.ref 67), some (.int x1), some (.int x2), some (.int (y3 - 1)), some (.int x4), some (.int (y5 + 1)), some (.int (((A 78).getD y5.toInt.toNat 0) / 1048576)), some (.int (((A 78).getD y5.toInt.toNat 0) - ((A 78).getD y5.toInt.toNat 0) / 1048576 * 1048576))]) (st1 := []) (hp1 := (hz F (uA A 83 ((A 83).set ((y3 - 1) - 1).toInt.toNat G78)) L)) rfl ?_
                      subst T
                      exact ih _ (by omega) (cvQ rfl (funext fun q => if k0 : q = 83 then by subst k0; exact Eq.trans (b := (km_comesTo_16 (A 78) (A 84) x2 x4 m (y3 - 1) (y5 + 1) ((A 83).set ((y3 - 1) - 1).toInt.toNat G78)).2) rfl rfl else by unfold uA; simp only [nb1 k0, cond_false]) rfl K)
                    · have h11 : ((A 83).getD (y3 - 1).toInt.toNat 0) = 0 := h
                      rw [if_pos h11] at hE
                      refine w_n 1 (pc1 := 202) (ls1 := [some (.ref 67), some (.int x1), some (.int x2), some (.int (y3 - 1)), some (.int x4), some (.int (y5 + 1)), some (.int (((A 78).getD y5.toInt.toNat 0) / 1048576)), some (.int (((A 78).getD y5.toInt.toNat 0) - ((A 78).getD y5.toInt.toNat 0) / 1048576 * 1048576))]) (st1 := [.int 0]) (hp1 := (hz F A L)) rfl ?_
                      subst T
                      exact w_ri rfl (cvQ rfl (funext fun q => if k0 : q = 83 then by subst k0; exact Eq.trans (b := (A 83)) rfl rfl else by unfold uA; simp only [nb1 k0, cond_false]) rfl K)
                  · have h10 : ¬ (((A 78).getD y5.toInt.toNat 0) / 1048576) = 5 := h
                    rw [if_neg h10] at hE
                    refine w_n 2 (pc1 := 189) (ls1 := [some (.ref 67), some (.int x1), some (.int x2), some (.int (y3 - 1)), some (.int x4), some (.int (y5 + 1)), some (.int (((A 78).getD y5.toInt.toNat 0) / 1048576)), some (.int (((A 78).getD y5.toInt.toNat 0) - ((A 78).getD y5.toInt.toNat 0) / 1048576 * 1048576))]) (st1 := [.int 6, .int (((A 78).getD y5.toInt.toNat 0) / 1048576)]) (hp1 := (hz F A L)) rfl ?_
                    refine w_ne (p3 := 192) rfl rfl (fun h => ?_) (fun h => ?_)
                    · have h12 : ¬ (((A 78).getD y5.toInt.toNat 0) / 1048576) = 6 := h
                      rw [if_neg h12] at hE
                      refine w_n 11 (pc1 := 219) (ls1 := [some (.ref 67), some (.int x1), some (.int x2), some (.int (y3 - 1)), some (.int x4), some (.int (y5 + 1)), some (.int (((A 78).getD y5.toInt.toNat 0) / 1048576)), some (.int (((A 78).getD y5.toInt.toNat 0) - ((A 78).getD y5.toInt.toNat 0) / 1048576 * 1048576))]) (st1 := [.int ((y3 - 1) - 1), .ref 83, .int (((A 78).getD y5.toInt.toNat 0) / 1048576), .int ((y3 - 1) - 1), .ref 83]) (hp1 := (hz F A L)) rfl ?_
                      refine w_al (k := 83) (l := (A 83)) rfl rfl rfl (fun _ => ?_)
                      refine w_n 3 (pc1 := 225) (ls1 := [some (.ref 67), some (.int x1), some (.int x2), some (.int (y3 - 1)), some (.int x4), some (.int (y5 + 1)), some (.int (((A 78).getD y5.toInt.toNat 0) / 1048576)), some (.int (((A 78).getD y5.toInt.toNat 0) - ((A 78).getD y5.toInt.toNat 0) / 1048576 * 1048576))]) (st1 := [.int (y3 - 1), .ref 83, .int ((A 83).getD ((y3 - 1) - 1).toInt.toNat 0), .int (((A 78).getD y5.toInt.toNat 0) / 1048576), .int ((y3 - 1) - 1), .ref 83]) (hp1 := (hz F A L)) rfl ?_
                      refine w_al (k := 83) (l := (A 83)) rfl rfl rfl (fun _ => ?_)
                      refine w_c rfl rfl (t_km_reckon ?_)
                      show wl_E f _ _ mm181.2.2.2.2.2.2.2.2 229 [some (.ref 67), some (.int x1), some (.int x2), some (.int (y3 - 1)), some (.int x4), some (.int (y5 + 1)), some (.int (((A 78).getD y5.toInt.toNat 0) / 1048576)), some (.int (((A 78).getD y5.toInt.toNat 0) - ((A 78).getD y5.toInt.toNat 0) / 1048576 * 1048576))] [.int (km_reckon (((A 78).getD y5.toInt.toNat 0) / 1048576) ((A 83).getD ((y3 - 1) - 1).toInt.toNat 0) ((A 83).getD (y3 - 1).toInt.toNat 0)), .int ((y3 - 1) - 1), .ref 83] (hz F A L) _
                      generalize hG79 : (km_reckon (((A 78).getD y5.toInt.toNat 0) / 1048576) ((A 83).getD ((y3 - 1) - 1).toInt.toNat 0) ((A 83).getD (y3 - 1).toInt.toNat 0)) = G79 at hE ⊢
                      refine w_as (k := 83) (l := (A 83)) (hp1 := (hz F (uA A 83 ((A 83).set ((y3 - 1) - 1).toInt.toNat G79)) L)) rfl rfl rfl (hz_s83 _) (fun _ => ?_)
                      refine w_n 1 (pc1 := 16) (ls1 := [some (.ref 67), some (.int x1), some (.int x2), some (.int (y3 - 1)), some (.int x4), some (.int (y5 + 1)), some (.int (((A 78).getD y5.toInt.toNat 0) / 1048576)), some (.int (((A 78).getD y5.toInt.toNat 0) - ((A 78).getD y5.toInt.toNat 0) / 1048576 * 1048576))]) (st1 := []) (hp1 := (hz F (uA A 83 ((A 83).set ((y3 - 1) - 1).toInt.toNat G79)) L)) rfl ?_
                      subst T
                      exact ih _ (by omega) (cvQ rfl (funext fun q => if k0 : q = 83 then by subst k0; exact Eq.trans (b := (km_comesTo_16 (A 78) (A 84) x2 x4 m (y3 - 1) (y5 + 1) ((A 83).set ((y3 - 1) - 1).toInt.toNat G79)).2) rfl rfl else by unfold uA; simp only [nb1 k0, cond_false]) rfl K)
                    · have h12 : (((A 78).getD y5.toInt.toNat 0) / 1048576) = 6 := h
                      rw [if_pos h12] at hE
                      refine w_n 3 (pc1 := 197) (ls1 := [some (.ref 67), some (.int x1), some (.int x2), some (.int (y3 - 1)), some (.int x4), some (.int (y5 + 1)), some (.int (((A 78).getD y5.toInt.toNat 0) / 1048576)), some (.int (((A 78).getD y5.toInt.toNat 0) - ((A 78).getD y5.toInt.toNat 0) / 1048576 * 1048576))]) (st1 := [.int (y3 - 1), .ref 83]) (hp1 := (hz F A L)) rfl ?_
                      refine w_al (k := 83) (l := (A 83)) rfl rfl rfl (fun _ => ?_)
                      refine w_zne (p3 := 201) rfl rfl (fun h => ?_) (fun h => ?_)
                      · have h13 : ¬ ((A 83).getD (y3 - 1).toInt.toNat 0) = 0 := h
                        rw [if_neg h13] at hE
                        refine w_n 11 (pc1 := 219) (ls1 := [some (.ref 67), some (.int x1), some (.int x2), some (.int (y3 - 1)), some (.int x4), some (.int (y5 + 1)), some (.int (((A 78).getD y5.toInt.toNat 0) / 1048576)), some (.int (((A 78).getD y5.toInt.toNat 0) - ((A 78).getD y5.toInt.toNat 0) / 1048576 * 1048576))]) (st1 := [.int ((y3 - 1) - 1), .ref 83, .int (((A 78).getD y5.toInt.toNat 0) / 1048576), .int ((y3 - 1) - 1), .ref 83]) (hp1 := (hz F A L)) rfl ?_
                        refine w_al (k := 83) (l := (A 83)) rfl rfl rfl (fun _ => ?_)
                        refine w_n 3 (pc1 := 225) (ls1 := [some (.ref 67), some (.int x1), some (.int x2), some (.int (y3 - 1)), some (.int x4), some (.int (y5 + 1)), some (.int (((A 78).getD y5.toInt.toNat 0) / 1048576)), some (.int (((A 78).getD y5.toInt.toNat 0) - ((A 78).getD y5.toInt.toNat 0) / 1048576 * 1048576))]) (st1 := [.int (y3 - 1), .ref 83, .int ((A 83).getD ((y3 - 1) - 1).toInt.toNat 0), .int (((A 78).getD y5.toInt.toNat 0) / 1048576), .int ((y3 - 1) - 1), .ref 83]) (hp1 := (hz F A L)) rfl ?_
                        refine w_al (k := 83) (l := (A 83)) rfl rfl rfl (fun _ => ?_)
                        refine w_c rfl rfl (t_km_reckon ?_)
                        show wl_E f _ _ mm181.2.2.2.2.2.2.2.2 229 [some (.ref 67), some (.int x1), some (.int x2), some (.int (y3 - 1)), some (.int x4), some (.int (y5 + 1)), some (.int (((A 78).getD y5.toInt.toNat 0) / 1048576)), some (.int (((A 78).getD y5.toInt.toNat 0) - ((A 78).getD y5.toInt.toNat 0) / 1048576 * 1048576))] [.int (km_reckon (((A 78).getD y5.toInt.toNat 0) / 1048576) ((A 83).getD ((y3 - 1) - 1).toInt.toNat 0) ((A 83).getD (y3 - 1).toInt.toNat 0)), .int ((y3 - 1) - 1), .ref 83] (hz F A L) _
                        generalize hG80 : (km_reckon (((A 78).getD y5.toInt.toNat 0) / 1048576) ((A 83).getD ((y3 - 1) - 1).toInt.toNat 0) ((A 83).getD (y3 - 1).toInt.toNat 0)) = G80 at hE ⊢
                        refine w_as (k := 83) (l := (A 83)) (hp1 := (hz F (uA A 83 ((A 83).set ((y3 - 1) - 1).toInt.toNat G80)) L)) rfl rfl rfl (hz_s83 _) (fun _ => ?_)
                        refine w_n 1 (pc1 := 16) (ls1 := [some (.ref 67), some (.int x1), some (.int x2), some (.int (y3 - 1)), some (.int x4), some (.int (y5 + 1)), some (.int (((A 78).getD y5.toInt.toNat 0) / 1048576)), some (.int (((A 78).getD y5.toInt.toNat 0) - ((A 78).getD y5.toInt.toNat 0) / 1048576 * 1048576))]) (st1 := []) (hp1 := (hz F (uA A 83 ((A 83).set ((y3 - 1) - 1).toInt.toNat G80)) L)) rfl ?_
                        subst T
                        exact ih _ (by omega) (cvQ rfl (funext fun q => if k0 : q = 83 then by subst k0; exact Eq.trans (b := (km_comesTo_16 (A 78) (A 84) x2 x4 m (y3 - 1) (y5 + 1) ((A 83).set ((y3 - 1) - 1).toInt.toNat G80)).2) rfl rfl else by unfold uA; simp only [nb1 k0, cond_false]) rfl K)
                      · have h13 : ((A 83).getD (y3 - 1).toInt.toNat 0) = 0 := h
                        rw [if_pos h13] at hE
                        refine w_n 1 (pc1 := 202) (ls1 := [some (.ref 67), some (.int x1), some (.int x2), some (.int (y3 - 1)), some (.int x4), some (.int (y5 + 1)), some (.int (((A 78).getD y5.toInt.toNat 0) / 1048576)), some (.int (((A 78).getD y5.toInt.toNat 0) - ((A 78).getD y5.toInt.toNat 0) / 1048576 * 1048576))]) (st1 := [.int 0]) (hp1 := (hz F A L)) rfl ?_
                        subst T
                        exact w_ri rfl (cvQ rfl (funext fun q => if k0 : q = 83 then by subst k0; exact Eq.trans (b := (A 83)) rfl rfl else by unfold uA; simp only [nb1 k0, cond_false]) rfl K)
                · have h9 : (((A 78).getD y5.toInt.toNat 0) / 1048576) = 12 := h
                  rw [if_pos h9] at hE
                  refine w_n 5 (pc1 := 142) (ls1 := [some (.ref 67), some (.int x1), some (.int x2), some (.int y3), some (.int x4), some (.int (y5 + 1)), some (.int (((A 78).getD y5.toInt.toNat 0) / 1048576)), some (.int (((A 78).getD y5.toInt.toNat 0) - ((A 78).getD y5.toInt.toNat 0) / 1048576 * 1048576))]) (st1 := [.int (y3 - 1), .ref 83]) (hp1 := (hz F A L)) rfl ?_
                  refine w_al (k := 83) (l := (A 83)) rfl rfl rfl (fun _ => ?_)
                  refine w_n 2 (pc1 := 147) (ls1 := [some (.ref 67), some (.int x1), some (.int x2), some (.int y3), some (.int x4), some (.int (y5 + 1)), some (.int (((A 78).getD y5.toInt.toNat 0) / 1048576)), some (.int (((A 78).getD y5.toInt.toNat 0) - ((A 78).getD y5.toInt.toNat 0) / 1048576 * 1048576))]) (st1 := [.int 12, .int (((A 78).getD y5.toInt.toNat 0) / 1048576), .int ((A 83).getD (y3 - 1).toInt.toNat 0)]) (hp1 := (hz F A L)) rfl ?_
                  refine w_ne (p3 := 150) rfl rfl (fun h => absurd h9 h) (fun _ => ?_)
                  refine w_n 2 (pc1 := 155) (ls1 := [some (.ref 67), some (.int x1), some (.int x2), some (.int y3), some (.int x4), some (.int (y5 + 1)), some (.int (((A 78).getD y5.toInt.toNat 0) / 1048576)), some (.int (((A 78).getD y5.toInt.toNat 0) - ((A 78).getD y5.toInt.toNat 0) / 1048576 * 1048576))]) (st1 := [.int 1, .int ((A 83).getD (y3 - 1).toInt.toNat 0)]) (hp1 := (hz F A L)) rfl ?_
                  refine w_ne (p3 := 158) rfl rfl (fun h => ?_) (fun h => ?_)
                  · have h14 : ¬ ((A 83).getD (y3 - 1).toInt.toNat 0) = 1 := h
                    rw [if_neg h14] at hE
                    refine w_n 6 (pc1 := 16) (ls1 := [some (.ref 67), some (.int x1), some (.int x2), some (.int (y3 - 1)), some (.int x4), some (.int (y5 + 1)), some (.int (((A 78).getD y5.toInt.toNat 0) / 1048576)), some (.int (((A 78).getD y5.toInt.toNat 0) - ((A 78).getD y5.toInt.toNat 0) / 1048576 * 1048576))]) (st1 := []) (hp1 := (hz F A L)) rfl ?_
                    subst T
                    exact ih _ (by omega) (cvQ rfl (funext fun q => if k0 : q = 83 then by subst k0; exact Eq.trans (b := (km_comesTo_16 (A 78) (A 84) x2 x4 m (y3 - 1) (y5 + 1) (A 83)).2) rfl rfl else by unfold uA; simp only [nb1 k0, cond_false]) rfl K)
                  · have h14 : ((A 83).getD (y3 - 1).toInt.toNat 0) = 1 := h
                    rw [if_pos h14] at hE
                    refine w_n 6 (pc1 := 16) (ls1 := [some (.ref 67), some (.int x1), some (.int x2), some (.int y3), some (.int x4), some (.int (x4 + (((A 78).getD y5.toInt.toNat 0) - ((A 78).getD y5.toInt.toNat 0) / 1048576 * 1048576))), some (.int (((A 78).getD y5.toInt.toNat 0) / 1048576)), some (.int (((A 78).getD y5.toInt.toNat 0) - ((A 78).getD y5.toInt.toNat 0) / 1048576 * 1048576))]) (st1 := []) (hp1 := (hz F A L)) rfl ?_
                    subst T
                    exact ih _ (by omega) (cvQ rfl (funext fun q => if k0 : q = 83 then by subst k0; exact Eq.trans (b := (km_comesTo_16 (A 78) (A 84) x2 x4 m y3 (x4 + (((A 78).getD y5.toInt.toNat 0) - ((A 78).getD y5.toInt.toNat 0) / 1048576 * 1048576)) (A 83)).2) rfl rfl else by unfold uA; simp only [nb1 k0, cond_false]) rfl K)
            · have h4 : (((A 78).getD y5.toInt.toNat 0) / 1048576) = 10 := h
              rw [if_pos h4] at hE
              refine w_n 11 (pc1 := 115) (ls1 := [some (.ref 67), some (.int x1), some (.int x2), some (.int y3), some (.int x4), some (.int (y5 + 1)), some (.int (((A 78).getD y5.toInt.toNat 0) / 1048576)), some (.int (((A 78).getD y5.toInt.toNat 0) - ((A 78).getD y5.toInt.toNat 0) / 1048576 * 1048576))]) (st1 := [.int (y3 - 1), .ref 83, .int 1, .int (y3 - 1), .ref 83]) (hp1 := (hz F A L)) rfl ?_
              refine w_al (k := 83) (l := (A 83)) rfl rfl rfl (fun _ => ?_)
              refine w_n 1 (pc1 := 117) (ls1 := [some (.ref 67), some (.int x1), some (.int x2), some (.int y3), some (.int x4), some (.int (y5 + 1)), some (.int (((A 78).getD y5.toInt.toNat 0) / 1048576)), some (.int (((A 78).getD y5.toInt.toNat 0) - ((A 78).getD y5.toInt.toNat 0) / 1048576 * 1048576))]) (st1 := [.int (1 - ((A 83).getD (y3 - 1).toInt.toNat 0)), .int (y3 - 1), .ref 83]) (hp1 := (hz F A L)) rfl ?_
              refine w_as (k := 83) (l := (A 83)) (hp1 := (hz F (uA A 83 ((A 83).set (y3 - 1).toInt.toNat (1 - ((A 83).getD (y3 - 1).toInt.toNat 0)))) L)) rfl rfl rfl (hz_s83 _) (fun _ => ?_)
              refine w_n 2 (pc1 := 16) (ls1 := [some (.ref 67), some (.int x1), some (.int x2), some (.int y3), some (.int x4), some (.int (y5 + 1)), some (.int (((A 78).getD y5.toInt.toNat 0) / 1048576)), some (.int (((A 78).getD y5.toInt.toNat 0) - ((A 78).getD y5.toInt.toNat 0) / 1048576 * 1048576))]) (st1 := []) (hp1 := (hz F (uA A 83 ((A 83).set (y3 - 1).toInt.toNat (1 - ((A 83).getD (y3 - 1).toInt.toNat 0)))) L)) rfl ?_
              subst T
              exact ih _ (by omega) (cvQ rfl (funext fun q => if k0 : q = 83 then by subst k0; exact Eq.trans (b := (km_comesTo_16 (A 78) (A 84) x2 x4 m y3 (y5 + 1) ((A 83).set (y3 - 1).toInt.toNat (1 - ((A 83).getD (y3 - 1).toInt.toNat 0)))).2) rfl rfl else by unfold uA; simp only [nb1 k0, cond_false]) rfl K)
          · have h3 : (((A 78).getD y5.toInt.toNat 0) / 1048576) = 1 := h
            rw [if_pos h3] at hE
            refine w_n 4 (pc1 := 70) (ls1 := [some (.ref 67), some (.int x1), some (.int x2), some (.int y3), some (.int x4), some (.int (y5 + 1)), some (.int (((A 78).getD y5.toInt.toNat 0) / 1048576)), some (.int (((A 78).getD y5.toInt.toNat 0) - ((A 78).getD y5.toInt.toNat 0) / 1048576 * 1048576))]) (st1 := [.int (((A 78).getD y5.toInt.toNat 0) / 1048576), .int y3, .ref 83]) (hp1 := (hz F A L)) rfl ?_
            refine w_zne (p3 := 73) rfl rfl (fun _ => ?_) (fun h => absurd h h2)
            refine w_n 3 (pc1 := 84) (ls1 := [some (.ref 67), some (.int x1), some (.int x2), some (.int y3), some (.int x4), some (.int (y5 + 1)), some (.int (((A 78).getD y5.toInt.toNat 0) / 1048576)), some (.int (((A 78).getD y5.toInt.toNat 0) - ((A 78).getD y5.toInt.toNat 0) / 1048576 * 1048576))]) (st1 := [.int (((A 78).getD y5.toInt.toNat 0) - ((A 78).getD y5.toInt.toNat 0) / 1048576 * 1048576), .ref 84, .int y3, .ref 83]) (hp1 := (hz F A L)) rfl ?_
            refine w_al (k := 84) (l := (A 84)) rfl rfl rfl (fun _ => ?_)
            refine w_as (k := 83) (l := (A 83)) (hp1 := (hz F (uA A 83 ((A 83).set y3.toInt.toNat ((A 84).getD (((A 78).getD y5.toInt.toNat 0) - ((A 78).getD y5.toInt.toNat 0) / 1048576 * 1048576).toInt.toNat 0))) L)) rfl rfl rfl (hz_s83 _) (fun _ => ?_)
            refine w_n 6 (pc1 := 16) (ls1 := [some (.ref 67), some (.int x1), some (.int x2), some (.int (y3 + 1)), some (.int x4), some (.int (y5 + 1)), some (.int (((A 78).getD y5.toInt.toNat 0) / 1048576)), some (.int (((A 78).getD y5.toInt.toNat 0) - ((A 78).getD y5.toInt.toNat 0) / 1048576 * 1048576))]) (st1 := []) (hp1 := (hz F (uA A 83 ((A 83).set y3.toInt.toNat ((A 84).getD (((A 78).getD y5.toInt.toNat 0) - ((A 78).getD y5.toInt.toNat 0) / 1048576 * 1048576).toInt.toNat 0))) L)) rfl ?_
            subst T
            exact ih _ (by omega) (cvQ rfl (funext fun q => if k0 : q = 83 then by subst k0; exact Eq.trans (b := (km_comesTo_16 (A 78) (A 84) x2 x4 m (y3 + 1) (y5 + 1) ((A 83).set y3.toInt.toNat ((A 84).getD (((A 78).getD y5.toInt.toNat 0) - ((A 78).getD y5.toInt.toNat 0) / 1048576 * 1048576).toInt.toNat 0))).2) rfl rfl else by unfold uA; simp only [nb1 k0, cond_false]) rfl K)
noncomputable def km_comesTo (f : Nat) (a78 : List Int32) (a83 : List Int32) (a84 : List Int32) (x1 : Int32) (x2 : Int32) : Int32 × List Int32 := (km_comesTo_16 a78 a84 x2 (260 * (x1 / 260)) f 0 x1 a83)
theorem t_km_comesTo {f D : Nat} {F : Nat → Nat → Int32} {A : Nat → List Int32} {L : Nat → List Int64} {Q : Option Value → sm_H → Prop} {x1 : Int32} {x2 : Int32} (K : Q (some (.int ((km_comesTo f (A 78) (A 83) (A 84) x1 x2).1))) (hz F (uA A 83 ((km_comesTo f (A 78) (A 83) (A 84) x1 x2).2)) L)) : wl_M f D 181 [.ref 67, .int x1, .int x2] (hz F A L) Q := by
  generalize hT : (km_comesTo f (A 78) (A 83) (A 84) x1 x2) = T at K
  have hE : T = (km_comesTo_16 (A 78) (A 84) x2 (260 * (x1 / 260)) f 0 x1 (A 83)) := hT.symm
  clear hT
  refine w_m (E := mm181) rfl ?_
  show wl_E f f (D - 1) mm181.2.2.2.2.2.2.2.2 0 [some (.ref 67), some (.int x1), some (.int x2), none, none, none, none, none] [] (hz F A L) Q
  refine w_n 5 (pc1 := 9) (ls1 := [some (.ref 67), some (.int x1), some (.int x2), some (.int 0), none, none, none, none]) (st1 := [.int 260, .int x1, .int 260]) (hp1 := (hz F A L)) rfl ?_
  refine w_dv rfl rfl (fun _ => ?_)
  refine w_n 4 (pc1 := 16) (ls1 := [some (.ref 67), some (.int x1), some (.int x2), some (.int 0), some (.int (260 * (x1 / 260))), some (.int x1), none, none]) (st1 := []) (hp1 := (hz F A L)) rfl ?_
  subst T
  exact t_km_comesTo_16 _ _ (Nat.le_refl _) (cvQ rfl (funext fun q => if k0 : q = 83 then by subst k0; exact Eq.trans (b := (km_comesTo_16 (A 78) (A 84) x2 (260 * (x1 / 260)) f 0 x1 (A 83)).2) rfl rfl else by unfold uA; simp only [nb1 k0, cond_false]) rfl K)
noncomputable def km_byLaw_2 (f : Nat) (a78 : List Int32) (a79 : List Int32) (a80 : List Int32) (a81 : List Int32) (a82 : List Int32) (a84 : List Int32) (x1 : Int32) (x2 : Int32) : Nat → Int32 → List Int32 → Int32 × List Int32
  | 0, _, a83 => (0, a83)
  | m + 1, y3, a83 => (if (a79.getD y3.toInt.toNat 0) = x1 then (if (km_comesTo f a78 a83 a84 (a81.getD y3.toInt.toNat 0) (a82.getD y3.toInt.toNat 0)).1 = 1 then (if (km_comesTo f a78 (km_comesTo f a78 a83 a84 (a81.getD y3.toInt.toNat 0) (a82.getD y3.toInt.toNat 0)).2 a84 (a80.getD y3.toInt.toNat 0) (a81.getD y3.toInt.toNat 0)).1.toInt < 0 then (0, (km_comesTo f a78 (km_comesTo f a78 a83 a84 (a81.getD y3.toInt.toNat 0) (a82.getD y3.toInt.toNat 0)).2 a84 (a80.getD y3.toInt.toNat 0) (a81.getD y3.toInt.toNat 0)).2) else (if x2.toInt < (km_comesTo f a78 (km_comesTo f a78 a83 a84 (a81.getD y3.toInt.toNat 0) (a82.getD y3.toInt.toNat 0)).2 a84 (a80.getD y3.toInt.toNat 0) (a81.getD y3.toInt.toNat 0)).1.toInt then (x2, (km_comesTo f a78 (km_comesTo f a78 a83 a84 (a81.getD y3.toInt.toNat 0) (a82.getD y3.toInt.toNat 0)).2 a84 (a80.getD y3.toInt.toNat 0) (a81.getD y3.toInt.toNat 0)).2) else ((km_comesTo f a78 (km_comesTo f a78 a83 a84 (a81.getD y3.toInt.toNat 0) (a82.getD y3.toInt.toNat 0)).2 a84 (a80.getD y3.toInt.toNat 0) (a81.getD y3.toInt.toNat 0)).1, (km_comesTo f a78 (km_comesTo f a78 a83 a84 (a81.getD y3.toInt.toNat 0) (a82.getD y3.toInt.toNat 0)).2 a84 (a80.getD y3.toInt.toNat 0) (a81.getD y3.toInt.toNat 0)).2))) else (km_byLaw_2 f a78 a79 a80 a81 a82 a84 x1 x2 m (y3 + 1) (km_comesTo f a78 a83 a84 (a81.getD y3.toInt.toNat 0) (a82.getD y3.toInt.toNat 0)).2)) else (km_byLaw_2 f a78 a79 a80 a81 a82 a84 x1 x2 m (y3 + 1) a83))
theorem t_km_byLaw_2 {f : Nat} {Q : Option Value → sm_H → Prop} : ∀ (m : Nat) {B D : Nat} {F : Nat → Nat → Int32} {A : Nat → List Int32} {L : Nat → List Int64} {x1 : Int32} {x2 : Int32} {y3 : Int32} {o4 : Option Value}, m = ((F 67 17).toInt - y3.toInt).toNat → (Q (some (.int ((km_byLaw_2 f (A 78) (A 79) (A 80) (A 81) (A 82) (A 84) x1 x2 m y3 (A 83)).1))) (hz F (uA A 83 ((km_byLaw_2 f (A 78) (A 79) (A 80) (A 81) (A 82) (A 84) x1 x2 m y3 (A 83)).2)) L)) → wl_E f B D mm180.2.2.2.2.2.2.2.2 2 [some (.ref 67), some (.int x1), some (.int x2), some (.int y3), o4] [] (hz F A L) Q := by
  intro m
  induction m with
  | zero =>
    intro B D F A L x1 x2 y3 o4 hm K
    generalize hT : (km_byLaw_2 f (A 78) (A 79) (A 80) (A 81) (A 82) (A 84) x1 x2 0 y3 (A 83)) = T at K
    have hE : T = (0, (A 83)) := hT.symm
    clear hT
    refine w_n 3 (pc1 := 7) (ls1 := [some (.ref 67), some (.int x1), some (.int x2), some (.int y3), o4]) (st1 := [.int (F 67 17), .int y3]) (hp1 := (hz F A L)) rfl ?_
    refine w_ge (p3 := 10) rfl rfl (fun hb => ?_) (fun h => False.elim (by have h : y3.toInt < (F 67 17).toInt := h; omega))
    refine w_n 1 (pc1 := 90) (ls1 := [some (.ref 67), some (.int x1), some (.int x2), some (.int y3), o4]) (st1 := [.int 0]) (hp1 := (hz F A L)) rfl ?_
    subst T
    exact w_ri rfl (cvQ rfl (funext fun q => if k0 : q = 83 then by subst k0; exact Eq.trans (b := (A 83)) rfl rfl else by unfold uA; simp only [nb1 k0, cond_false]) rfl K)
  | succ m ih =>
    intro B D F A L x1 x2 y3 o4 hm K
    generalize hT : (km_byLaw_2 f (A 78) (A 79) (A 80) (A 81) (A 82) (A 84) x1 x2 (m + 1) y3 (A 83)) = T at K
    have hE : T = (if ((A 79).getD y3.toInt.toNat 0) = x1 then (if (km_comesTo f (A 78) (A 83) (A 84) ((A 81).getD y3.toInt.toNat 0) ((A 82).getD y3.toInt.toNat 0)).1 = 1 then (if (km_comesTo f (A 78) (km_comesTo f (A 78) (A 83) (A 84) ((A 81).getD y3.toInt.toNat 0) ((A 82).getD y3.toInt.toNat 0)).2 (A 84) ((A 80).getD y3.toInt.toNat 0) ((A 81).getD y3.toInt.toNat 0)).1.toInt < 0 then (0, (km_comesTo f (A 78) (km_comesTo f (A 78) (A 83) (A 84) ((A 81).getD y3.toInt.toNat 0) ((A 82).getD y3.toInt.toNat 0)).2 (A 84) ((A 80).getD y3.toInt.toNat 0) ((A 81).getD y3.toInt.toNat 0)).2) else (if x2.toInt < (km_comesTo f (A 78) (km_comesTo f (A 78) (A 83) (A 84) ((A 81).getD y3.toInt.toNat 0) ((A 82).getD y3.toInt.toNat 0)).2 (A 84) ((A 80).getD y3.toInt.toNat 0) ((A 81).getD y3.toInt.toNat 0)).1.toInt then (x2, (km_comesTo f (A 78) (km_comesTo f (A 78) (A 83) (A 84) ((A 81).getD y3.toInt.toNat 0) ((A 82).getD y3.toInt.toNat 0)).2 (A 84) ((A 80).getD y3.toInt.toNat 0) ((A 81).getD y3.toInt.toNat 0)).2) else ((km_comesTo f (A 78) (km_comesTo f (A 78) (A 83) (A 84) ((A 81).getD y3.toInt.toNat 0) ((A 82).getD y3.toInt.toNat 0)).2 (A 84) ((A 80).getD y3.toInt.toNat 0) ((A 81).getD y3.toInt.toNat 0)).1, (km_comesTo f (A 78) (km_comesTo f (A 78) (A 83) (A 84) ((A 81).getD y3.toInt.toNat 0) ((A 82).getD y3.toInt.toNat 0)).2 (A 84) ((A 80).getD y3.toInt.toNat 0) ((A 81).getD y3.toInt.toNat 0)).2))) else (km_byLaw_2 f (A 78) (A 79) (A 80) (A 81) (A 82) (A 84) x1 x2 m (y3 + 1) (km_comesTo f (A 78) (A 83) (A 84) ((A 81).getD y3.toInt.toNat 0) ((A 82).getD y3.toInt.toNat 0)).2)) else (km_byLaw_2 f (A 78) (A 79) (A 80) (A 81) (A 82) (A 84) x1 x2 m (y3 + 1) (A 83))) := hT.symm
    clear hT
    refine w_n 3 (pc1 := 7) (ls1 := [some (.ref 67), some (.int x1), some (.int x2), some (.int y3), o4]) (st1 := [.int (F 67 17), .int y3]) (hp1 := (hz F A L)) rfl ?_
    refine w_ge (p3 := 10) rfl rfl (fun h => False.elim (by have h : (F 67 17).toInt ≤ y3.toInt := h; omega)) (fun hb => ?_)
    refine w_n 3 (pc1 := 15) (ls1 := [some (.ref 67), some (.int x1), some (.int x2), some (.int y3), o4]) (st1 := [.int y3, .ref 79]) (hp1 := (hz F A L)) rfl ?_
    refine w_al (k := 79) (l := (A 79)) rfl rfl rfl (fun ab => ?_)
    refine w_n 1 (pc1 := 17) (ls1 := [some (.ref 67), some (.int x1), some (.int x2), some (.int y3), o4]) (st1 := [.int x1, .int ((A 79).getD y3.toInt.toNat 0)]) (hp1 := (hz F A L)) rfl ?_
    refine w_ne (p3 := 20) rfl rfl (fun h => ?_) (fun h => ?_)
    · have h1 : ¬ ((A 79).getD y3.toInt.toNat 0) = x1 := h
      rw [if_neg h1] at hE
      refine w_n 2 (pc1 := 2) (ls1 := [some (.ref 67), some (.int x1), some (.int x2), some (.int (y3 + 1)), o4]) (st1 := []) (hp1 := (hz F A L)) rfl ?_
      subst T
      have hb2 := i_up (B := (F 67 17)) hb
      have hb3 : y3.toInt < (F 67 17).toInt := hb
      exact ih (show m = ((F 67 17).toInt - (y3 + 1).toInt).toNat by rw [hb2]; omega) (cvQ rfl (funext fun q => if k0 : q = 83 then by subst k0; exact Eq.trans (b := (km_byLaw_2 f (A 78) (A 79) (A 80) (A 81) (A 82) (A 84) x1 x2 m (y3 + 1) (A 83)).2) rfl rfl else by unfold uA; simp only [nb1 k0, cond_false]) rfl K)
    · have h1 : ((A 79).getD y3.toInt.toNat 0) = x1 := h
      rw [if_pos h1] at hE
      refine w_n 4 (pc1 := 26) (ls1 := [some (.ref 67), some (.int x1), some (.int x2), some (.int y3), o4]) (st1 := [.int y3, .ref 81, .ref 67]) (hp1 := (hz F A L)) rfl ?_
      refine w_al (k := 81) (l := (A 81)) rfl rfl rfl (fun ab => ?_)
      refine w_n 3 (pc1 := 32) (ls1 := [some (.ref 67), some (.int x1), some (.int x2), some (.int y3), o4]) (st1 := [.int y3, .ref 82, .int ((A 81).getD y3.toInt.toNat 0), .ref 67]) (hp1 := (hz F A L)) rfl ?_
      refine w_al (k := 82) (l := (A 82)) rfl rfl rfl (fun ab => ?_)
      refine w_c rfl rfl (t_km_comesTo ?_)
      show wl_E f _ _ mm180.2.2.2.2.2.2.2.2 36 [some (.ref 67), some (.int x1), some (.int x2), some (.int y3), o4] [.int (km_comesTo f (A 78) (A 83) (A 84) ((A 81).getD y3.toInt.toNat 0) ((A 82).getD y3.toInt.toNat 0)).1] (hz F (uA A 83 (km_comesTo f (A 78) (A 83) (A 84) ((A 81).getD y3.toInt.toNat 0) ((A 82).getD y3.toInt.toNat 0)).2) L) _
      generalize hG81 : (km_comesTo f (A 78) (A 83) (A 84) ((A 81).getD y3.toInt.toNat 0) ((A 82).getD y3.toInt.toNat 0)) = G81 at hE ⊢
      refine w_n 1 (pc1 := 37) (ls1 := [some (.ref 67), some (.int x1), some (.int x2), some (.int y3), o4]) (st1 := [.int 1, .int G81.1]) (hp1 := (hz F (uA A 83 G81.2) L)) rfl ?_
      refine w_eq (p3 := 40) rfl rfl (fun h => ?_) (fun h => ?_)
      · have h2 : G81.1 = 1 := h
        rw [if_pos h2] at hE
        refine w_n 4 (pc1 := 49) (ls1 := [some (.ref 67), some (.int x1), some (.int x2), some (.int y3), o4]) (st1 := [.int y3, .ref 80, .ref 67]) (hp1 := (hz F (uA A 83 G81.2) L)) rfl ?_
        refine w_al (k := 80) (l := (A 80)) rfl rfl rfl (fun ab => ?_)
        refine w_n 3 (pc1 := 55) (ls1 := [some (.ref 67), some (.int x1), some (.int x2), some (.int y3), o4]) (st1 := [.int y3, .ref 81, .int ((A 80).getD y3.toInt.toNat 0), .ref 67]) (hp1 := (hz F (uA A 83 G81.2) L)) rfl ?_
        refine w_al (k := 81) (l := (A 81)) rfl rfl rfl (fun ab => ?_)
        refine w_c rfl rfl (t_km_comesTo ?_)
        show wl_E f _ _ mm180.2.2.2.2.2.2.2.2 59 [some (.ref 67), some (.int x1), some (.int x2), some (.int y3), o4] [.int (km_comesTo f (A 78) G81.2 (A 84) ((A 80).getD y3.toInt.toNat 0) ((A 81).getD y3.toInt.toNat 0)).1] (hz F (uA (uA A 83 G81.2) 83 (km_comesTo f (A 78) G81.2 (A 84) ((A 80).getD y3.toInt.toNat 0) ((A 81).getD y3.toInt.toNat 0)).2) L) _
        generalize hG82 : (km_comesTo f (A 78) G81.2 (A 84) ((A 80).getD y3.toInt.toNat 0) ((A 81).getD y3.toInt.toNat 0)) = G82 at hE ⊢
        refine w_n 2 (pc1 := 63) (ls1 := [some (.ref 67), some (.int x1), some (.int x2), some (.int y3), some (.int G82.1)]) (st1 := [.int G82.1]) (hp1 := (hz F (uA (uA A 83 G81.2) 83 G82.2) L)) rfl ?_
        refine w_zge (p3 := 66) rfl rfl (fun h => ?_) (fun h => ?_)
        · have h3 : 0 ≤ G82.1.toInt := h
          rw [if_neg (Int.not_lt.mpr h3)] at hE
          refine w_n 2 (pc1 := 73) (ls1 := [some (.ref 67), some (.int x1), some (.int x2), some (.int y3), some (.int G82.1)]) (st1 := [.int x2, .int G82.1]) (hp1 := (hz F (uA (uA A 83 G81.2) 83 G82.2) L)) rfl ?_
          refine w_le (p3 := 76) rfl rfl (fun h => ?_) (fun h => ?_)
          · have h4 : G82.1.toInt ≤ x2.toInt := h
            rw [if_neg (Int.not_lt.mpr h4)] at hE
            refine w_n 1 (pc1 := 82) (ls1 := [some (.ref 67), some (.int x1), some (.int x2), some (.int y3), some (.int G82.1)]) (st1 := [.int G82.1]) (hp1 := (hz F (uA (uA A 83 G81.2) 83 G82.2) L)) rfl ?_
            subst T
            exact w_ri rfl (cvQ rfl (funext fun q => if k0 : q = 83 then by subst k0; exact Eq.trans (b := G82.2) rfl rfl else by unfold uA; simp only [nb1 k0, cond_false]) rfl K)
          · have h4 : x2.toInt < G82.1.toInt := h
            rw [if_pos h4] at hE
            refine w_n 2 (pc1 := 82) (ls1 := [some (.ref 67), some (.int x1), some (.int x2), some (.int y3), some (.int G82.1)]) (st1 := [.int x2]) (hp1 := (hz F (uA (uA A 83 G81.2) 83 G82.2) L)) rfl ?_
            subst T
            exact w_ri rfl (cvQ rfl (funext fun q => if k0 : q = 83 then by subst k0; exact Eq.trans (b := G82.2) rfl rfl else by unfold uA; simp only [nb1 k0, cond_false]) rfl K)
        · have h3 : G82.1.toInt < 0 := h
          rw [if_pos h3] at hE
          refine w_n 2 (pc1 := 82) (ls1 := [some (.ref 67), some (.int x1), some (.int x2), some (.int y3), some (.int G82.1)]) (st1 := [.int 0]) (hp1 := (hz F (uA (uA A 83 G81.2) 83 G82.2) L)) rfl ?_
          subst T
          exact w_ri rfl (cvQ rfl (funext fun q => if k0 : q = 83 then by subst k0; exact Eq.trans (b := G82.2) rfl rfl else by unfold uA; simp only [nb1 k0, cond_false]) rfl K)
      · have h2 : ¬ G81.1 = 1 := h
        rw [if_neg h2] at hE
        refine w_n 3 (pc1 := 2) (ls1 := [some (.ref 67), some (.int x1), some (.int x2), some (.int (y3 + 1)), o4]) (st1 := []) (hp1 := (hz F (uA A 83 G81.2) L)) rfl ?_
        subst T
        have hb2 := i_up (B := (F 67 17)) hb
        have hb3 : y3.toInt < (F 67 17).toInt := hb
        exact ih (show m = ((F 67 17).toInt - (y3 + 1).toInt).toNat by rw [hb2]; omega) (cvQ rfl (funext fun q => if k0 : q = 83 then by subst k0; exact Eq.trans (b := (km_byLaw_2 f (A 78) (A 79) (A 80) (A 81) (A 82) (A 84) x1 x2 m (y3 + 1) G81.2).2) rfl rfl else by unfold uA; simp only [nb1 k0, cond_false]) rfl K)
noncomputable def km_byLaw (f : Nat) (f67_17 : Int32) (a78 : List Int32) (a79 : List Int32) (a80 : List Int32) (a81 : List Int32) (a82 : List Int32) (a83 : List Int32) (a84 : List Int32) (x1 : Int32) (x2 : Int32) : Int32 × List Int32 := (km_byLaw_2 f a78 a79 a80 a81 a82 a84 x1 x2 f67_17.toInt.toNat 0 a83)
theorem t_km_byLaw {f D : Nat} {F : Nat → Nat → Int32} {A : Nat → List Int32} {L : Nat → List Int64} {Q : Option Value → sm_H → Prop} {x1 : Int32} {x2 : Int32} (K : Q (some (.int ((km_byLaw f (F 67 17) (A 78) (A 79) (A 80) (A 81) (A 82) (A 83) (A 84) x1 x2).1))) (hz F (uA A 83 ((km_byLaw f (F 67 17) (A 78) (A 79) (A 80) (A 81) (A 82) (A 83) (A 84) x1 x2).2)) L)) : wl_M f D 180 [.ref 67, .int x1, .int x2] (hz F A L) Q := by
  generalize hT : (km_byLaw f (F 67 17) (A 78) (A 79) (A 80) (A 81) (A 82) (A 83) (A 84) x1 x2) = T at K
  have hE : T = (km_byLaw_2 f (A 78) (A 79) (A 80) (A 81) (A 82) (A 84) x1 x2 (F 67 17).toInt.toNat 0 (A 83)) := hT.symm
  clear hT
  refine w_m (E := mm180) rfl ?_
  show wl_E f f (D - 1) mm180.2.2.2.2.2.2.2.2 0 [some (.ref 67), some (.int x1), some (.int x2), none, none] [] (hz F A L) Q
  refine w_n 2 (pc1 := 2) (ls1 := [some (.ref 67), some (.int x1), some (.int x2), some (.int 0), none]) (st1 := []) (hp1 := (hz F A L)) rfl ?_
  subst T
  exact t_km_byLaw_2 _ (show (F 67 17).toInt.toNat = ((F 67 17).toInt - (0 : Int32).toInt).toNat by have e0 : (0 : Int32).toInt = 0 := rfl; first | rfl | omega) (cvQ rfl (funext fun q => if k0 : q = 83 then by subst k0; exact Eq.trans (b := (km_byLaw_2 f (A 78) (A 79) (A 80) (A 81) (A 82) (A 84) x1 x2 (F 67 17).toInt.toNat 0 (A 83)).2) rfl rfl else by unfold uA; simp only [nb1 k0, cond_false]) rfl K)
noncomputable def km_spillsBy (f : Nat) (f67_17 : Int32) (a68 : List Int32) (a78 : List Int32) (a79 : List Int32) (a80 : List Int32) (a81 : List Int32) (a82 : List Int32) (a83 : List Int32) (a84 : List Int32) : Int32 × List Int32 × List Int32 := ((km_byLaw f f67_17 a78 a79 a80 a81 a82 a83 (km_feelsOne a68 a84 (a68.getD 145 0)) 100 10).1, (km_byLaw f f67_17 a78 a79 a80 a81 a82 a83 (km_feelsOne a68 a84 (a68.getD 145 0)) 100 10).2, (km_feelsOne a68 a84 (a68.getD 145 0)))
