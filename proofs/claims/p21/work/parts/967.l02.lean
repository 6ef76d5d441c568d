/-! lifts, printed by genlift.py: 2 -/
noncomputable def kt_copyFrom_3_12 (f12_0 : Int32) (f12_1 : Int32) (f12_2 : Int32) (f12_3 : Int32) (f12_4 : Int32) (f12_5 : Int32) (f12_6 : Int32) (a4 : List Int32) (a5 : List Int32) (a6 : List Int32) (a7 : List Int32) (a8 : List Int32) (a9 : List Int32) (a10 : List Int32) (a13 : List Int32) (a14 : List Int32) (a15 : List Int32) (a16 : List Int32) (a17 : List Int32) (a18 : List Int32) (a19 : List Int32) (l11 : List Int64) (l20 : List Int64) : Int32 × Int32 × Int32 × Int32 × Int32 × Int32 × Int32 × List Int32 × List Int32 × List Int32 × List Int32 × List Int32 × List Int32 × List Int32 × List Int64 := (f12_0, f12_1, f12_2, f12_3, f12_4, f12_5, f12_6, (sm_cpy a13 a4 0 0 12), (sm_cpy a14 a5 0 0 12), (sm_cpy a15 a6 0 0 12), (sm_cpy a16 a7 0 0 12), (sm_cpy a17 a8 0 0 12), (sm_cpy a18 a9 0 0 12), (sm_cpy a19 a10 0 0 12), (sm_cpy l20 l11 0 0 12))
theorem t_kt_copyFrom_3_12 {f D : Nat} {F : Nat → Nat → Int32} {A : Nat → List Int32} {L : Nat → List Int64} {Q : Option Value → sm_H → Prop} (K : Q none (hz (uF (uF (uF (uF (uF (uF (uF F 3 0 ((kt_copyFrom_3_12 (F 12 0) (F 12 1) (F 12 2) (F 12 3) (F 12 4) (F 12 5) (F 12 6) (A 4) (A 5) (A 6) (A 7) (A 8) (A 9) (A 10) (A 13) (A 14) (A 15) (A 16) (A 17) (A 18) (A 19) (L 11) (L 20)).1)) 3 1 ((kt_copyFrom_3_12 (F 12 0) (F 12 1) (F 12 2) (F 12 3) (F 12 4) (F 12 5) (F 12 6) (A 4) (A 5) (A 6) (A 7) (A 8) (A 9) (A 10) (A 13) (A 14) (A 15) (A 16) (A 17) (A 18) (A 19) (L 11) (L 20)).2.1)) 3 2 ((kt_copyFrom_3_12 (F 12 0) (F 12 1) (F 12 2) (F 12 3) (F 12 4) (F 12 5) (F 12 6) (A 4) (A 5) (A 6) (A 7) (A 8) (A 9) (A 10) (A 13) (A 14) (A 15) (A 16) (A 17) (A 18) (A 19) (L 11) (L 20)).2.2.1)) 3 3 ((kt_copyFrom_3_12 (F 12 0) (F 12 1) (F 12 2) (F 12 3) (F 12 4) (F 12 5) (F 12 6) (A 4) (A 5) (A 6) (A 7) (A 8) (A 9) (A 10) (A 13) (A 14) (A 15) (A 16) (A 17) (A 18) (A 19) (L 11) (L 20)).2.2.2.1)) 3 4 ((kt_copyFrom_3_12 (F 12 0) (F 12 1) (F 12 2) (F 12 3) (F 12 4) (F 12 5) (F 12 6) (A 4) (A 5) (A 6) (A 7) (A 8) (A 9) (A 10) (A 13) (A 14) (A 15) (A 16) (A 17) (A 18) (A 19) (L 11) (L 20)).2.2.2.2.1)) 3 5 ((kt_copyFrom_3_12 (F 12 0) (F 12 1) (F 12 2) (F 12 3) (F 12 4) (F 12 5) (F 12 6) (A 4) (A 5) (A 6) (A 7) (A 8) (A 9) (A 10) (A 13) (A 14) (A 15) (A 16) (A 17) (A 18) (A 19) (L 11) (L 20)).2.2.2.2.2.1)) 3 6 ((kt_copyFrom_3_12 (F 12 0) (F 12 1) (F 12 2) (F 12 3) (F 12 4) (F 12 5) (F 12 6) (A 4) (A 5) (A 6) (A 7) (A 8) (A 9) (A 10) (A 13) (A 14) (A 15) (A 16) (A 17) (A 18) (A 19) (L 11) (L 20)).2.2.2.2.2.2.1)) (uA (uA (uA (uA (uA (uA (uA A 4 ((kt_copyFrom_3_12 (F 12 0) (F 12 1) (F 12 2) (F 12 3) (F 12 4) (F 12 5) (F 12 6) (A 4) (A 5) (A 6) (A 7) (A 8) (A 9) (A 10) (A 13) (A 14) (A 15) (A 16) (A 17) (A 18) (A 19) (L 11) (L 20)).2.2.2.2.2.2.2.1)) 5 ((kt_copyFrom_3_12 (F 12 0) (F 12 1) (F 12 2) (F 12 3) (F 12 4) (F 12 5) (F 12 6) (A 4) (A 5) (A 6) (A 7) (A 8) (A 9) (A 10) (A 13) (A 14) (A 15) (A 16) (A 17) (A 18) (A 19) (L 11) (L 20)).2.2.2.2.2.2.2.2.1)) 6 ((kt_copyFrom_3_12 (F 12 0) (F 12 1) (F 12 2) (F 12 3) (F 12 4) (F 12 5) (F 12 6) (A 4) (A 5) (A 6) (A 7) (A 8) (A 9) (A 10) (A 13) (A 14) (A 15) (A 16) (A 17) (A 18) (A 19) (L 11) (L 20)).2.2.2.2.2.2.2.2.2.1)) 7 ((kt_copyFrom_3_12 (F 12 0) (F 12 1) (F 12 2) (F 12 3) (F 12 4) (F 12 5) (F 12 6) (A 4) (A 5) (A 6) (A 7) (A 8) (A 9) (A 10) (A 13) (A 14) (A 15) (A 16) (A 17) (A 18) (A 19) (L 11) (L 20)).2.2.2.2.2.2.2.2.2.2.1)) 8 ((kt_copyFrom_3_12 (F 12 0) (F 12 1) (F 12 2) (F 12 3) (F 12 4) (F 12 5) (F 12 6) (A 4) (A 5) (A 6) (A 7) (A 8) (A 9) (A 10) (A 13) (A 14) (A 15) (A 16) (A 17) (A 18) (A 19) (L 11) (L 20)).2.2.2.2.2.2.2.2.2.2.2.1)) 9 ((kt_copyFrom_3_12 (F 12 0) (F 12 1) (F 12 2) (F 12 3) (F 12 4) (F 12 5) (F 12 6) (A 4) (A 5) (A 6) (A 7) (A 8) (A 9) (A 10) (A 13) (A 14) (A 15) (A 16) (A 17) (A 18) (A 19) (L 11) (L 20)).2.2.2.2.2.2.2.2.2.2.2.2.1)) 10 ((kt_copyFrom_3_12 (F 12 0) (F 12 1) (F 12 2) (F 12 3) (F 12 4) (F 12 5) (F 12 6) (A 4) (A 5) (A 6) (A 7) (A 8) (A 9) (A 10) (A 13) (A 14) (A 15) (A 16) (A 17) (A 18) (A 19) (L 11) (L 20)).2.2.2.2.2.2.2.2.2.2.2.2.2.1)) (uL L 11 ((kt_copyFrom_3_12 (F 12 0) (F 12 1) (F 12 2) (F 12 3) (F 12 4) (F 12 5) (F 12 6) (A 4) (A 5) (A 6) (A 7) (A 8) (A 9) (A 10) (A 13) (A 14) (A 15) (A 16) (A 17) (A 18) (A 19) (L 11) (L 20)).2.2.2.2.2.2.2.2.2.2.2.2.2.2)))) : wl_M f D 69 [.ref 3, .ref 12] (hz F A L) Q := by
  generalize hT : (kt_copyFrom_3_12 (F 12 0) (F 12 1) (F 12 2) (F 12 3) (F 12 4) (F 12 5) (F 12 6) (A 4) (A 5) (A 6) (A 7) (A 8) (A 9) (A 10) (A 13) (A 14) (A 15) (A 16) (A 17) (A 18) (A 19) (L 11) (L 20)) = T at K
  have hE : T = ((F 12 0), (F 12 1), (F 12 2), (F 12 3), (F 12 4), (F 12 5), (F 12 6), (sm_cpy (A 13) (A 4) 0 0 12), (sm_cpy (A 14) (A 5) 0 0 12), (sm_cpy (A 15) (A 6) 0 0 12), (sm_cpy (A 16) (A 7) 0 0 12), (sm_cpy (A 17) (A 8) 0 0 12), (sm_cpy (A 18) (A 9) 0 0 12), (sm_cpy (A 19) (A 10) 0 0 12), (sm_cpy (L 20) (L 11) 0 0 12)) := hT.symm
  clear hT
  refine w_m (E := mm69) rfl ?_
  show wl_E f f (D - 1) mm69.2.2.2.2.2.2.2.2 0 [some (.ref 3), some (.ref 12)] [] (hz F A L) Q
  refine w_n 3 (pc1 := 5) (ls1 := [some (.ref 3), some (.ref 12)]) (st1 := [.int (F 12 0), .ref 3]) (hp1 := (hz F A L)) rfl ?_
  refine w_pf (k := 3) (fs := hz_f3 F) (hp1 := (hz (uF F 3 0 (F 12 0)) A L)) rfl rfl rfl (hz_p3_0 _) ?_
  refine w_n 3 (pc1 := 13) (ls1 := [some (.ref 3), some (.ref 12)]) (st1 := [.int (F 12 1), .ref 3]) (hp1 := (hz (uF F 3 0 (F 12 0)) A L)) rfl ?_
  refine w_pf (k := 3) (fs := hz_f3 (uF F 3 0 (F 12 0))) (hp1 := (hz (uF (uF F 3 0 (F 12 0)) 3 1 (F 12 1)) A L)) rfl rfl rfl (hz_p3_1 _) ?_
  refine w_n 3 (pc1 := 21) (ls1 := [some (.ref 3), some (.ref 12)]) (st1 := [.int (F 12 2), .ref 3]) (hp1 := (hz (uF (uF F 3 0 (F 12 0)) 3 1 (F 12 1)) A L)) rfl ?_
  refine w_pf (k := 3) (fs := hz_f3 (uF (uF F 3 0 (F 12 0)) 3 1 (F 12 1))) (hp1 := (hz (uF (uF (uF F 3 0 (F 12 0)) 3 1 (F 12 1)) 3 2 (F 12 2)) A L)) rfl rfl rfl (hz_p3_2 _) ?_
  refine w_n 3 (pc1 := 29) (ls1 := [some (.ref 3), some (.ref 12)]) (st1 := [.int (F 12 3), .ref 3]) (hp1 := (hz (uF (uF (uF F 3 0 (F 12 0)) 3 1 (F 12 1)) 3 2 (F 12 2)) A L)) rfl ?_
  refine w_pf (k := 3) (fs := hz_f3 (uF (uF (uF F 3 0 (F 12 0)) 3 1 (F 12 1)) 3 2 (F 12 2))) (hp1 := (hz (uF (uF (uF (uF F 3 0 (F 12 0)) 3 1 (F 12 1)) 3 2 (F 12 2)) 3 3 (F 12 3)) A L)) rfl rfl rfl (hz_p3_3 _) ?_
  refine w_n 3 (pc1 := 37) (ls1 := [some (.ref 3), some (.ref 12)]) (st1 := [.int (F 12 4), .ref 3]) (hp1 := (hz (uF (uF (uF (uF F 3 0 (F 12 0)) 3 1 (F 12 1)) 3 2 (F 12 2)) 3 3 (F 12 3)) A L)) rfl ?_
  refine w_pf (k := 3) (fs := hz_f3 (uF (uF (uF (uF F 3 0 (F 12 0)) 3 1 (F 12 1)) 3 2 (F 12 2)) 3 3 (F 12 3))) (hp1 := (hz (uF (uF (uF (uF (uF F 3 0 (F 12 0)) 3 1 (F 12 1)) 3 2 (F 12 2)) 3 3 (F 12 3)) 3 4 (F 12 4)) A L)) rfl rfl rfl (hz_p3_4 _) ?_
  refine w_n 3 (pc1 := 45) (ls1 := [some (.ref 3), some (.ref 12)]) (st1 := [.int (F 12 5), .ref 3]) (hp1 := (hz (uF (uF (uF (uF (uF F 3 0 (F 12 0)) 3 1 (F 12 1)) 3 2 (F 12 2)) 3 3 (F 12 3)) 3 4 (F 12 4)) A L)) rfl ?_
  refine w_pf (k := 3) (fs := hz_f3 (uF (uF (uF (uF (uF F 3 0 (F 12 0)) 3 1 (F 12 1)) 3 2 (F 12 2)) 3 3 (F 12 3)) 3 4 (F 12 4))) (hp1 := (hz (uF (uF (uF (uF (uF (uF F 3 0 (F 12 0)) 3 1 (F 12 1)) 3 2 (F 12 2)) 3 3 (F 12 3)) 3 4 (F 12 4)) 3 5 (F 12 5)) A L)) rfl rfl rfl (hz_p3_5 _) ?_
  refine w_n 3 (pc1 := 53) (ls1 := [some (.ref 3), some (.ref 12)]) (st1 := [.int (F 12 6), .ref 3]) (hp1 := (hz (uF (uF (uF (uF (uF (uF F 3 0 (F 12 0)) 3 1 (F 12 1)) 3 2 (F 12 2)) 3 3 (F 12 3)) 3 4 (F 12 4)) 3 5 (F 12 5)) A L)) rfl ?_
  refine w_pf (k := 3) (fs := hz_f3 (uF (uF (uF (uF (uF (uF F 3 0 (F 12 0)) 3 1 (F 12 1)) 3 2 (F 12 2)) 3 3 (F 12 3)) 3 4 (F 12 4)) 3 5 (F 12 5))) (hp1 := (hz (uF (uF (uF (uF (uF (uF (uF F 3 0 (F 12 0)) 3 1 (F 12 1)) 3 2 (F 12 2)) 3 3 (F 12 3)) 3 4 (F 12 4)) 3 5 (F 12 5)) 3 6 (F 12 6)) A L)) rfl rfl rfl (hz_p3_6 _) ?_
  refine w_n 7 (pc1 := 68) (ls1 := [some (.ref 3), some (.ref 12)]) (st1 := [.int 12, .int 0, .ref 4, .int 0, .ref 13]) (hp1 := (hz (uF (uF (uF (uF (uF (uF (uF F 3 0 (F 12 0)) 3 1 (F 12 1)) 3 2 (F 12 2)) 3 3 (F 12 3)) 3 4 (F 12 4)) 3 5 (F 12 5)) 3 6 (F 12 6)) A L)) rfl ?_
  refine w_ac (ks := 13) (kd := 4) (u := (A 13)) (g := (A 4)) (hp1 := (hz (uF (uF (uF (uF (uF (uF (uF F 3 0 (F 12 0)) 3 1 (F 12 1)) 3 2 (F 12 2)) 3 3 (F 12 3)) 3 4 (F 12 4)) 3 5 (F 12 5)) 3 6 (F 12 6)) (uA A 4 (sm_cpy (A 13) (A 4) 0 0 12)) L)) rfl rfl rfl rfl (hz_s4 _) (fun _ => ?_)
  refine w_n 7 (pc1 := 83) (ls1 := [some (.ref 3), some (.ref 12)]) (st1 := [.int 12, .int 0, .ref 5, .int 0, .ref 14]) (hp1 := (hz (uF (uF (uF (uF (uF (uF (uF F 3 0 (F 12 0)) 3 1 (F 12 1)) 3 2 (F 12 2)) 3 3 (F 12 3)) 3 4 (F 12 4)) 3 5 (F 12 5)) 3 6 (F 12 6)) (uA A 4 (sm_cpy (A 13) (A 4) 0 0 12)) L)) rfl ?_
  refine w_ac (ks := 14) (kd := 5) (u := (A 14)) (g := (A 5)) (hp1 := (hz (uF (uF (uF (uF (uF (uF (uF F 3 0 (F 12 0)) 3 1 (F 12 1)) 3 2 (F 12 2)) 3 3 (F 12 3)) 3 4 (F 12 4)) 3 5 (F 12 5)) 3 6 (F 12 6)) (uA (uA A 4 (sm_cpy (A 13) (A 4) 0 0 12)) 5 (sm_cpy (A 14) (A 5) 0 0 12)) L)) rfl rfl rfl rfl (hz_s5 _) (fun _ => ?_)
  refine w_n 7 (pc1 := 98) (ls1 := [some (.ref 3), some (.ref 12)]) (st1 := [.int 12, .int 0, .ref 6, .int 0, .ref 15]) (hp1 := (hz (uF (uF (uF (uF (uF (uF (uF F 3 0 (F 12 0)) 3 1 (F 12 1)) 3 2 (F 12 2)) 3 3 (F 12 3)) 3 4 (F 12 4)) 3 5 (F 12 5)) 3 6 (F 12 6)) (uA (uA A 4 (sm_cpy (A 13) (A 4) 0 0 12)) 5 (sm_cpy (A 14) (A 5) 0 0 12)) L)) rfl ?_
  refine w_ac (ks := 15) (kd := 6) (u := (A 15)) (g := (A 6)) (hp1 := (hz (uF (uF (uF (uF (uF (uF (uF F 3 0 (F 12 0)) 3 1 (F 12 1)) 3 2 (F 12 2)) 3 3 (F 12 3)) 3 4 (F 12 4)) 3 5 (F 12 5)) 3 6 (F 12 6)) (uA (uA (uA A 4 (sm_cpy (A 13) (A 4) 0 0 12)) 5 (sm_cpy (A 14) (A 5) 0 0 12)) 6 (sm_cpy (A 15) (A 6) 0 0 12)) L)) rfl rfl rfl rfl (hz_s6 _) (fun _ => ?_)
  refine w_n 7 (pc1 := 113) (ls1 := [some (.ref 3), some (.ref 12)]) (st1 := [.int 12, .int 0, .ref 7, .int 0, .ref 16]) (hp1 := (hz (uF (uF (uF (uF (uF (uF (uF F 3 0 (F 12 0)) 3 1 (F 12 1)) 3 2 (F 12 2)) 3 3 (F 12 3)) 3 4 (F 12 4)) 3 5 (F 12 5)) 3 6 (F 12 6)) (uA (uA (uA A 4 (sm_cpy (A 13) (A 4) 0 0 12)) 5 (sm_cpy (A 14) (A 5) 0 0 12)) 6 (sm_cpy (A 15) (A 6) 0 0 12)) L)) rfl ?_
  refine w_ac (ks := 16) (kd := 7) (u := (A 16)) (g := (A 7)) (hp1 := (hz (uF (uF (uF (uF (uF (uF (uF F 3 0 (F 12 0)) 3 1 (F 12 1)) 3 2 (F 12 2)) 3 3 (F 12 3)) 3 4 (F 12 4)) 3 5 (F 12 5)) 3 6 (F 12 6)) (uA (uA (uA (uA A 4 (sm_cpy (A 13) (A 4) 0 0 12)) 5 (sm_cpy (A 14) (A 5) 0 0 12)) 6 (sm_cpy (A 15) (A 6) 0 0 12)) 7 (sm_cpy (A 16) (A 7) 0 0 12)) L)) rfl rfl rfl rfl (hz_s7 _) (fun _ => ?_)
  refine w_n 7 (pc1 := 128) (ls1 := [some (.ref 3), some (.ref 12)]) (st1 := [.int 12, .int 0, .ref 8, .int 0, .ref 17]) (hp1 := (hz (uF (uF (uF (uF (uF (uF (uF F 3 0 (F 12 0)) 3 1 (F 12 1)) 3 2 (F 12 2)) 3 3 (F 12 3)) 3 4 (F 12 4)) 3 5 (F 12 5)) 3 6 (F 12 6)) (uA (uA (uA (uA A 4 (sm_cpy (A 13) (A 4) 0 0 12)) 5 (sm_cpy (A 14) (A 5) 0 0 12)) 6 (sm_cpy (A 15) (A 6) 0 0 12)) 7 (sm_cpy (A 16) (A 7) 0 0 12)) L)) rfl ?_
  refine w_ac (ks := 17) (kd := 8) (u := (A 17)) (g := (A 8)) (hp1 := (hz (uF (uF (uF (uF (uF (uF (uF F 3 0 (F 12 0)) 3 1 (F 12 1)) 3 2 (F 12 2)) 3 3 (F 12 3)) 3 4 (F 12 4)) 3 5 (F 12 5)) 3 6 (F 12 6)) (uA (uA (uA (uA (uA A 4 (sm_cpy (A 13) (A 4) 0 0 12)) 5 (sm_cpy (A 14) (A 5) 0 0 12)) 6 (sm_cpy (A 15) (A 6) 0 0 12)) 7 (sm_cpy (A 16) (A 7) 0 0 12)) 8 (sm_cpy (A 17) (A 8) 0 0 12)) L)) rfl rfl rfl rfl (hz_s8 _) (fun _ => ?_)
  refine w_n 7 (pc1 := 143) (ls1 := [some (.ref 3), some (.ref 12)]) (st1 := [.int 12, .int 0, .ref 9, .int 0, .ref 18]) (hp1 := (hz (uF (uF (uF (uF (uF (uF (uF F 3 0 (F 12 0)) 3 1 (F 12 1)) 3 2 (F 12 2)) 3 3 (F 12 3)) 3 4 (F 12 4)) 3 5 (F 12 5)) 3 6 (F 12 6)) (uA (uA (uA (uA (uA A 4 (sm_cpy (A 13) (A 4) 0 0 12)) 5 (sm_cpy (A 14) (A 5) 0 0 12)) 6 (sm_cpy (A 15) (A 6) 0 0 12)) 7 (sm_cpy (A 16) (A 7) 0 0 12)) 8 (sm_cpy (A 17) (A 8) 0 0 12)) L)) rfl ?_
  refine w_ac (ks := 18) (kd := 9) (u := (A 18)) (g := (A 9)) (hp1 := (hz (uF (uF (uF (uF (uF (uF (uF F 3 0 (F 12 0)) 3 1 (F 12 1)) 3 2 (F 12 2)) 3 3 (F 12 3)) 3 4 (F 12 4)) 3 5 (F 12 5)) 3 6 (F 12 6)) (uA (uA (uA (uA (uA (uA A 4 (sm_cpy (A 13) (A 4) 0 0 12)) 5 (sm_cpy (A 14) (A 5) 0 0 12)) 6 (sm_cpy (A 15) (A 6) 0 0 12)) 7 (sm_cpy (A 16) (A 7) 0 0 12)) 8 (sm_cpy (A 17) (A 8) 0 0 12)) 9 (sm_cpy (A 18) (A 9) 0 0 12)) L)) rfl rfl rfl rfl (hz_s9 _) (fun _ => ?_)
  refine w_n 7 (pc1 := 158) (ls1 := [some (.ref 3), some (.ref 12)]) (st1 := [.int 12, .int 0, .ref 10, .int 0, .ref 19]) (hp1 := (hz (uF (uF (uF (uF (uF (uF (uF F 3 0 (F 12 0)) 3 1 (F 12 1)) 3 2 (F 12 2)) 3 3 (F 12 3)) 3 4 (F 12 4)) 3 5 (F 12 5)) 3 6 (F 12 6)) (uA (uA (uA (uA (uA (uA A 4 (sm_cpy (A 13) (A 4) 0 0 12)) 5 (sm_cpy (A 14) (A 5) 0 0 12)) 6 (sm_cpy (A 15) (A 6) 0 0 12)) 7 (sm_cpy (A 16) (A 7) 0 0 12)) 8 (sm_cpy (A 17) (A 8) 0 0 12)) 9 (sm_cpy (A 18) (A 9) 0 0 12)) L)) rfl ?_
  refine w_ac (ks := 19) (kd := 10) (u := (A 19)) (g := (A 10)) (hp1 := (hz (uF (uF (uF (uF (uF (uF (uF F 3 0 (F 12 0)) 3 1 (F 12 1)) 3 2 (F 12 2)) 3 3 (F 12 3)) 3 4 (F 12 4)) 3 5 (F 12 5)) 3 6 (F 12 6)) (uA (uA (uA (uA (uA (uA (uA A 4 (sm_cpy (A 13) (A 4) 0 0 12)) 5 (sm_cpy (A 14) (A 5) 0 0 12)) 6 (sm_cpy (A 15) (A 6) 0 0 12)) 7 (sm_cpy (A 16) (A 7) 0 0 12)) 8 (sm_cpy (A 17) (A 8) 0 0 12)) 9 (sm_cpy (A 18) (A 9) 0 0 12)) 10 (sm_cpy (A 19) (A 10) 0 0 12)) L)) rfl rfl rfl rfl (hz_s10 _) (fun _ => ?_)
  refine w_n 7 (pc1 := 173) (ls1 := [some (.ref 3), some (.ref 12)]) (st1 := [.int 12, .int 0, .ref 11, .int 0, .ref 20]) (hp1 := (hz (uF (uF (uF (uF (uF (uF (uF F 3 0 (F 12 0)) 3 1 (F 12 1)) 3 2 (F 12 2)) 3 3 (F 12 3)) 3 4 (F 12 4)) 3 5 (F 12 5)) 3 6 (F 12 6)) (uA (uA (uA (uA (uA (uA (uA A 4 (sm_cpy (A 13) (A 4) 0 0 12)) 5 (sm_cpy (A 14) (A 5) 0 0 12)) 6 (sm_cpy (A 15) (A 6) 0 0 12)) 7 (sm_cpy (A 16) (A 7) 0 0 12)) 8 (sm_cpy (A 17) (A 8) 0 0 12)) 9 (sm_cpy (A 18) (A 9) 0 0 12)) 10 (sm_cpy (A 19) (A 10) 0 0 12)) L)) rfl ?_
  refine w_acl (ks := 20) (kd := 11) (u := (L 20)) (g := (L 11)) (hp1 := (hz (uF (uF (uF (uF (uF (uF (uF F 3 0 (F 12 0)) 3 1 (F 12 1)) 3 2 (F 12 2)) 3 3 (F 12 3)) 3 4 (F 12 4)) 3 5 (F 12 5)) 3 6 (F 12 6)) (uA (uA (uA (uA (uA (uA (uA A 4 (sm_cpy (A 13) (A 4) 0 0 12)) 5 (sm_cpy (A 14) (A 5) 0 0 12)) 6 (sm_cpy (A 15) (A 6) 0 0 12)) 7 (sm_cpy (A 16) (A 7) 0 0 12)) 8 (sm_cpy (A 17) (A 8) 0 0 12)) 9 (sm_cpy (A 18) (A 9) 0 0 12)) 10 (sm_cpy (A 19) (A 10) 0 0 12)) (uL L 11 (sm_cpy (L 20) (L 11) 0 0 12)))) rfl rfl rfl rfl (hz_s11 _) (fun _ => ?_)
  subst T
  exact w_r rfl rfl (cvQ rfl rfl rfl K)
noncomputable def kc_undo (f0_11 : Int32) (f3_0 : Int32) (f3_1 : Int32) (f3_2 : Int32) (f3_3 : Int32) (f3_4 : Int32) (f3_5 : Int32) (f3_6 : Int32) (f12_0 : Int32) (f12_1 : Int32) (f12_2 : Int32) (f12_3 : Int32) (f12_4 : Int32) (f12_5 : Int32) (f12_6 : Int32) (a4 : List Int32) (a5 : List Int32) (a6 : List Int32) (a7 : List Int32) (a8 : List Int32) (a9 : List Int32) (a10 : List Int32) (a13 : List Int32) (a14 : List Int32) (a15 : List Int32) (a16 : List Int32) (a17 : List Int32) (a18 : List Int32) (a19 : List Int32) (l11 : List Int64) (l20 : List Int64) : Int32 × Int32 × Int32 × Int32 × Int32 × Int32 × Int32 × Int32 × List Int32 × List Int32 × List Int32 × List Int32 × List Int32 × List Int32 × List Int32 × List Int64 := (if f0_11 = 0 then (0, f3_0, f3_1, f3_2, f3_3, f3_4, f3_5, f3_6, a4, a5, a6, a7, a8, a9, a10, l11) else (1, (kt_copyFrom_3_12 f12_0 f12_1 f12_2 f12_3 f12_4 f12_5 f12_6 a4 a5 a6 a7 a8 a9 a10 a13 a14 a15 a16 a17 a18 a19 l11 l20).1, (kt_copyFrom_3_12 f12_0 f12_1 f12_2 f12_3 f12_4 f12_5 f12_6 a4 a5 a6 a7 a8 a9 a10 a13 a14 a15 a16 a17 a18 a19 l11 l20).2.1, (kt_copyFrom_3_12 f12_0 f12_1 f12_2 f12_3 f12_4 f12_5 f12_6 a4 a5 a6 a7 a8 a9 a10 a13 a14 a15 a16 a17 a18 a19 l11 l20).2.2.1, (kt_copyFrom_3_12 f12_0 f12_1 f12_2 f12_3 f12_4 f12_5 f12_6 a4 a5 a6 a7 a8 a9 a10 a13 a14 a15 a16 a17 a18 a19 l11 l20).2.2.2.1, (kt_copyFrom_3_12 f12_0 f12_1 f12_2 f12_3 f12_4 f12_5 f12_6 a4 a5 a6 a7 a8 a9 a10 a13 a14 a15 a16 a17 a18 a19 l11 l20).2.2.2.2.1, (kt_copyFrom_3_12 f12_0 f12_1 f12_2 f12_3 f12_4 f12_5 f12_6 a4 a5 a6 a7 a8 a9 a10 a13 a14 a15 a16 a17 a18 a19 l11 l20).2.2.2.2.2.1, (kt_copyFrom_3_12 f12_0 f12_1 f12_2 f12_3 f12_4 f12_5 f12_6 a4 a5 a6 a7 a8 a9 a10 a13 a14 a15 a16 a17 a18 a19 l11 l20).2.2.2.2.2.2.1, (kt_copyFrom_3_12 f12_0 f12_1 f12_2 f12_3 f12_4 f12_5 f12_6 a4 a5 a6 a7 a8 a9 a10 a13 a14 a15 a16 a17 a18 a19 l11 l20).2.2.2.2.2.2.2.1, (kt_copyFrom_3_12 f12_0 f12_1 f12_2 f12_3 f12_4 f12_5 f12_6 a4 a5 a6 a7 a8 a9 a10 a13 a14 a15 a16 a17 a18 a19 l11 l20).2.2.2.2.2.2.2.2.1, (kt_copyFrom_3_12 f12_0 f12_1 f12_2 f12_3 f12_4 f12_5 f12_6 a4 a5 a6 a7 a8 a9 a10 a13 a14 a15 a16 a17 a18 a19 l11 l20).2.2.2.2.2.2.2.2.2.1, (kt_copyFrom_3_12 f12_0 f12_1 f12_2 f12_3 f12_4 f12_5 f12_6 a4 a5 a6 a7 a8 a9 a10 a13 a14 a15 a16 a17 a18 a19 l11 l20).2.2.2.2.2.2.2.2.2.2.1, (kt_copyFrom_3_12 f12_0 f12_1 f12_2 f12_3 f12_4 f12_5 f12_6 a4 a5 a6 a7 a8 a9 a10 a13 a14 a15 a16 a17 a18 a19 l11 l20).2.2.2.2.2.2.2.2.2.2.2.1, (kt_copyFrom_3_12 f12_0 f12_1 f12_2 f12_3 f12_4 f12_5 f12_6 a4 a5 a6 a7 a8 a9 a10 a13 a14 a15 a16 a17 a18 a19 l11 l20).2.2.2.2.2.2.2.2.2.2.2.2.1, (kt_copyFrom_3_12 f12_0 f12_1 f12_2 f12_3 f12_4 f12_5 f12_6 a4 a5 a6 a7 a8 a9 a10 a13 a14 a15 a16 a17 a18 a19 l11 l20).2.2.2.2.2.2.2.2.2.2.2.2.2.1, (kt_copyFrom_3_12 f12_0 f12_1 f12_2 f12_3 f12_4 f12_5 f12_6 a4 a5 a6 a7 a8 a9 a10 a13 a14 a15 a16 a17 a18 a19 l11 l20).2.2.2.2.2.2.2.2.2.2.2.2.2.2))
theorem t_kc_undo {f D : Nat} {F : Nat → Nat → Int32} {A : Nat → List Int32} {L : Nat → List Int64} {Q : Option Value → sm_H → Prop} (K : Q (some (.int ((kc_undo (F 0 11) (F 3 0) (F 3 1) (F 3 2) (F 3 3) (F 3 4) (F 3 5) (F 3 6) (F 12 0) (F 12 1) (F 12 2) (F 12 3) (F 12 4) (F 12 5) (F 12 6) (A 4) (A 5) (A 6) (A 7) (A 8) (A 9) (A 10) (A 13) (A 14) (A 15) (A 16) (A 17) (A 18) (A 19) (L 11) (L 20)).1))) (hz (uF (uF (uF (uF (uF (uF (uF F 3 0 ((kc_undo (F 0 11) (F 3 0) (F 3 1) (F 3 2) (F 3 3) (F 3 4) (F 3 5) (F 3 6) (F 12 0) (F 12 1) (F 12 2) (F 12 3) (F 12 4) (F 12 5) (F 12 6) (A 4) (A 5) (A 6) (A 7) (A 8) (A 9) (A 10) (A 13) (A 14) (A 15) (A 16) (A 17) (A 18) (A 19) (L 11) (L 20)).2.1)) 3 1 ((kc_undo (F 0 11) (F 3 0) (F 3 1) (F 3 2) (F 3 3) (F 3 4) (F 3 5) (F 3 6) (F 12 0) (F 12 1) (F 12 2) (F 12 3) (F 12 4) (F 12 5) (F 12 6) (A 4) (A 5) (A 6) (A 7) (A 8) (A 9) (A 10) (A 13) (A 14) (A 15) (A 16) (A 17) (A 18) (A 19) (L 11) (L 20)).2.2.1)) 3 2 ((kc_undo (F 0 11) (F 3 0) (F 3 1) (F 3 2) (F 3 3) (F 3 4) (F 3 5) (F 3 6) (F 12 0) (F 12 1) (F 12 2) (F 12 3) (F 12 4) (F 12 5) (F 12 6) (A 4) (A 5) (A 6) (A 7) (A 8) (A 9) (A 10) (A 13) (A 14) (A 15) (A 16) (A 17) (A 18) (A 19) (L 11) (L 20)).2.2.2.1)) 3 3 ((kc_undo (F 0 11) (F 3 0) (F 3 1) (F 3 2) (F 3 3) (F 3 4) (F 3 5) (F 3 6) (F 12 0) (F 12 1) (F 12 2) (F 12 3) (F 12 4) (F 12 5) (F 12 6) (A 4) (A 5) (A 6) (A 7) (A 8) (A 9) (A 10) (A 13) (A 14) (A 15) (A 16) (A 17) (A 18) (A 19) (L 11) (L 20)).2.2.2.2.1)) 3 4 ((kc_undo (F 0 11) (F 3 0) (F 3 1) (F 3 2) (F 3 3) (F 3 4) (F 3 5) (F 3 6) (F 12 0) (F 12 1) (F 12 2) (F 12 3) (F 12 4) (F 12 5) (F 12 6) (A 4) (A 5) (A 6) (A 7) (A 8) (A 9) (A 10) (A 13) (A 14) (A 15) (A 16) (A 17) (A 18) (A 19) (L 11) (L 20)).2.2.2.2.2.1)) 3 5 ((kc_undo (F 0 11) (F 3 0) (F 3 1) (F 3 2) (F 3 3) (F 3 4) (F 3 5) (F 3 6) (F 12 0) (F 12 1) (F 12 2) (F 12 3) (F 12 4) (F 12 5) (F 12 6) (A 4) (A 5) (A 6) (A 7) (A 8) (A 9) (A 10) (A 13) (A 14) (A 15) (A 16) (A 17) (A 18) (A 19) (L 11) (L 20)).2.2.2.2.2.2.1)) 3 6 ((kc_undo (F 0 11) (F 3 0) (F 3 1) (F 3 2) (F 3 3) (F 3 4) (F 3 5) (F 3 6) (F 12 0) (F 12 1) (F 12 2) (F 12 3) (F 12 4) (F 12 5) (F 12 6) (A 4) (A 5) (A 6) (A 7) (A 8) (A 9) (A 10) (A 13) (A 14) (A 15) (A 16) (A 17) (A 18) (A 19) (L 11) (L 20)).2.2.2.2.2.2.2.1)) (uA (uA (uA (uA (uA (uA (uA A 4 ((kc_undo (F 0 11) (F 3 0) (F 3 1) (F 3 2) (F 3 3) (F 3 4) (F 3 5) (F 3 6) (F 12 0) (F 12 1) (F 12 2) (F 12 3) (F 12 4) (F 12 5) (F 12 6) (A 4) (A 5) (A 6) (A 7) (A 8) (A 9) (A 10) (A 13) (A 14) (A 15) (A 16) (A 17) (A 18) (A 19) (L 11) (L 20)).2.2.2.2.2.2.2.2.1)) 5 ((kc_undo (F 0 11) (F 3 0) (F 3 1) (F 3 2) (F 3 3) (F 3 4) (F 3 5) (F 3 6) (F 12 0) (F 12 1) (F 12 2) (F 12 3) (F 12 4) (F 12 5) (F 12 6) (A 4) (A 5) (A 6) (A 7) (A 8) (A 9) (A 10) (A 13) (A 14) (A 15) (A 16) (A 17) (A 18) (A 19) (L 11) (L 20)).2.2.2.2.2.2.2.2.2.1)) 6 ((kc_undo (F 0 11) (F 3 0) (F 3 1) (F 3 2) (F 3 3) (F 3 4) (F 3 5) (F 3 6) (F 12 0) (F 12 1) (F 12 2) (F 12 3) (F 12 4) (F 12 5) (F 12 6) (A 4) (A 5) (A 6) (A 7) (A 8) (A 9) (A 10) (A 13) (A 14) (A 15) (A 16) (A 17) (A 18) (A 19) (L 11) (L 20)).2.2.2.2.2.2.2.2.2.2.1)) 7 ((kc_undo (F 0 11) (F 3 0) (F 3 1) (F 3 2) (F 3 3) (F 3 4) (F 3 5) (F 3 6) (F 12 0) (F 12 1) (F 12 2) (F 12 3) (F 12 4) (F 12 5) (F 12 6) (A 4) (A 5) (A 6) (A 7) (A 8) (A 9) (A 10) (A 13) (A 14) (A 15) (A 16) (A 17) (A 18) (A 19) (L 11) (L 20)).2.2.2.2.2.2.2.2.2.2.2.1)) 8 ((kc_undo (F 0 11) (F 3 0) (F 3 1) (F 3 2) (F 3 3) (F 3 4) (F 3 5) (F 3 6) (F 12 0) (F 12 1) (F 12 2) (F 12 3) (F 12 4) (F 12 5) (F 12 6) (A 4) (A 5) (A 6) (A 7) (A 8) (A 9) (A 10) (A 13) (A 14) (A 15) (A 16) (A 17) (A 18) (A 19) (L 11) (L 20)).2.2.2.2.2.2.2.2.2.2.2.2.1)) 9 ((kc_undo (F 0 11) (F 3 0) (F 3 1) (F 3 2) (F 3 3) (F 3 4) (F 3 5) (F 3 6) (F 12 0) (F 12 1) (F 12 2) (F 12 3) (F 12 4) (F 12 5) (F 12 6) (A 4) (A 5) (A 6) (A 7) (A 8) (A 9) (A 10) (A 13) (A 14) (A 15) (A 16) (A 17) (A 18) (A 19) (L 11) (L 20)).2.2.2.2.2.2.2.2.2.2.2.2.2.1)) 10 ((kc_undo (F 0 11) (F 3 0) (F 3 1) (F 3 2) (F 3 3) (F 3 4) (F 3 5) (F 3 6) (F 12 0) (F 12 1) (F 12 2) (F 12 3) (F 12 4) (F 12 5) (F 12 6) (A 4) (A 5) (A 6) (A 7) (A 8) (A 9) (A 10) (A 13) (A 14) (A 15) (A 16) (A 17) (A 18) (A 19) (L 11) (L 20)).2.2.2.2.2.2.2.2.2.2.2.2.2.2.1)) (uL L 11 ((kc_undo (F 0 11) (F 3 0) (F 3 1) (F 3 2) (F 3 3) (F 3 4) (F 3 5) (F 3 6) (F 12 0) (F 12 1) (F 12 2) (F 12 3) (F 12 4) (F 12 5) (F 12 6) (A 4) (A 5) (A 6) (A 7) (A 8) (A 9) (A 10) (A 13) (A 14) (A 15) (A 16) (A 17) (A 18) (A 19) (L 11) (L 20)).2.2.2.2.2.2.2.2.2.2.2.2.2.2.2)))) : wl_M f D 136 [.ref 0] (hz F A L) Q := by
  generalize hT : (kc_undo (F 0 11) (F 3 0) (F 3 1) (F 3 2) (F 3 3) (F 3 4) (F 3 5) (F 3 6) (F 12 0) (F 12 1) (F 12 2) (F 12 3) (F 12 4) (F 12 5) (F 12 6) (A 4) (A 5) (A 6) (A 7) (A 8) (A 9) (A 10) (A 13) (A 14) (A 15) (A 16) (A 17) (A 18) (A 19) (L 11) (L 20)) = T at K
  have hE : T = (if (F 0 11) = 0 then (0, (F 3 0), (F 3 1), (F 3 2), (F 3 3), (F 3 4), (F 3 5), (F 3 6), (A 4), (A 5), (A 6), (A 7), (A 8), (A 9), (A 10), (L 11)) else (1, (kt_copyFrom_3_12 (F 12 0) (F 12 1) (F 12 2) (F 12 3) (F 12 4) (F 12 5) (F 12 6) (A 4) (A 5) (A 6) (A 7) (A 8) (A 9) (A 10) (A 13) (A 14) (A 15) (A 16) (A 17) (A 18) (A 19) (L 11) (L 20)).1, (kt_copyFrom_3_12 (F 12 0) (F 12 1) (F 12 2) (F 12 3) (F 12 4) (F 12 5) (F 12 6) (A 4) (A 5) (A 6) (A 7) (A 8) (A 9) (A 10) (A 13) (A 14) (A 15) (A 16) (A 17) (A 18) (A 19) (L 11) (L 20)).2.1, (kt_copyFrom_3_12 (F 12 0) (F 12 1) (F 12 2) (F 12 3) (F 12 4) (F 12 5) (F 12 6) (A 4) (A 5) (A 6) (A 7) (A 8) (A 9) (A 10) (A 13) (A 14) (A 15) (A 16) (A 17) (A 18) (A 19) (L 11) (L 20)).2.2.1, (kt_copyFrom_3_12 (F 12 0) (F 12 1) (F 12 2) (F 12 3) (F 12 4) (F 12 5) (F 12 6) (A 4) (A 5) (A 6) (A 7) (A 8) (A 9) (A 10) (A 13) (A 14) (A 15) (A 16) (A 17) (A 18) (A 19) (L 11) (L 20)).2.2.2.1, (kt_copyFrom_3_12 (F 12 0) (F 12 1) (F 12 2) (F 12 3) (F 12 4) (F 12 5) (F 12 6) (A 4) (A 5) (A 6) (A 7) (A 8) (A 9) (A 10) (A 13) (A 14) (A 15) (A 16) (A 17) (A 18) (A 19) (L 11) (L 20)).2.2.2.2.1, (kt_copyFrom_3_12 (F 12 0) (F 12 1) (F 12 2) (F 12 3) (F 12 4) (F 12 5) (F 12 6) (A 4) (A 5) (A 6) (A 7) (A 8) (A 9) (A 10) (A 13) (A 14) (A 15) (A 16) (A 17) (A 18) (A 19) (L 11) (L 20)).2.2.2.2.2.1, (kt_copyFrom_3_12 (F 12 0) (F 12 1) (F 12 2) (F 12 3) (F 12 4) (F 12 5) (F 12 6) (A 4) (A 5) (A 6) (A 7) (A 8) (A 9) (A 10) (A 13) (A 14) (A 15) (A 16) (A 17) (A 18) (A 19) (L 11) (L 20)).2.2.2.2.2.2.1, (kt_copyFrom_3_12 (F 12 0) (F 12 1) (F 12 2) (F 12 3) (F 12 4) (F 12 5) (F 12 6) (A 4) (A 5) (A 6) (A 7) (A 8) (A 9) (A 10) (A 13) (A 14) (A 15) (A 16) (A 17) (A 18) (A 19) (L 11) (L 20)).2.2.2.2.2.2.2.1, (kt_copyFrom_3_12 (F 12 0) (F 12 1) (F 12 2) (F 12 3) (F 12 4) (F 12 5) (F 12 6) (A 4) (A 5) (A 6) (A 7) (A 8) (A 9) (A 10) (A 13) (A 14) (A 15) (A 16) (A 17) (A 18) (A 19) (L 11) (L 20)).2.2.2.2.2.2.2.2.1, (kt_copyFrom_3_12 (F 12 0) (F 12 1) (F 12 2) (F 12 3) (F 12 4) (F 12 5) (F 12 6) (A 4) (A 5) (A 6) (A 7) (A 8) (A 9) (A 10) (A 13) (A 14) (A 15) (A 16) (A 17) (A 18) (A 19) (L 11) (L 20)).2.2.2.2.2.2.2.2.2.1, (kt_copyFrom_3_12 (F 12 0) (F 12 1) (F 12 2) (F 12 3) (F 12 4) (F 12 5) (F 12 6) (A 4) (A 5) (A 6) (A 7) (A 8) (A 9) (A 10) (A 13) (A 14) (A 15) (A 16) (A 17) (A 18) (A 19) (L 11) (L 20)).2.2.2.2.2.2.2.2.2.2.1, (kt_copyFrom_3_12 (F 12 0) (F 12 1) (F 12 2) (F 12 3) (F 12 4) (F 12 5) (F 12 6) (A 4) (A 5) (A 6) (A 7) (A 8) (A 9) (A 10) (A 13) (A 14) (A 15) (A 16) (A 17) (A 18) (A 19) (L 11) (L 20)).2.2.2.2.2.2.2.2.2.2.2.1, (kt_copyFrom_3_12 (F 12 0) (F 12 1) (F 12 2) (F 12 3) (F 12 4) (F 12 5) (F 12 6) (A 4) (A 5) (A 6) (A 7) (A 8) (A 9) (A 10) (A 13) (A 14) (A 15) (A 16) (A 17) (A 18) (A 19) (L 11) (L 20)).2.2.2.2.2.2.2.2.2.2.2.2.1, (kt_copyFrom_3_12 (F 12 0) (F 12 1) (F 12 2) (F 12 3) (F 12 4) (F 12 5) (F 12 6) (A 4) (A 5) (A 6) (A 7) (A 8) (A 9) (A 10) (A 13) (A 14) (A 15) (A 16) (A 17) (A 18) (A 19) (L 11) (L 20)).2.2.2.2.2.2.2.2.2.2.2.2.2.1, (kt_copyFrom_3_12 (F 12 0) (F 12 1) (F 12 2) (F 12 3) (F 12 4) (F 12 5) (F 12 6) (A 4) (A 5) (A 6) (A 7) (A 8) (A 9) (A 10) (A 13) (A 14) (A 15) (A 16) (A 17) (A 18) (A 19) (L 11) (L 20)).2.2.2.2.2.2.2.2.2.2.2.2.2.2)) := hT.symm
  clear hT
  refine w_m (E := mm136) rfl ?_
  show wl_E f f (D - 1) mm136.2.2.2.2.2.2.2.2 0 [some (.ref 0)] [] (hz F A L) Q
  refine w_n 2 (pc1 := 4) (ls1 := [some (.ref 0)]) (st1 := [.int (F 0 11)]) (hp1 := (hz F A L)) rfl ?_
  refine w_zne (p3 := 7) rfl rfl (fun h => ?_) (fun h => ?_)
  · have h1 : ¬ (F 0 11) = 0 := h
    rw [if_neg h1] at hE
    refine w_n 4 (pc1 := 17) (ls1 := [some (.ref 0)]) (st1 := [.ref 12, .ref 3]) (hp1 := (hz F A L)) rfl ?_
    refine w_c rfl rfl (t_kt_copyFrom_3_12 ?_)
    show wl_E f _ _ mm136.2.2.2.2.2.2.2.2 20 [some (.ref 0)] [] (hz (uF (uF (uF (uF (uF (uF (uF F 3 0 (kt_copyFrom_3_12 (F 12 0) (F 12 1) (F 12 2) (F 12 3) (F 12 4) (F 12 5) (F 12 6) (A 4) (A 5) (A 6) (A 7) (A 8) (A 9) (A 10) (A 13) (A 14) (A 15) (A 16) (A 17) (A 18) (A 19) (L 11) (L 20)).1) 3 1 (kt_copyFrom_3_12 (F 12 0) (F 12 1) (F 12 2) (F 12 3) (F 12 4) (F 12 5) (F 12 6) (A 4) (A 5) (A 6) (A 7) (A 8) (A 9) (A 10) (A 13) (A 14) (A 15) (A 16) (A 17) (A 18) (A 19) (L 11) (L 20)).2.1) 3 2 (kt_copyFrom_3_12 (F 12 0) (F 12 1) (F 12 2) (F 12 3) (F 12 4) (F 12 5) (F 12 6) (A 4) (A 5) (A 6) (A 7) (A 8) (A 9) (A 10) (A 13) (A 14) (A 15) (A 16) (A 17) (A 18) (A 19) (L 11) (L 20)).2.2.1) 3 3 (kt_copyFrom_3_12 (F 12 0) (F 12 1) (F 12 2) (F 12 3) (F 12 4) (F 12 5) (F 12 6) (A 4) (A 5) (A 6) (A 7) (A 8) (A 9) (A 10) (A 13) (A 14) (A 15) (A 16) (A 17) (A 18) (A 19) (L 11) (L 20)).2.2.2.1) 3 4 (kt_copyFrom_3_12 (F 12 0) (F 12 1) (F 12 2) (F 12 3) (F 12 4) (F 12 5) (F 12 6) (A 4) (A 5) (A 6) (A 7) (A 8) (A 9) (A 10) (A 13) (A 14) (A 15) (A 16) (A 17) (A 18) (A 19) (L 11) (L 20)).2.2.2.2.1) 3 5 (kt_copyFrom_3_12 (F 12 0) (F 12 1) (F 12 2) (F 12 3) (F 12 4) (F 12 5) (F 12 6) (A 4) (A 5) (A 6) (A 7) (A 8) (A 9) (A 10) (A 13) (A 14) (A 15) (A 16) (A 17) (A 18) (A 19) (L 11) (L 20)).2.2.2.2.2.1) 3 6 (kt_copyFrom_3_12 (F 12 0) (F 12 1) (F 12 2) (F 12 3) (F 12 4) (F 12 5) (F 12 6) (A 4) (A 5) (A 6) (A 7) (A 8) (A 9) (A 10) (A 13) (A 14) (A 15) (A 16) (A 17) (A 18) (A 19) (L 11) (L 20)).2.2.2.2.2.2.1) (uA (uA (uA (uA (uA (uA (uA A 4 (kt_copyFrom_3_12 (F 12 0) (F 12 1) (F 12 2) (F 12 3) (F 12 4) (F 12 5) (F 12 6) (A 4) (A 5) (A 6) (A 7) (A 8) (A 9) (A 10) (A 13) (A 14) (A 15) (A 16) (A 17) (A 18) (A 19) (L 11) (L 20)).2.2.2.2.2.2.2.1) 5 (kt_copyFrom_3_12 (F 12 0) (F 12 1) (F 12 2) (F 12 3) (F 12 4) (F 12 5) (F 12 6) (A 4) (A 5) (A 6) (A 7) (A 8) (A 9) (A 10) (A 13) (A 14) (A 15) (A 16) (A 17) (A 18) (A 19) (L 11) (L 20)).2.2.2.2.2.2.2.2.1) 6 (kt_copyFrom_3_12 (F 12 0) (F 12 1) (F 12 2) (F 12 3) (F 12 4) (F 12 5) (F 12 6) (A 4) (A 5) (A 6) (A 7) (A 8) (A 9) (A 10) (A 13) (A 14) (A 15) (A 16) (A 17) (A 18) (A 19) (L 11) (L 20)).2.2.2.2.2.2.2.2.2.1) 7 (kt_copyFrom_3_12 (F 12 0) (F 12 1) (F 12 2) (F 12 3) (F 12 4) (F 12 5) (F 12 6) (A 4) (A 5) (A 6) (A 7) (A 8) (A 9) (A 10) (A 13) (A 14) (A 15) (A 16) (A 17) (A 18) (A 19) (L 11) (L 20)).2.2.2.2.2.2.2.2.2.2.1) 8 (kt_copyFrom_3_12 (F 12 0) (F 12 1) (F 12 2) (F 12 3) (F 12 4) (F 12 5) (F 12 6) (A 4) (A 5) (A 6) (A 7) (A 8) (A 9) (A 10) (A 13) (A 14) (A 15) (A 16) (A 17) (A 18) (A 19) (L 11) (L 20)).2.2.2.2.2.2.2.2.2.2.2.1) 9 (kt_copyFrom_3_12 (F 12 0) (F 12 1) (F 12 2) (F 12 3) (F 12 4) (F 12 5) (F 12 6) (A 4) (A 5) (A 6) (A 7) (A 8) (A 9) (A 10) (A 13) (A 14) (A 15) (A 16) (A 17) (A 18) (A 19) (L 11) (L 20)).2.2.2.2.2.2.2.2.2.2.2.2.1) 10 (kt_copyFrom_3_12 (F 12 0) (F 12 1) (F 12 2) (F 12 3) (F 12 4) (F 12 5) (F 12 6) (A 4) (A 5) (A 6) (A 7) (A 8) (A 9) (A 10) (A 13) (A 14) (A 15) (A 16) (A 17) (A 18) (A 19) (L 11) (L 20)).2.2.2.2.2.2.2.2.2.2.2.2.2.1) (uL L 11 (kt_copyFrom_3_12 (F 12 0) (F 12 1) (F 12 2) (F 12 3) (F 12 4) (F 12 5) (F 12 6) (A 4) (A 5) (A 6) (A 7) (A 8) (A 9) (A 10) (A 13) (A 14) (A 15) (A 16) (A 17) (A 18) (A 19) (L 11) (L 20)).2.2.2.2.2.2.2.2.2.2.2.2.2.2)) _
    generalize hG40 : (kt_copyFrom_3_12 (F 12 0) (F 12 1) (F 12 2) (F 12 3) (F 12 4) (F 12 5) (F 12 6) (A 4) (A 5) (A 6) (A 7) (A 8) (A 9) (A 10) (A 13) (A 14) (A 15) (A 16) (A 17) (A 18) (A 19) (L 11) (L 20)) = G40 at hE ⊢
    refine w_n 1 (pc1 := 21) (ls1 := [some (.ref 0)]) (st1 := [.int 1]) (hp1 := (hz (uF (uF (uF (uF (uF (uF (uF F 3 0 G40.1) 3 1 G40.2.1) 3 2 G40.2.2.1) 3 3 G40.2.2.2.1) 3 4 G40.2.2.2.2.1) 3 5 G40.2.2.2.2.2.1) 3 6 G40.2.2.2.2.2.2.1) (uA (uA (uA (uA (uA (uA (uA A 4 G40.2.2.2.2.2.2.2.1) 5 G40.2.2.2.2.2.2.2.2.1) 6 G40.2.2.2.2.2.2.2.2.2.1) 7 G40.2.2.2.2.2.2.2.2.2.2.1) 8 G40.2.2.2.2.2.2.2.2.2.2.2.1) 9 G40.2.2.2.2.2.2.2.2.2.2.2.2.1) 10 G40.2.2.2.2.2.2.2.2.2.2.2.2.2.1) (uL L 11 G40.2.2.2.2.2.2.2.2.2.2.2.2.2.2))) rfl ?_
    subst T
    exact w_ri rfl (cvQ rfl rfl rfl K)
  · have h1 : (F 0 11) = 0 := h
    rw [if_pos h1] at hE
    refine w_n 1 (pc1 := 8) (ls1 := [some (.ref 0)]) (st1 := [.int 0]) (hp1 := (hz F A L)) rfl ?_
    subst T
    exact w_ri rfl (cvQ (funext fun q => funext fun z => if k0 : q = 3 ∧ z = 0 then by obtain ⟨w1, w2⟩ := k0; subst w1; subst w2; exact Eq.trans (b := (F 3 0)) rfl rfl else if k1 : q = 3 ∧ z = 1 then by obtain ⟨w1, w2⟩ := k1; subst w1; subst w2; exact Eq.trans (b := (F 3 1)) rfl rfl else if k2 : q = 3 ∧ z = 2 then by obtain ⟨w1, w2⟩ := k2; subst w1; subst w2; exact Eq.trans (b := (F 3 2)) rfl rfl else if k3 : q = 3 ∧ z = 3 then by obtain ⟨w1, w2⟩ := k3; subst w1; subst w2; exact Eq.trans (b := (F 3 3)) rfl rfl else if k4 : q = 3 ∧ z = 4 then by obtain ⟨w1, w2⟩ := k4; subst w1; subst w2; exact Eq.trans (b := (F 3 4)) rfl rfl else if k5 : q = 3 ∧ z = 5 then by obtain ⟨w1, w2⟩ := k5; subst w1; subst w2; exact Eq.trans (b := (F 3 5)) rfl rfl else if k6 : q = 3 ∧ z = 6 then by obtain ⟨w1, w2⟩ := k6; subst w1; subst w2; exact Eq.trans (b := (F 3 6)) rfl rfl else by unfold uF; simp only [nb2 k0, nb2 k1, nb2 k2, nb2 k3, nb2 k4, nb2 k5, nb2 k6, cond_false]) (funext fun q => if k0 : q = 4 then by subst k0; exact Eq.trans (b := (A 4)) rfl rfl else if k1 : q = 5 then by subst k1; exact Eq.trans (b := (A 5)) rfl rfl else if k2 : q = 6 then by subst k2; exact Eq.trans (b := (A 6)) rfl rfl else if k3 : q = 7 then by subst k3; exact Eq.trans (b := (A 7)) rfl rfl else if k4 : q = 8 then by subst k4; exact Eq.trans (b := (A 8)) rfl rfl else if k5 : q = 9 then by subst k5; exact Eq.trans (b := (A 9)) rfl rfl else if k6 : q = 10 then by subst k6; exact Eq.trans (b := (A 10)) rfl rfl else by unfold uA; simp only [nb1 k0, nb1 k1, nb1 k2, nb1 k3, nb1 k4, nb1 k5, nb1 k6, cond_false]) (funext fun q => if k0 : q = 11 then by subst k0; exact Eq.trans (b := (L 11)) rfl rfl else by unfold uL; simp only [nb1 k0, cond_false]) K)
noncomputable def km_copies_70_68_2 (a70 : List Int32)  : Nat → Int32 → List Int32 → List Int32
  | 0, _, a68 => a68
  | m + 1, y2, a68 => (km_copies_70_68_2 a70 m (y2 + 1) (a68.set y2.toInt.toNat (a70.getD y2.toInt.toNat 0)))
theorem t_km_copies_70_68_2 {f : Nat} {Q : Option Value → sm_H → Prop} : ∀ (m : Nat) {B D : Nat} {F : Nat → Nat → Int32} {A : Nat → List Int32} {L : Nat → List Int64} {y2 : Int32}, m = (150 - y2.toInt).toNat → (∀ q2 : Int32, wl_E f B D mm199.2.2.2.2.2.2.2.2 21 [some (.ref 70), some (.ref 68), some (.int q2)] [] (hz F (uA A 68 (km_copies_70_68_2 (A 70) m y2 (A 68))) L) Q) → wl_E f B D mm199.2.2.2.2.2.2.2.2 2 [some (.ref 70), some (.ref 68), some (.int y2)] [] (hz F A L) Q := by
  intro m
  induction m with
  | zero =>
    intro B D F A L y2 hm K
    generalize hT : (km_copies_70_68_2 (A 70) 0 y2 (A 68)) = T at K
    have hE : T = (A 68) := hT.symm
    clear hT
    refine w_n 2 (pc1 := 6) (ls1 := [some (.ref 70), some (.ref 68), some (.int y2)]) (st1 := [.int 150, .int y2]) (hp1 := (hz F A L)) rfl ?_
    refine w_ge (p3 := 9) rfl rfl (fun hb => ?_) (fun h => False.elim (by have h : y2.toInt < 150 := h; omega))
    subst T
    exact cvE rfl (funext fun q => if k0 : q = 68 then by subst k0; exact Eq.trans (b := (A 68)) rfl rfl else by unfold uA; simp only [nb1 k0, cond_false]) rfl (K _)
  | succ m ih =>
    intro B D F A L y2 hm K
    generalize hT : (km_copies_70_68_2 (A 70) (m + 1) y2 (A 68)) = T at K
    have hE : T = (km_copies_70_68_2 (A 70) m (y2 + 1) ((A 68).set y2.toInt.toNat ((A 70).getD y2.toInt.toNat 0))) := hT.symm
    clear hT
    refine w_n 2 (pc1 := 6) (ls1 := [some (.ref 70), some (.ref 68), some (.int y2)]) (st1 := [.int 150, .int y2]) (hp1 := (hz F A L)) rfl ?_
    refine w_ge (p3 := 9) rfl rfl (fun h => False.elim (by have h : 150 ≤ y2.toInt := h; omega)) (fun hb => ?_)
    refine w_n 4 (pc1 := 13) (ls1 := [some (.ref 70), some (.ref 68), some (.int y2)]) (st1 := [.int y2, .ref 70, .int y2, .ref 68]) (hp1 := (hz F A L)) rfl ?_
    refine w_al (k := 70) (l := (A 70)) rfl rfl rfl (fun ab => ?_)
    refine w_as (k := 68) (l := (A 68)) (hp1 := (hz F (uA A 68 ((A 68).set y2.toInt.toNat ((A 70).getD y2.toInt.toNat 0))) L)) rfl rfl rfl (hz_s68 _) (fun ab => ?_)
    refine w_n 2 (pc1 := 2) (ls1 := [some (.ref 70), some (.ref 68), some (.int (y2 + 1))]) (st1 := []) (hp1 := (hz F (uA A 68 ((A 68).set y2.toInt.toNat ((A 70).getD y2.toInt.toNat 0))) L)) rfl ?_
    subst T
    have hb2 := i_up (B := (150 : Int32)) hb
    have hb3 : y2.toInt < 150 := hb
    exact ih (show m = (150 - (y2 + 1).toInt).toNat by rw [hb2]; omega) (fun q2 => cvE rfl (funext fun q => if k0 : q = 68 then by subst k0; exact Eq.trans (b := (km_copies_70_68_2 (A 70) m (y2 + 1) ((A 68).set y2.toInt.toNat ((A 70).getD y2.toInt.toNat 0)))) rfl rfl else by unfold uA; simp only [nb1 k0, cond_false]) rfl (K q2))
noncomputable def km_copies_70_68 (a68 : List Int32) (a70 : List Int32) : List Int32 := (km_copies_70_68_2 a70 150 0 a68)
theorem t_km_copies_70_68 {f D : Nat} {F : Nat → Nat → Int32} {A : Nat → List Int32} {L : Nat → List Int64} {Q : Option Value → sm_H → Prop} (K : Q none (hz F (uA A 68 (km_copies_70_68 (A 68) (A 70))) L)) : wl_M f D 199 [.ref 70, .ref 68] (hz F A L) Q := by
  generalize hT : (km_copies_70_68 (A 68) (A 70)) = T at K
  have hE : T = (km_copies_70_68_2 (A 70) 150 0 (A 68)) := hT.symm
  clear hT
  refine w_m (E := mm199) rfl ?_
  show wl_E f f (D - 1) mm199.2.2.2.2.2.2.2.2 0 [some (.ref 70), some (.ref 68), none] [] (hz F A L) Q
  refine w_n 2 (pc1 := 2) (ls1 := [some (.ref 70), some (.ref 68), some (.int 0)]) (st1 := []) (hp1 := (hz F A L)) rfl ?_
  refine t_km_copies_70_68_2 150 (show (150 : Nat) = (150 - (0 : Int32).toInt).toNat by have e0 : (0 : Int32).toInt = 0 := rfl; first | rfl | omega) ?_
  intro r1
  show wl_E f _ _ mm199.2.2.2.2.2.2.2.2 21 [some (.ref 70), some (.ref 68), some (.int r1)] [] (hz F (uA A 68 (km_copies_70_68_2 (A 70) 150 0 (A 68))) L) _
  generalize hG41 : (km_copies_70_68_2 (A 70) 150 0 (A 68)) = G41 at hE ⊢
  subst T
  exact w_r rfl rfl (cvQ rfl rfl rfl K)
noncomputable def km_undo (f67_6 : Int32) (a68 : List Int32) (a70 : List Int32) : Int32 × List Int32 := (if f67_6 = 0 then (0, a68) else (1, (km_copies_70_68 a68 a70)))
theorem t_km_undo {f D : Nat} {F : Nat → Nat → Int32} {A : Nat → List Int32} {L : Nat → List Int64} {Q : Option Value → sm_H → Prop} (K : Q (some (.int ((km_undo (F 67 6) (A 68) (A 70)).1))) (hz F (uA A 68 ((km_undo (F 67 6) (A 68) (A 70)).2)) L)) : wl_M f D 248 [.ref 67] (hz F A L) Q := by
  generalize hT : (km_undo (F 67 6) (A 68) (A 70)) = T at K
  have hE : T = (if (F 67 6) = 0 then (0, (A 68)) else (1, (km_copies_70_68 (A 68) (A 70)))) := hT.symm
  clear hT
  refine w_m (E := mm248) rfl ?_
  show wl_E f f (D - 1) mm248.2.2.2.2.2.2.2.2 0 [some (.ref 67)] [] (hz F A L) Q
  refine w_n 2 (pc1 := 4) (ls1 := [some (.ref 67)]) (st1 := [.int (F 67 6)]) (hp1 := (hz F A L)) rfl ?_
  refine w_zne (p3 := 7) rfl rfl (fun h => ?_) (fun h => ?_)
  · have h1 : ¬ (F 67 6) = 0 := h
    rw [if_neg h1] at hE
    refine w_n 4 (pc1 := 17) (ls1 := [some (.ref 67)]) (st1 := [.ref 68, .ref 70]) (hp1 := (hz F A L)) rfl ?_
    refine w_c rfl rfl (t_km_copies_70_68 ?_)
    show wl_E f _ _ mm248.2.2.2.2.2.2.2.2 20 [some (.ref 67)] [] (hz F (uA A 68 (km_copies_70_68 (A 68) (A 70))) L) _
    generalize hG42 : (km_copies_70_68 (A 68) (A 70)) = G42 at hE ⊢
    refine w_n 1 (pc1 := 21) (ls1 := [some (.ref 67)]) (st1 := [.int 1]) (hp1 := (hz F (uA A 68 G42) L)) rfl ?_
    subst T
    exact w_ri rfl (cvQ rfl rfl rfl K)
  · have h1 : (F 67 6) = 0 := h
    rw [if_pos h1] at hE
    refine w_n 1 (pc1 := 8) (ls1 := [some (.ref 67)]) (st1 := [.int 0]) (hp1 := (hz F A L)) rfl ?_
    subst T
    exact w_ri rfl (cvQ rfl (funext fun q => if k0 : q = 68 then by subst k0; exact Eq.trans (b := (A 68)) rfl rfl else by unfold uA; simp only [nb1 k0, cond_false]) rfl K)
noncomputable def kx_has (f1_1 : Int32) (x1 : Int32) (x2 : Int32) (x3 : Int32) : Int32 := (if (kc_within x1 x2 x3) = 0 then 0 else (if f1_1.toInt < x1.toInt then 0 else 1))
theorem t_kx_has {f D : Nat} {F : Nat → Nat → Int32} {A : Nat → List Int32} {L : Nat → List Int64} {Q : Option Value → sm_H → Prop} {x1 : Int32} {x2 : Int32} {x3 : Int32} (K : Q (some (.int (kx_has (F 1 1) x1 x2 x3))) (hz F A L)) : wl_M f D 20 [.ref 1, .int x1, .int x2, .int x3] (hz F A L) Q := by
  generalize hT : (kx_has (F 1 1) x1 x2 x3) = T at K
  have hE : T = (if (kc_within x1 x2 x3) = 0 then 0 else (if (F 1 1).toInt < x1.toInt then 0 else 1)) := hT.symm
  clear hT
  refine w_m (E := mm20) rfl ?_
  show wl_E f f (D - 1) mm20.2.2.2.2.2.2.2.2 0 [some (.ref 1), some (.int x1), some (.int x2), some (.int x3)] [] (hz F A L) Q
  refine w_n 3 (pc1 := 3) (ls1 := [some (.ref 1), some (.int x1), some (.int x2), some (.int x3)]) (st1 := [.int x3, .int x2, .int x1]) (hp1 := (hz F A L)) rfl ?_
  refine w_c rfl rfl (t_kc_within ?_)
  show wl_E f _ _ mm20.2.2.2.2.2.2.2.2 6 [some (.ref 1), some (.int x1), some (.int x2), some (.int x3)] [.int (kc_within x1 x2 x3)] (hz F A L) _
  generalize hG43 : (kc_within x1 x2 x3) = G43 at hE ⊢
  refine w_zeq (p3 := 9) rfl rfl (fun h => ?_) (fun h => ?_)
  · have h1 : G43 = 0 := h
    rw [if_pos h1] at hE
    refine w_n 1 (pc1 := 22) (ls1 := [some (.ref 1), some (.int x1), some (.int x2), some (.int x3)]) (st1 := [.int 0]) (hp1 := (hz F A L)) rfl ?_
    subst T
    exact w_ri rfl (cvQ rfl rfl rfl K)
  · have h1 : ¬ G43 = 0 := h
    rw [if_neg h1] at hE
    refine w_n 3 (pc1 := 14) (ls1 := [some (.ref 1), some (.int x1), some (.int x2), some (.int x3)]) (st1 := [.int (F 1 1), .int x1]) (hp1 := (hz F A L)) rfl ?_
    refine w_gt (p3 := 17) rfl rfl (fun h => ?_) (fun h => ?_)
    · have h2 : (F 1 1).toInt < x1.toInt := h
      rw [if_pos h2] at hE
      refine w_n 1 (pc1 := 22) (ls1 := [some (.ref 1), some (.int x1), some (.int x2), some (.int x3)]) (st1 := [.int 0]) (hp1 := (hz F A L)) rfl ?_
      subst T
      exact w_ri rfl (cvQ rfl rfl rfl K)
    · have h2 : x1.toInt ≤ (F 1 1).toInt := h
      rw [if_neg (Int.not_lt.mpr h2)] at hE
      refine w_n 2 (pc1 := 22) (ls1 := [some (.ref 1), some (.int x1), some (.int x2), some (.int x3)]) (st1 := [.int 1]) (hp1 := (hz F A L)) rfl ?_
      subst T
      exact w_ri rfl (cvQ rfl rfl rfl K)
noncomputable def kc_check_27 (f1_1 : Int32) (f3_1 : Int32) (a2 : List Int32) (a8 : List Int32)  : Nat → Int32 → Int32 × Int32
  | 0, _ => ((-1), f1_1)
  | m + 1, y2 => (if (kt_isTold f3_1 y2) = 0 then (if (a2.getD y2.toInt.toNat 0) = 0 then (kc_check_27 f1_1 f3_1 a2 a8 m (y2 + 1)) else (y2, f1_1)) else (if (a2.getD y2.toInt.toNat 0) = (a8.getD y2.toInt.toNat 0) then (kc_check_27 f1_1 f3_1 a2 a8 m (y2 + 1)) else (y2, f1_1)))
theorem t_kc_check_27 {f : Nat} {Q : Option Value → sm_H → Prop} : ∀ (m : Nat) {B D : Nat} {F : Nat → Nat → Int32} {A : Nat → List Int32} {L : Nat → List Int64} {x1 : Int32} {y2 : Int32}, m = (x1.toInt - y2.toInt).toNat → (Q (some (.int ((kc_check_27 (F 1 1) (F 3 1) (A 2) (A 8) m y2).1))) (hz (uF F 1 1 ((kc_check_27 (F 1 1) (F 3 1) (A 2) (A 8) m y2).2)) A L)) → wl_E f B D mm137.2.2.2.2.2.2.2.2 27 [some (.ref 0), some (.int x1), some (.int y2)] [] (hz F A L) Q := by
  intro m
  induction m with
  | zero =>
    intro B D F A L x1 y2 hm K
    generalize hT : (kc_check_27 (F 1 1) (F 3 1) (A 2) (A 8) 0 y2) = T at K
    have hE : T = ((-1), (F 1 1)) := hT.symm
    clear hT
    refine w_n 2 (pc1 := 29) (ls1 := [some (.ref 0), some (.int x1), some (.int y2)]) (st1 := [.int x1, .int y2]) (hp1 := (hz F A L)) rfl ?_
    refine w_ge (p3 := 32) rfl rfl (fun hb => ?_) (fun h => False.elim (by have h : y2.toInt < x1.toInt := h; omega))
    refine w_n 1 (pc1 := 77) (ls1 := [some (.ref 0), some (.int x1), some (.int y2)]) (st1 := [.int (-1)]) (hp1 := (hz F A L)) rfl ?_
    subst T
    exact w_ri rfl (cvQ (funext fun q => funext fun z => if k0 : q = 1 ∧ z = 1 then by obtain ⟨w1, w2⟩ := k0; subst w1; subst w2; exact Eq.trans (b := (F 1 1)) rfl rfl else by unfold uF; simp only [nb2 k0, cond_false]) rfl rfl K)
  | succ m ih =>
    intro B D F A L x1 y2 hm K
    generalize hT : (kc_check_27 (F 1 1) (F 3 1) (A 2) (A 8) (m + 1) y2) = T at K
    have hE : T = (if (kt_isTold (F 3 1) y2) = 0 then (if ((A 2).getD y2.toInt.toNat 0) = 0 then (kc_check_27 (F 1 1) (F 3 1) (A 2) (A 8) m (y2 + 1)) else (y2, (F 1 1))) else (if ((A 2).getD y2.toInt.toNat 0) = ((A 8).getD y2.toInt.toNat 0) then (kc_check_27 (F 1 1) (F 3 1) (A 2) (A 8) m (y2 + 1)) else (y2, (F 1 1)))) := hT.symm
    clear hT
    refine w_n 2 (pc1 := 29) (ls1 := [some (.ref 0), some (.int x1), some (.int y2)]) (st1 := [.int x1, .int y2]) (hp1 := (hz F A L)) rfl ?_
    refine w_ge (p3 := 32) rfl rfl (fun h => False.elim (by have h : x1.toInt ≤ y2.toInt := h; omega)) (fun hb => ?_)
    refine w_n 4 (pc1 := 40) (ls1 := [some (.ref 0), some (.int x1), some (.int y2)]) (st1 := [.int y2, .ref 2]) (hp1 := (hz F A L)) rfl ?_
    refine w_al (k := 2) (l := (A 2)) rfl rfl rfl (fun ab => ?_)
    refine w_n 3 (pc1 := 46) (ls1 := [some (.ref 0), some (.int x1), some (.int y2)]) (st1 := [.int y2, .ref 3, .int ((A 2).getD y2.toInt.toNat 0)]) (hp1 := (hz F A L)) rfl ?_
    refine w_c rfl rfl (t_kt_isTold ?_)
    show wl_E f _ _ mm137.2.2.2.2.2.2.2.2 49 [some (.ref 0), some (.int x1), some (.int y2)] [.int (kt_isTold (F 3 1) y2), .int ((A 2).getD y2.toInt.toNat 0)] (hz F A L) _
    generalize hG45 : (kt_isTold (F 3 1) y2) = G45 at hE ⊢
    refine w_zeq (p3 := 52) rfl rfl (fun h => ?_) (fun h => ?_)
    · have h1 : G45 = 0 := h
      rw [if_pos h1] at hE
      refine w_n 1 (pc1 := 65) (ls1 := [some (.ref 0), some (.int x1), some (.int y2)]) (st1 := [.int 0, .int ((A 2).getD y2.toInt.toNat 0)]) (hp1 := (hz F A L)) rfl ?_
      refine w_eq (p3 := 68) rfl rfl (fun h => ?_) (fun h => ?_)
      · have h2 : ((A 2).getD y2.toInt.toNat 0) = 0 := h
        rw [if_pos h2] at hE
        refine w_n 2 (pc1 := 27) (ls1 := [some (.ref 0), some (.int x1), some (.int (y2 + 1))]) (st1 := []) (hp1 := (hz F A L)) rfl ?_
        subst T
        have hb2 := i_up (B := x1) hb
        have hb3 : y2.toInt < x1.toInt := hb
        exact ih (show m = (x1.toInt - (y2 + 1).toInt).toNat by rw [hb2]; omega) (cvQ (funext fun q => funext fun z => if k0 : q = 1 ∧ z = 1 then by obtain ⟨w1, w2⟩ := k0; subst w1; subst w2; exact Eq.trans (b := (kc_check_27 (F 1 1) (F 3 1) (A 2) (A 8) m (y2 + 1)).2) rfl rfl else by unfold uF; simp only [nb2 k0, cond_false]) rfl rfl K)
      · have h2 : ¬ ((A 2).getD y2.toInt.toNat 0) = 0 := h
        rw [if_neg h2] at hE
        refine w_n 1 (pc1 := 69) (ls1 := [some (.ref 0), some (.int x1), some (.int y2)]) (st1 := [.int y2]) (hp1 := (hz F A L)) rfl ?_
        subst T
        exact w_ri rfl (cvQ (funext fun q => funext fun z => if k0 : q = 1 ∧ z = 1 then by obtain ⟨w1, w2⟩ := k0; subst w1; subst w2; exact Eq.trans (b := (F 1 1)) rfl rfl else by unfold uF; simp only [nb2 k0, cond_false]) rfl rfl K)
    · have h1 : ¬ G45 = 0 := h
      rw [if_neg h1] at hE
      refine w_n 4 (pc1 := 60) (ls1 := [some (.ref 0), some (.int x1), some (.int y2)]) (st1 := [.int y2, .ref 8, .int ((A 2).getD y2.toInt.toNat 0)]) (hp1 := (hz F A L)) rfl ?_
      refine w_al (k := 8) (l := (A 8)) rfl rfl rfl (fun ab => ?_)
      refine w_n 1 (pc1 := 65) (ls1 := [some (.ref 0), some (.int x1), some (.int y2)]) (st1 := [.int ((A 8).getD y2.toInt.toNat 0), .int ((A 2).getD y2.toInt.toNat 0)]) (hp1 := (hz F A L)) rfl ?_
      refine w_eq (p3 := 68) rfl rfl (fun h => ?_) (fun h => ?_)
      · have h3 : ((A 2).getD y2.toInt.toNat 0) = ((A 8).getD y2.toInt.toNat 0) := h
        rw [if_pos h3] at hE
        refine w_n 2 (pc1 := 27) (ls1 := [some (.ref 0), some (.int x1), some (.int (y2 + 1))]) (st1 := []) (hp1 := (hz F A L)) rfl ?_
        subst T
        have hb2 := i_up (B := x1) hb
        have hb3 : y2.toInt < x1.toInt := hb
        exact ih (show m = (x1.toInt - (y2 + 1).toInt).toNat by rw [hb2]; omega) (cvQ (funext fun q => funext fun z => if k0 : q = 1 ∧ z = 1 then by obtain ⟨w1, w2⟩ := k0; subst w1; subst w2; exact Eq.trans (b := (kc_check_27 (F 1 1) (F 3 1) (A 2) (A 8) m (y2 + 1)).2) rfl rfl else by unfold uF; simp only [nb2 k0, cond_false]) rfl rfl K)
      · have h3 : ¬ ((A 2).getD y2.toInt.toNat 0) = ((A 8).getD y2.toInt.toNat 0) := h
        rw [if_neg h3] at hE
        refine w_n 1 (pc1 := 69) (ls1 := [some (.ref 0), some (.int x1), some (.int y2)]) (st1 := [.int y2]) (hp1 := (hz F A L)) rfl ?_
        subst T
        exact w_ri rfl (cvQ (funext fun q => funext fun z => if k0 : q = 1 ∧ z = 1 then by obtain ⟨w1, w2⟩ := k0; subst w1; subst w2; exact Eq.trans (b := (F 1 1)) rfl rfl else by unfold uF; simp only [nb2 k0, cond_false]) rfl rfl K)
noncomputable def kc_check (f1_1 : Int32) (f3_1 : Int32) (a2 : List Int32) (a8 : List Int32) (x1 : Int32) : Int32 × Int32 := (if (kx_has f1_1 x1 0 12) = 0 then ((-2), f1_1) else (kc_check_27 0 f3_1 a2 a8 x1.toInt.toNat 0))
theorem t_kc_check {f D : Nat} {F : Nat → Nat → Int32} {A : Nat → List Int32} {L : Nat → List Int64} {Q : Option Value → sm_H → Prop} {x1 : Int32} (K : Q (some (.int ((kc_check (F 1 1) (F 3 1) (A 2) (A 8) x1).1))) (hz (uF F 1 1 ((kc_check (F 1 1) (F 3 1) (A 2) (A 8) x1).2)) A L)) : wl_M f D 137 [.ref 0, .int x1] (hz F A L) Q := by
  generalize hT : (kc_check (F 1 1) (F 3 1) (A 2) (A 8) x1) = T at K
  have hE : T = (if (kx_has (F 1 1) x1 0 12) = 0 then ((-2), (F 1 1)) else (kc_check_27 0 (F 3 1) (A 2) (A 8) x1.toInt.toNat 0)) := hT.symm
  clear hT
  refine w_m (E := mm137) rfl ?_
  show wl_E f f (D - 1) mm137.2.2.2.2.2.2.2.2 0 [some (.ref 0), some (.int x1), none] [] (hz F A L) Q
  refine w_n 5 (pc1 := 8) (ls1 := [some (.ref 0), some (.int x1), none]) (st1 := [.int 12, .int 0, .int x1, .ref 1]) (hp1 := (hz F A L)) rfl ?_
  refine w_c rfl rfl (t_kx_has ?_)
  show wl_E f _ _ mm137.2.2.2.2.2.2.2.2 11 [some (.ref 0), some (.int x1), none] [.int (kx_has (F 1 1) x1 0 12)] (hz F A L) _
  generalize hG44 : (kx_has (F 1 1) x1 0 12) = G44 at hE ⊢
  refine w_zne (p3 := 14) rfl rfl (fun h => ?_) (fun h => ?_)
  · have h1 : ¬ G44 = 0 := h
    rw [if_neg h1] at hE
    refine w_n 3 (pc1 := 22) (ls1 := [some (.ref 0), some (.int x1), none]) (st1 := [.int 0, .ref 1]) (hp1 := (hz F A L)) rfl ?_
    refine w_pf (k := 1) (fs := hz_f1 F) (hp1 := (hz (uF F 1 1 0) A L)) rfl rfl rfl (hz_p1_1 _) ?_
    refine w_n 2 (pc1 := 27) (ls1 := [some (.ref 0), some (.int x1), some (.int 0)]) (st1 := []) (hp1 := (hz (uF F 1 1 0) A L)) rfl ?_
    subst T
    exact t_kc_check_27 _ (show x1.toInt.toNat = (x1.toInt - (0 : Int32).toInt).toNat by have e0 : (0 : Int32).toInt = 0 := rfl; first | rfl | omega) (cvQ (funext fun q => funext fun z => if k0 : q = 1 ∧ z = 1 then by obtain ⟨w1, w2⟩ := k0; subst w1; subst w2; exact Eq.trans (b := (kc_check_27 0 (F 3 1) (A 2) (A 8) x1.toInt.toNat 0).2) rfl rfl else by unfold uF; simp only [nb2 k0, cond_false]) rfl rfl K)
  · have h1 : G44 = 0 := h
    rw [if_pos h1] at hE
    refine w_n 1 (pc1 := 16) (ls1 := [some (.ref 0), some (.int x1), none]) (st1 := [.int (-2)]) (hp1 := (hz F A L)) rfl ?_
    subst T
    exact w_ri rfl (cvQ (funext fun q => funext fun z => if k0 : q = 1 ∧ z = 1 then by obtain ⟨w1, w2⟩ := k0; subst w1; subst w2; exact Eq.trans (b := (F 1 1)) rfl rfl else by unfold uF; simp only [nb2 k0, cond_false]) rfl rfl K)
noncomputable def km_check_28 (f67_8 : Int32) (a68 : List Int32) (a71 : List Int32)  : Nat → Int32 → Int32 × Int32
  | 0, _ => ((-1), f67_8)
  | m + 1, y2 => (if (km_isGuest a68 y2) = 0 then (if ((a71.getD y2.toInt.toNat 0) &&& 255) = 0 then (km_check_28 f67_8 a68 a71 m (y2 + 1)) else (y2, f67_8)) else (if ((a71.getD y2.toInt.toNat 0) &&& 255) = (a68.getD (36 + y2).toInt.toNat 0) then (km_check_28 f67_8 a68 a71 m (y2 + 1)) else (y2, f67_8)))
theorem t_km_check_28 {f : Nat} {Q : Option Value → sm_H → Prop} : ∀ (m : Nat) {B D : Nat} {F : Nat → Nat → Int32} {A : Nat → List Int32} {L : Nat → List Int64} {x1 : Int32} {y2 : Int32}, m = (x1.toInt - y2.toInt).toNat → (Q (some (.int ((km_check_28 (F 67 8) (A 68) (A 71) m y2).1))) (hz (uF F 67 8 ((km_check_28 (F 67 8) (A 68) (A 71) m y2).2)) A L)) → wl_E f B D mm249.2.2.2.2.2.2.2.2 28 [some (.ref 67), some (.int x1), some (.int y2)] [] (hz F A L) Q := by
  intro m
  induction m with
  | zero =>
    intro B D F A L x1 y2 hm K
    generalize hT : (km_check_28 (F 67 8) (A 68) (A 71) 0 y2) = T at K
    have hE : T = ((-1), (F 67 8)) := hT.symm
    clear hT
    refine w_n 2 (pc1 := 30) (ls1 := [some (.ref 67), some (.int x1), some (.int y2)]) (st1 := [.int x1, .int y2]) (hp1 := (hz F A L)) rfl ?_
    refine w_ge (p3 := 33) rfl rfl (fun hb => ?_) (fun h => False.elim (by have h : y2.toInt < x1.toInt := h; omega))
    refine w_n 1 (pc1 := 76) (ls1 := [some (.ref 67), some (.int x1), some (.int y2)]) (st1 := [.int (-1)]) (hp1 := (hz F A L)) rfl ?_
    subst T
    exact w_ri rfl (cvQ (funext fun q => funext fun z => if k0 : q = 67 ∧ z = 8 then by obtain ⟨w1, w2⟩ := k0; subst w1; subst w2; exact Eq.trans (b := (F 67 8)) rfl rfl else by unfold uF; simp only [nb2 k0, cond_false]) rfl rfl K)
  | succ m ih =>
    intro B D F A L x1 y2 hm K
    generalize hT : (km_check_28 (F 67 8) (A 68) (A 71) (m + 1) y2) = T at K
    have hE : T = (if (km_isGuest (A 68) y2) = 0 then (if (((A 71).getD y2.toInt.toNat 0) &&& 255) = 0 then (km_check_28 (F 67 8) (A 68) (A 71) m (y2 + 1)) else (y2, (F 67 8))) else (if (((A 71).getD y2.toInt.toNat 0) &&& 255) = ((A 68).getD (36 + y2).toInt.toNat 0) then (km_check_28 (F 67 8) (A 68) (A 71) m (y2 + 1)) else (y2, (F 67 8)))) := hT.symm
    clear hT
    refine w_n 2 (pc1 := 30) (ls1 := [some (.ref 67), some (.int x1), some (.int y2)]) (st1 := [.int x1, .int y2]) (hp1 := (hz F A L)) rfl ?_
    refine w_ge (p3 := 33) rfl rfl (fun h => False.elim (by have h : x1.toInt ≤ y2.toInt := h; omega)) (fun hb => ?_)
    refine w_n 3 (pc1 := 38) (ls1 := [some (.ref 67), some (.int x1), some (.int y2)]) (st1 := [.int y2, .ref 71]) (hp1 := (hz F A L)) rfl ?_
    refine w_bl (k := 71) (l := (A 71)) rfl rfl rfl (fun ab => ?_)
    refine w_n 4 (pc1 := 45) (ls1 := [some (.ref 67), some (.int x1), some (.int y2)]) (st1 := [.int y2, .ref 67, .int (((A 71).getD y2.toInt.toNat 0) &&& 255)]) (hp1 := (hz F A L)) rfl ?_
    refine w_c rfl rfl (t_km_isGuest ?_)
    show wl_E f _ _ mm249.2.2.2.2.2.2.2.2 48 [some (.ref 67), some (.int x1), some (.int y2)] [.int (km_isGuest (A 68) y2), .int (((A 71).getD y2.toInt.toNat 0) &&& 255)] (hz F A L) _
    generalize hG47 : (km_isGuest (A 68) y2) = G47 at hE ⊢
    refine w_zeq (p3 := 51) rfl rfl (fun h => ?_) (fun h => ?_)
    · have h1 : G47 = 0 := h
      rw [if_pos h1] at hE
      refine w_n 1 (pc1 := 64) (ls1 := [some (.ref 67), some (.int x1), some (.int y2)]) (st1 := [.int 0, .int (((A 71).getD y2.toInt.toNat 0) &&& 255)]) (hp1 := (hz F A L)) rfl ?_
      refine w_eq (p3 := 67) rfl rfl (fun h => ?_) (fun h => ?_)
      · have h2 : (((A 71).getD y2.toInt.toNat 0) &&& 255) = 0 := h
        rw [if_pos h2] at hE
        refine w_n 2 (pc1 := 28) (ls1 := [some (.ref 67), some (.int x1), some (.int (y2 + 1))]) (st1 := []) (hp1 := (hz F A L)) rfl ?_
        subst T
        have hb2 := i_up (B := x1) hb
        have hb3 : y2.toInt < x1.toInt := hb
        exact ih (show m = (x1.toInt - (y2 + 1).toInt).toNat by rw [hb2]; omega) (cvQ (funext fun q => funext fun z => if k0 : q = 67 ∧ z = 8 then by obtain ⟨w1, w2⟩ := k0; subst w1; subst w2; exact Eq.trans (b := (km_check_28 (F 67 8) (A 68) (A 71) m (y2 + 1)).2) rfl rfl else by unfold uF; simp only [nb2 k0, cond_false]) rfl rfl K)
      · have h2 : ¬ (((A 71).getD y2.toInt.toNat 0) &&& 255) = 0 := h
        rw [if_neg h2] at hE
        refine w_n 1 (pc1 := 68) (ls1 := [some (.ref 67), some (.int x1), some (.int y2)]) (st1 := [.int y2]) (hp1 := (hz F A L)) rfl ?_
        subst T
        exact w_ri rfl (cvQ (funext fun q => funext fun z => if k0 : q = 67 ∧ z = 8 then by obtain ⟨w1, w2⟩ := k0; subst w1; subst w2; exact Eq.trans (b := (F 67 8)) rfl rfl else by unfold uF; simp only [nb2 k0, cond_false]) rfl rfl K)
    · have h1 : ¬ G47 = 0 := h
      rw [if_neg h1] at hE
      refine w_n 5 (pc1 := 59) (ls1 := [some (.ref 67), some (.int x1), some (.int y2)]) (st1 := [.int (36 + y2), .ref 68, .int (((A 71).getD y2.toInt.toNat 0) &&& 255)]) (hp1 := (hz F A L)) rfl ?_
      refine w_al (k := 68) (l := (A 68)) rfl rfl rfl (fun _ => ?_)
      refine w_n 1 (pc1 := 64) (ls1 := [some (.ref 67), some (.int x1), some (.int y2)]) (st1 := [.int ((A 68).getD (36 + y2).toInt.toNat 0), .int (((A 71).getD y2.toInt.toNat 0) &&& 255)]) (hp1 := (hz F A L)) rfl ?_
      refine w_eq (p3 := 67) rfl rfl (fun h => ?_) (fun h => ?_)
      · have h3 : (((A 71).getD y2.toInt.toNat 0) &&& 255) = ((A 68).getD (36 + y2).toInt.toNat 0) := h
        rw [if_pos h3] at hE
        refine w_n 2 (pc1 := 28) (ls1 := [some (.ref 67), some (.int x1), some (.int (y2 + 1))]) (st1 := []) (hp1 := (hz F A L)) rfl ?_
        subst T
        have hb2 := i_up (B := x1) hb
        have hb3 : y2.toInt < x1.toInt := hb
        exact ih (show m = (x1.toInt - (y2 + 1).toInt).toNat by rw [hb2]; omega) (cvQ (funext fun q => funext fun z => if k0 : q = 67 ∧ z = 8 then by obtain ⟨w1, w2⟩ := k0; subst w1; subst w2; exact Eq.trans (b := (km_check_28 (F 67 8) (A 68) (A 71) m (y2 + 1)).2) rfl rfl else by unfold uF; simp only [nb2 k0, cond_false]) rfl rfl K)
      · have h3 : ¬ (((A 71).getD y2.toInt.toNat 0) &&& 255) = ((A 68).getD (36 + y2).toInt.toNat 0) := h
        rw [if_neg h3] at hE
        refine w_n 1 (pc1 := 68) (ls1 := [some (.ref 67), some (.int x1), some (.int y2)]) (st1 := [.int y2]) (hp1 := (hz F A L)) rfl ?_
        subst T
        exact w_ri rfl (cvQ (funext fun q => funext fun z => if k0 : q = 67 ∧ z = 8 then by obtain ⟨w1, w2⟩ := k0; subst w1; subst w2; exact Eq.trans (b := (F 67 8)) rfl rfl else by unfold uF; simp only [nb2 k0, cond_false]) rfl rfl K)
noncomputable def km_check (f67_8 : Int32) (a68 : List Int32) (a71 : List Int32) (x1 : Int32) : Int32 × Int32 := (if (km_in x1 0 12) = 0 then ((-2), f67_8) else (if f67_8.toInt < x1.toInt then ((-2), f67_8) else (km_check_28 0 a68 a71 x1.toInt.toNat 0)))
theorem t_km_check {f D : Nat} {F : Nat → Nat → Int32} {A : Nat → List Int32} {L : Nat → List Int64} {Q : Option Value → sm_H → Prop} {x1 : Int32} (K : Q (some (.int ((km_check (F 67 8) (A 68) (A 71) x1).1))) (hz (uF F 67 8 ((km_check (F 67 8) (A 68) (A 71) x1).2)) A L)) : wl_M f D 249 [.ref 67, .int x1] (hz F A L) Q := by
  generalize hT : (km_check (F 67 8) (A 68) (A 71) x1) = T at K
  have hE : T = (if (km_in x1 0 12) = 0 then ((-2), (F 67 8)) else (if (F 67 8).toInt < x1.toInt then ((-2), (F 67 8)) else (km_check_28 0 (A 68) (A 71) x1.toInt.toNat 0))) := hT.symm
  clear hT
  refine w_m (E := mm249) rfl ?_
  show wl_E f f (D - 1) mm249.2.2.2.2.2.2.2.2 0 [some (.ref 67), some (.int x1), none] [] (hz F A L) Q
  refine w_n 3 (pc1 := 4) (ls1 := [some (.ref 67), some (.int x1), none]) (st1 := [.int 12, .int 0, .int x1]) (hp1 := (hz F A L)) rfl ?_
  refine w_c rfl rfl (t_km_in ?_)
  show wl_E f _ _ mm249.2.2.2.2.2.2.2.2 7 [some (.ref 67), some (.int x1), none] [.int (km_in x1 0 12)] (hz F A L) _
  generalize hG46 : (km_in x1 0 12) = G46 at hE ⊢
  refine w_zeq (p3 := 10) rfl rfl (fun h => ?_) (fun h => ?_)
  · have h1 : G46 = 0 := h
    rw [if_pos h1] at hE
    refine w_n 1 (pc1 := 20) (ls1 := [some (.ref 67), some (.int x1), none]) (st1 := [.int (-2)]) (hp1 := (hz F A L)) rfl ?_
    subst T
    exact w_ri rfl (cvQ (funext fun q => funext fun z => if k0 : q = 67 ∧ z = 8 then by obtain ⟨w1, w2⟩ := k0; subst w1; subst w2; exact Eq.trans (b := (F 67 8)) rfl rfl else by unfold uF; simp only [nb2 k0, cond_false]) rfl rfl K)
  · have h1 : ¬ G46 = 0 := h
    rw [if_neg h1] at hE
    refine w_n 3 (pc1 := 15) (ls1 := [some (.ref 67), some (.int x1), none]) (st1 := [.int (F 67 8), .int x1]) (hp1 := (hz F A L)) rfl ?_
    refine w_le (p3 := 18) rfl rfl (fun h => ?_) (fun h => ?_)
    · have h2 : x1.toInt ≤ (F 67 8).toInt := h
      rw [if_neg (Int.not_lt.mpr h2)] at hE
      refine w_n 2 (pc1 := 23) (ls1 := [some (.ref 67), some (.int x1), none]) (st1 := [.int 0, .ref 67]) (hp1 := (hz F A L)) rfl ?_
      refine w_pf (k := 67) (fs := hz_f67 F) (hp1 := (hz (uF F 67 8 0) A L)) rfl rfl rfl (hz_p67_8 _) ?_
      refine w_n 2 (pc1 := 28) (ls1 := [some (.ref 67), some (.int x1), some (.int 0)]) (st1 := []) (hp1 := (hz (uF F 67 8 0) A L)) rfl ?_
      subst T
      exact t_km_check_28 _ (show x1.toInt.toNat = (x1.toInt - (0 : Int32).toInt).toNat by have e0 : (0 : Int32).toInt = 0 := rfl; first | rfl | omega) (cvQ (funext fun q => funext fun z => if k0 : q = 67 ∧ z = 8 then by obtain ⟨w1, w2⟩ := k0; subst w1; subst w2; exact Eq.trans (b := (km_check_28 0 (A 68) (A 71) x1.toInt.toNat 0).2) rfl rfl else by unfold uF; simp only [nb2 k0, cond_false]) rfl rfl K)
    · have h2 : (F 67 8).toInt < x1.toInt := h
      rw [if_pos h2] at hE
      refine w_n 1 (pc1 := 20) (ls1 := [some (.ref 67), some (.int x1), none]) (st1 := [.int (-2)]) (hp1 := (hz F A L)) rfl ?_
      subst T
      exact w_ri rfl (cvQ (funext fun q => funext fun z => if k0 : q = 67 ∧ z = 8 then by obtain ⟨w1, w2⟩ := k0; subst w1; subst w2; exact Eq.trans (b := (F 67 8)) rfl rfl else by unfold uF; simp only [nb2 k0, cond_false]) rfl rfl K)
noncomputable def kx_open (x1 : Int32) : Int32 × Int32 × Int32 := (x1, 0, 0)
theorem t_kx_open {f D : Nat} {F : Nat → Nat → Int32} {A : Nat → List Int32} {L : Nat → List Int64} {Q : Option Value → sm_H → Prop} {x1 : Int32} (K : Q none (hz (uF (uF (uF F 1 2 ((kx_open x1).1)) 1 3 ((kx_open x1).2.1)) 1 4 ((kx_open x1).2.2)) A L)) : wl_M f D 21 [.ref 1, .int x1] (hz F A L) Q := by
  generalize hT : (kx_open x1) = T at K
  have hE : T = (x1, 0, 0) := hT.symm
  clear hT
  refine w_m (E := mm21) rfl ?_
  show wl_E f f (D - 1) mm21.2.2.2.2.2.2.2.2 0 [some (.ref 1), some (.int x1)] [] (hz F A L) Q
  refine w_n 2 (pc1 := 2) (ls1 := [some (.ref 1), some (.int x1)]) (st1 := [.int x1, .ref 1]) (hp1 := (hz F A L)) rfl ?_
  refine w_pf (k := 1) (fs := hz_f1 F) (hp1 := (hz (uF F 1 2 x1) A L)) rfl rfl rfl (hz_p1_2 _) ?_
  refine w_n 2 (pc1 := 7) (ls1 := [some (.ref 1), some (.int x1)]) (st1 := [.int 0, .ref 1]) (hp1 := (hz (uF F 1 2 x1) A L)) rfl ?_
  refine w_pf (k := 1) (fs := hz_f1 (uF F 1 2 x1)) (hp1 := (hz (uF (uF F 1 2 x1) 1 3 0) A L)) rfl rfl rfl (hz_p1_3 _) ?_
  refine w_n 2 (pc1 := 12) (ls1 := [some (.ref 1), some (.int x1)]) (st1 := [.int 0, .ref 1]) (hp1 := (hz (uF (uF F 1 2 x1) 1 3 0) A L)) rfl ?_
  refine w_pf (k := 1) (fs := hz_f1 (uF (uF F 1 2 x1) 1 3 0)) (hp1 := (hz (uF (uF (uF F 1 2 x1) 1 3 0) 1 4 0) A L)) rfl rfl rfl (hz_p1_4 _) ?_
  subst T
  exact w_r rfl rfl (cvQ rfl rfl rfl K)
noncomputable def kx_sign (f1_2 : Int32) (f1_3 : Int32) (a2 : List Int32) : Int32 := (if f1_3.toInt < 0 then (-1) else (if f1_3.toInt < f1_2.toInt then (if f1_3.toInt < (Int32.ofNat a2.length).toInt then (a2.getD f1_3.toInt.toNat 0) else (-1)) else (-1)))
theorem t_kx_sign {f D : Nat} {F : Nat → Nat → Int32} {A : Nat → List Int32} {L : Nat → List Int64} {Q : Option Value → sm_H → Prop} (K : Q (some (.int (kx_sign (F 1 2) (F 1 3) (A 2)))) (hz F A L)) : wl_M f D 24 [.ref 1] (hz F A L) Q := by
  generalize hT : (kx_sign (F 1 2) (F 1 3) (A 2)) = T at K
  have hE : T = (if (F 1 3).toInt < 0 then (-1) else (if (F 1 3).toInt < (F 1 2).toInt then (if (F 1 3).toInt < (Int32.ofNat (A 2).length).toInt then ((A 2).getD (F 1 3).toInt.toNat 0) else (-1)) else (-1))) := hT.symm
  clear hT
  refine w_m (E := mm24) rfl ?_
  show wl_E f f (D - 1) mm24.2.2.2.2.2.2.2.2 0 [some (.ref 1)] [] (hz F A L) Q
  refine w_n 2 (pc1 := 4) (ls1 := [some (.ref 1)]) (st1 := [.int (F 1 3)]) (hp1 := (hz F A L)) rfl ?_
  refine w_zlt (p3 := 7) rfl rfl (fun h => ?_) (fun h => ?_)
  · have h1 : (F 1 3).toInt < 0 := h
    rw [if_pos h1] at hE
    refine w_n 1 (pc1 := 43) (ls1 := [some (.ref 1)]) (st1 := [.int (-1)]) (hp1 := (hz F A L)) rfl ?_
    subst T
    exact w_ri rfl (cvQ rfl rfl rfl K)
  · have h1 : 0 ≤ (F 1 3).toInt := h
    rw [if_neg (Int.not_lt.mpr h1)] at hE
    refine w_n 4 (pc1 := 15) (ls1 := [some (.ref 1)]) (st1 := [.int (F 1 2), .int (F 1 3)]) (hp1 := (hz F A L)) rfl ?_
    refine w_ge (p3 := 18) rfl rfl (fun h => ?_) (fun h => ?_)
    · have h2 : (F 1 2).toInt ≤ (F 1 3).toInt := h
      rw [if_neg (Int.not_lt.mpr h2)] at hE
      refine w_n 1 (pc1 := 43) (ls1 := [some (.ref 1)]) (st1 := [.int (-1)]) (hp1 := (hz F A L)) rfl ?_
      subst T
      exact w_ri rfl (cvQ rfl rfl rfl K)
    · have h2 : (F 1 3).toInt < (F 1 2).toInt := h
      rw [if_pos h2] at hE
      refine w_n 5 (pc1 := 27) (ls1 := [some (.ref 1)]) (st1 := [.int (Int32.ofNat (A 2).length), .int (F 1 3)]) (hp1 := (hz F A L)) rfl ?_
      refine w_ge (p3 := 30) rfl rfl (fun h => ?_) (fun h => ?_)
      · have h3 : (Int32.ofNat (A 2).length).toInt ≤ (F 1 3).toInt := h
        rw [if_neg (Int.not_lt.mpr h3)] at hE
        refine w_n 1 (pc1 := 43) (ls1 := [some (.ref 1)]) (st1 := [.int (-1)]) (hp1 := (hz F A L)) rfl ?_
        subst T
        exact w_ri rfl (cvQ rfl rfl rfl K)
      · have h3 : (F 1 3).toInt < (Int32.ofNat (A 2).length).toInt := h
        rw [if_pos h3] at hE
        refine w_n 4 (pc1 := 38) (ls1 := [some (.ref 1)]) (st1 := [.int (F 1 3), .ref 2]) (hp1 := (hz F A L)) rfl ?_
        refine w_al (k := 2) (l := (A 2)) rfl rfl rfl (fun _ => ?_)
        refine w_n 1 (pc1 := 43) (ls1 := [some (.ref 1)]) (st1 := [.int ((A 2).getD (F 1 3).toInt.toNat 0)]) (hp1 := (hz F A L)) rfl ?_
        subst T
        exact w_ri rfl (cvQ rfl rfl rfl K)
noncomputable def kx_fail (f1_3 : Int32) (f1_4 : Int32) (x1 : Int32) : Int32 × Int32 := (if f1_4 = 0 then ((-1), (((-1000) * x1) - f1_3)) else ((-1), f1_4))
theorem t_kx_fail {f D : Nat} {F : Nat → Nat → Int32} {A : Nat → List Int32} {L : Nat → List Int64} {Q : Option Value → sm_H → Prop} {x1 : Int32} (K : Q (some (.int ((kx_fail (F 1 3) (F 1 4) x1).1))) (hz (uF F 1 4 ((kx_fail (F 1 3) (F 1 4) x1).2)) A L)) : wl_M f D 25 [.ref 1, .int x1] (hz F A L) Q := by
  generalize hT : (kx_fail (F 1 3) (F 1 4) x1) = T at K
  have hE : T = (if (F 1 4) = 0 then ((-1), (((-1000) * x1) - (F 1 3))) else ((-1), (F 1 4))) := hT.symm
  clear hT
  refine w_m (E := mm25) rfl ?_
  show wl_E f f (D - 1) mm25.2.2.2.2.2.2.2.2 0 [some (.ref 1), some (.int x1)] [] (hz F A L) Q
  refine w_n 2 (pc1 := 4) (ls1 := [some (.ref 1), some (.int x1)]) (st1 := [.int (F 1 4)]) (hp1 := (hz F A L)) rfl ?_
  refine w_zne (p3 := 7) rfl rfl (fun h => ?_) (fun h => ?_)
  · have h1 : ¬ (F 1 4) = 0 := h
    rw [if_neg h1] at hE
    refine w_n 1 (pc1 := 22) (ls1 := [some (.ref 1), some (.int x1)]) (st1 := [.int (-1)]) (hp1 := (hz F A L)) rfl ?_
    subst T
    exact w_ri rfl (cvQ (funext fun q => funext fun z => if k0 : q = 1 ∧ z = 4 then by obtain ⟨w1, w2⟩ := k0; subst w1; subst w2; exact Eq.trans (b := (F 1 4)) rfl rfl else by unfold uF; simp only [nb2 k0, cond_false]) rfl rfl K)
  · have h1 : (F 1 4) = 0 := h
    rw [if_pos h1] at hE
    refine w_n 7 (pc1 := 18) (ls1 := [some (.ref 1), some (.int x1)]) (st1 := [.int (((-1000) * x1) - (F 1 3)), .ref 1]) (hp1 := (hz F A L)) rfl ?_
    refine w_pf (k := 1) (fs := hz_f1 F) (hp1 := (hz (uF F 1 4 (((-1000) * x1) - (F 1 3))) A L)) rfl rfl rfl (hz_p1_4 _) ?_
    refine w_n 1 (pc1 := 22) (ls1 := [some (.ref 1), some (.int x1)]) (st1 := [.int (-1)]) (hp1 := (hz (uF F 1 4 (((-1000) * x1) - (F 1 3))) A L)) rfl ?_
    subst T
    exact w_ri rfl (cvQ rfl rfl rfl K)
noncomputable def kt_isMeasure (f3_0 : Int32) (x1 : Int32) : Int32 := (if x1.toInt < 0 then 0 else (if x1.toInt < f3_0.toInt then 1 else 0))
theorem t_kt_isMeasure {f D : Nat} {F : Nat → Nat → Int32} {A : Nat → List Int32} {L : Nat → List Int64} {Q : Option Value → sm_H → Prop} {x1 : Int32} (K : Q (some (.int (kt_isMeasure (F 3 0) x1))) (hz F A L)) : wl_M f D 44 [.ref 3, .int x1] (hz F A L) Q := by
  generalize hT : (kt_isMeasure (F 3 0) x1) = T at K
  have hE : T = (if x1.toInt < 0 then 0 else (if x1.toInt < (F 3 0).toInt then 1 else 0)) := hT.symm
  clear hT
  refine w_m (E := mm44) rfl ?_
  show wl_E f f (D - 1) mm44.2.2.2.2.2.2.2.2 0 [some (.ref 3), some (.int x1)] [] (hz F A L) Q
  refine w_n 1 (pc1 := 1) (ls1 := [some (.ref 3), some (.int x1)]) (st1 := [.int x1]) (hp1 := (hz F A L)) rfl ?_
  refine w_zlt (p3 := 4) rfl rfl (fun h => ?_) (fun h => ?_)
  · have h1 : x1.toInt < 0 := h
    rw [if_pos h1] at hE
    refine w_n 1 (pc1 := 17) (ls1 := [some (.ref 3), some (.int x1)]) (st1 := [.int 0]) (hp1 := (hz F A L)) rfl ?_
    subst T
    exact w_ri rfl (cvQ rfl rfl rfl K)
  · have h1 : 0 ≤ x1.toInt := h
    rw [if_neg (Int.not_lt.mpr h1)] at hE
    refine w_n 3 (pc1 := 9) (ls1 := [some (.ref 3), some (.int x1)]) (st1 := [.int (F 3 0), .int x1]) (hp1 := (hz F A L)) rfl ?_
    refine w_ge (p3 := 12) rfl rfl (fun h => ?_) (fun h => ?_)
    · have h2 : (F 3 0).toInt ≤ x1.toInt := h
      rw [if_neg (Int.not_lt.mpr h2)] at hE
      refine w_n 1 (pc1 := 17) (ls1 := [some (.ref 3), some (.int x1)]) (st1 := [.int 0]) (hp1 := (hz F A L)) rfl ?_
      subst T
      exact w_ri rfl (cvQ rfl rfl rfl K)
    · have h2 : x1.toInt < (F 3 0).toInt := h
      rw [if_pos h2] at hE
      refine w_n 2 (pc1 := 17) (ls1 := [some (.ref 3), some (.int x1)]) (st1 := [.int 1]) (hp1 := (hz F A L)) rfl ?_
      subst T
      exact w_ri rfl (cvQ rfl rfl rfl K)
noncomputable def kc_readRanking_10 (f1_2 : Int32) (f1_4 : Int32) (f3_0 : Int32) (a2 : List Int32)  : Nat → Int64 → Int32 → Int32 → Int32 → Int32 → Int64 × Int32 × Int32
  | 0, y1, _, _, _, f1_3 => (if (kx_sign f1_2 f1_3 a2) = (-1) then (y1, f1_3, f1_4) else ((kx_fail f1_3 f1_4 1).1.toInt64, f1_3, (kx_fail f1_3 f1_4 1).2))
  | m + 1, y1, y3, y4, y5, f1_3 => (if 0 < y5.toInt then (if (kx_sign f1_2 f1_3 a2) = 62 then (if (kt_isMeasure f3_0 ((kx_sign f1_2 (f1_3 + 1) a2) - 97)) = 0 then ((kx_fail (f1_3 + 1) f1_4 1).1.toInt64, (f1_3 + 1), (kx_fail (f1_3 + 1) f1_4 1).2) else (if ((y3 >>> (((kx_sign f1_2 (f1_3 + 1) a2) - 97) &&& 31)) &&& 1) = 0 then (kc_readRanking_10 f1_2 f1_4 f3_0 a2 m (y1 ||| (y3.toInt64 <<< ((((kx_sign f1_2 (f1_3 + 1) a2) - 97) * 6).toInt64 &&& 63))) (y3 ||| ((1 : Int32) <<< (((kx_sign f1_2 (f1_3 + 1) a2) - 97) &&& 31))) y3 (y5 + 1) ((f1_3 + 1) + 1)) else ((kx_fail (f1_3 + 1) f1_4 6).1.toInt64, (f1_3 + 1), (kx_fail (f1_3 + 1) f1_4 6).2))) else (if (kx_sign f1_2 f1_3 a2) = 61 then (if (kt_isMeasure f3_0 ((kx_sign f1_2 (f1_3 + 1) a2) - 97)) = 0 then ((kx_fail (f1_3 + 1) f1_4 1).1.toInt64, (f1_3 + 1), (kx_fail (f1_3 + 1) f1_4 1).2) else (if ((y3 >>> (((kx_sign f1_2 (f1_3 + 1) a2) - 97) &&& 31)) &&& 1) = 0 then (kc_readRanking_10 f1_2 f1_4 f3_0 a2 m (y1 ||| (y4.toInt64 <<< ((((kx_sign f1_2 (f1_3 + 1) a2) - 97) * 6).toInt64 &&& 63))) (y3 ||| ((1 : Int32) <<< (((kx_sign f1_2 (f1_3 + 1) a2) - 97) &&& 31))) y4 (y5 + 1) ((f1_3 + 1) + 1)) else ((kx_fail (f1_3 + 1) f1_4 6).1.toInt64, (f1_3 + 1), (kx_fail (f1_3 + 1) f1_4 6).2))) else ((kx_fail f1_3 f1_4 1).1.toInt64, f1_3, (kx_fail f1_3 f1_4 1).2))) else (if (kt_isMeasure f3_0 ((kx_sign f1_2 f1_3 a2) - 97)) = 0 then ((kx_fail f1_3 f1_4 1).1.toInt64, f1_3, (kx_fail f1_3 f1_4 1).2) else (if ((y3 >>> (((kx_sign f1_2 f1_3 a2) - 97) &&& 31)) &&& 1) = 0 then (kc_readRanking_10 f1_2 f1_4 f3_0 a2 m (y1 ||| (y4.toInt64 <<< ((((kx_sign f1_2 f1_3 a2) - 97) * 6).toInt64 &&& 63))) (y3 ||| ((1 : Int32) <<< (((kx_sign f1_2 f1_3 a2) - 97) &&& 31))) y4 (y5 + 1) (f1_3 + 1)) else ((kx_fail f1_3 f1_4 6).1.toInt64, f1_3, (kx_fail f1_3 f1_4 6).2))))
theorem t_kc_readRanking_10 {f : Nat} {Q : Option Value → sm_H → Prop} : ∀ (m : Nat) {B D : Nat} {F : Nat → Nat → Int32} {A : Nat → List Int32} {L : Nat → List Int64} {y1 : Int64} {y3 : Int32} {y4 : Int32} {y5 : Int32} {o6 : Option Value}, m = ((F 3 0).toInt - y5.toInt).toNat → (Q (some (.long ((kc_readRanking_10 (F 1 2) (F 1 4) (F 3 0) (A 2) m y1 y3 y4 y5 (F 1 3)).1))) (hz (uF (uF F 1 3 ((kc_readRanking_10 (F 1 2) (F 1 4) (F 3 0) (A 2) m y1 y3 y4 y5 (F 1 3)).2.1)) 1 4 ((kc_readRanking_10 (F 1 2) (F 1 4) (F 3 0) (A 2) m y1 y3 y4 y5 (F 1 3)).2.2)) A L)) → wl_E f B D mm43.2.2.2.2.2.2.2.2 10 [some (.ref 0), some (.long y1), none, some (.int y3), some (.int y4), some (.int y5), o6] [] (hz F A L) Q := by
  intro m
  induction m with
  | zero =>
    intro B D F A L y1 y3 y4 y5 o6 hm K
    generalize hT : (kc_readRanking_10 (F 1 2) (F 1 4) (F 3 0) (A 2) 0 y1 y3 y4 y5 (F 1 3)) = T at K
    have hE : T = (if (kx_sign (F 1 2) (F 1 3) (A 2)) = (-1) then (y1, (F 1 3), (F 1 4)) else ((kx_fail (F 1 3) (F 1 4) 1).1.toInt64, (F 1 3), (kx_fail (F 1 3) (F 1 4) 1).2)) := hT.symm
    clear hT
    refine w_n 4 (pc1 := 19) (ls1 := [some (.ref 0), some (.long y1), none, some (.int y3), some (.int y4), some (.int y5), o6]) (st1 := [.int (F 3 0), .int y5]) (hp1 := (hz F A L)) rfl ?_
    refine w_ge (p3 := 22) rfl rfl (fun hb => ?_) (fun h => False.elim (by have h : y5.toInt < (F 3 0).toInt := h; omega))
    refine w_n 2 (pc1 := 179) (ls1 := [some (.ref 0), some (.long y1), none, some (.int y3), some (.int y4), some (.int y5), o6]) (st1 := [.ref 1]) (hp1 := (hz F A L)) rfl ?_
    refine w_c rfl rfl (t_kx_sign ?_)
    show wl_E f _ _ mm43.2.2.2.2.2.2.2.2 182 [some (.ref 0), some (.long y1), none, some (.int y3), some (.int y4), some (.int y5), o6] [.int (kx_sign (F 1 2) (F 1 3) (A 2))] (hz F A L) _
    generalize hG51 : (kx_sign (F 1 2) (F 1 3) (A 2)) = G51 at hE ⊢
    refine w_n 1 (pc1 := 183) (ls1 := [some (.ref 0), some (.long y1), none, some (.int y3), some (.int y4), some (.int y5), o6]) (st1 := [.int (-1), .int G51]) (hp1 := (hz F A L)) rfl ?_
    refine w_ne (p3 := 186) rfl rfl (fun h => ?_) (fun h => ?_)
    · have h1 : ¬ G51 = (-1) := h
      rw [if_neg h1] at hE
      refine w_n 3 (pc1 := 195) (ls1 := [some (.ref 0), some (.long y1), none, some (.int y3), some (.int y4), some (.int y5), o6]) (st1 := [.int 1, .ref 1]) (hp1 := (hz F A L)) rfl ?_
      refine w_c rfl rfl (t_kx_fail ?_)
      show wl_E f _ _ mm43.2.2.2.2.2.2.2.2 198 [some (.ref 0), some (.long y1), none, some (.int y3), some (.int y4), some (.int y5), o6] [.int (kx_fail (F 1 3) (F 1 4) 1).1] (hz (uF F 1 4 (kx_fail (F 1 3) (F 1 4) 1).2) A L) _
      generalize hG52 : (kx_fail (F 1 3) (F 1 4) 1) = G52 at hE ⊢
      refine w_n 1 (pc1 := 199) (ls1 := [some (.ref 0), some (.long y1), none, some (.int y3), some (.int y4), some (.int y5), o6]) (st1 := [.long G52.1.toInt64]) (hp1 := (hz (uF F 1 4 G52.2) A L)) rfl ?_
      subst T
      exact w_r rfl rfl (cvQ (funext fun q => funext fun z => if k0 : q = 1 ∧ z = 3 then by obtain ⟨w1, w2⟩ := k0; subst w1; subst w2; exact Eq.trans (b := (F 1 3)) rfl rfl else if k1 : q = 1 ∧ z = 4 then by obtain ⟨w1, w2⟩ := k1; subst w1; subst w2; exact Eq.trans (b := G52.2) rfl rfl else by unfold uF; simp only [nb2 k0, nb2 k1, cond_false]) rfl rfl K)
    · have h1 : G51 = (-1) := h
      rw [if_pos h1] at hE
      refine w_n 2 (pc1 := 199) (ls1 := [some (.ref 0), some (.long y1), none, some (.int y3), some (.int y4), some (.int y5), o6]) (st1 := [.long y1]) (hp1 := (hz F A L)) rfl ?_
      subst T
      exact w_r rfl rfl (cvQ (funext fun q => funext fun z => if k0 : q = 1 ∧ z = 3 then by obtain ⟨w1, w2⟩ := k0; subst w1; subst w2; exact Eq.trans (b := (F 1 3)) rfl rfl else if k1 : q = 1 ∧ z = 4 then by obtain ⟨w1, w2⟩ := k1; subst w1; subst w2; exact Eq.trans (b := (F 1 4)) rfl rfl else by unfold uF; simp only [nb2 k0, nb2 k1, cond_false]) rfl rfl K)
  | succ m ih =>
    intro B D F A L y1 y3 y4 y5 o6 hm K
    generalize hT : (kc_readRanking_10 (F 1 2) (F 1 4) (F 3 0) (A 2) (m + 1) y1 y3 y4 y5 (F 1 3)) = T at K
    have hE : T = (if 0 < y5.toInt then (if (kx_sign (F 1 2) (F 1 3) (A 2)) = 62 then (if (kt_isMeasure (F 3 0) ((kx_sign (F 1 2) ((F 1 3) + 1) (A 2)) - 97)) = 0 then ((kx_fail ((F 1 3) + 1) (F 1 4) 1).1.toInt64, ((F 1 3) + 1), (kx_fail ((F 1 3) + 1) (F 1 4) 1).2) else (if ((y3 >>> (((kx_sign (F 1 2) ((F 1 3) + 1) (A 2)) - 97) &&& 31)) &&& 1) = 0 then (kc_readRanking_10 (F 1 2) (F 1 4) (F 3 0) (A 2) m (y1 ||| (y3.toInt64 <<< ((((kx_sign (F 1 2) ((F 1 3) + 1) (A 2)) - 97) * 6).toInt64 &&& 63))) (y3 ||| ((1 : Int32) <<< (((kx_sign (F 1 2) ((F 1 3) + 1) (A 2)) - 97) &&& 31))) y3 (y5 + 1) (((F 1 3) + 1) + 1)) else ((kx_fail ((F 1 3) + 1) (F 1 4) 6).1.toInt64, ((F 1 3) + 1), (kx_fail ((F 1 3) + 1) (F 1 4) 6).2))) else (if (kx_sign (F 1 2) (F 1 3) (A 2)) = 61 then (if (kt_isMeasure (F 3 0) ((kx_sign (F 1 2) ((F 1 3) + 1) (A 2)) - 97)) = 0 then ((kx_fail ((F 1 3) + 1) (F 1 4) 1).1.toInt64, ((F 1 3) + 1), (kx_fail ((F 1 3) + 1) (F 1 4) 1).2) else (if ((y3 >>> (((kx_sign (F 1 2) ((F 1 3) + 1) (A 2)) - 97) &&& 31)) &&& 1) = 0 then (kc_readRanking_10 (F 1 2) (F 1 4) (F 3 0) (A 2) m (y1 ||| (y4.toInt64 <<< ((((kx_sign (F 1 2) ((F 1 3) + 1) (A 2)) - 97) * 6).toInt64 &&& 63))) (y3 ||| ((1 : Int32) <<< (((kx_sign (F 1 2) ((F 1 3) + 1) (A 2)) - 97) &&& 31))) y4 (y5 + 1) (((F 1 3) + 1) + 1)) else ((kx_fail ((F 1 3) + 1) (F 1 4) 6).1.toInt64, ((F 1 3) + 1), (kx_fail ((F 1 3) + 1) (F 1 4) 6).2))) else ((kx_fail (F 1 3) (F 1 4) 1).1.toInt64, (F 1 3), (kx_fail (F 1 3) (F 1 4) 1).2))) else (if (kt_isMeasure (F 3 0) ((kx_sign (F 1 2) (F 1 3) (A 2)) - 97)) = 0 then ((kx_fail (F 1 3) (F 1 4) 1).1.toInt64, (F 1 3), (kx_fail (F 1 3) (F 1 4) 1).2) else (if ((y3 >>> (((kx_sign (F 1 2) (F 1 3) (A 2)) - 97) &&& 31)) &&& 1) = 0 then (kc_readRanking_10 (F 1 2) (F 1 4) (F 3 0) (A 2) m (y1 ||| (y4.toInt64 <<< ((((kx_sign (F 1 2) (F 1 3) (A 2)) - 97) * 6).toInt64 &&& 63))) (y3 ||| ((1 : Int32) <<< (((kx_sign (F 1 2) (F 1 3) (A 2)) - 97) &&& 31))) y4 (y5 + 1) ((F 1 3) + 1)) else ((kx_fail (F 1 3) (F 1 4) 6).1.toInt64, (F 1 3), (kx_fail (F 1 3) (F 1 4) 6).2)))) := hT.symm
    clear hT
    refine w_n 4 (pc1 := 19) (ls1 := [some (.ref 0), some (.long y1), none, some (.int y3), some (.int y4), some (.int y5), o6]) (st1 := [.int (F 3 0), .int y5]) (hp1 := (hz F A L)) rfl ?_
    refine w_ge (p3 := 22) rfl rfl (fun h => False.elim (by have h : (F 3 0).toInt ≤ y5.toInt := h; omega)) (fun hb => ?_)
    refine w_n 1 (pc1 := 24) (ls1 := [some (.ref 0), some (.long y1), none, some (.int y3), some (.int y4), some (.int y5), o6]) (st1 := [.int y5]) (hp1 := (hz F A L)) rfl ?_
    refine w_zle (p3 := 27) rfl rfl (fun h => ?_) (fun h => ?_)
    · have h2 : y5.toInt ≤ 0 := h
      rw [if_neg (Int.not_lt.mpr h2)] at hE
      refine w_n 2 (pc1 := 87) (ls1 := [some (.ref 0), some (.long y1), none, some (.int y3), some (.int y4), some (.int y5), o6]) (st1 := [.ref 1]) (hp1 := (hz F A L)) rfl ?_
      refine w_c rfl rfl (t_kx_sign ?_)
      show wl_E f _ _ mm43.2.2.2.2.2.2.2.2 90 [some (.ref 0), some (.long y1), none, some (.int y3), some (.int y4), some (.int y5), o6] [.int (kx_sign (F 1 2) (F 1 3) (A 2))] (hz F A L) _
      generalize hG53 : (kx_sign (F 1 2) (F 1 3) (A 2)) = G53 at hE ⊢
      refine w_n 6 (pc1 := 101) (ls1 := [some (.ref 0), some (.long y1), none, some (.int y3), some (.int y4), some (.int y5), some (.int (G53 - 97))]) (st1 := [.int (G53 - 97), .ref 3]) (hp1 := (hz F A L)) rfl ?_
      refine w_c rfl rfl (t_kt_isMeasure ?_)
      show wl_E f _ _ mm43.2.2.2.2.2.2.2.2 104 [some (.ref 0), some (.long y1), none, some (.int y3), some (.int y4), some (.int y5), some (.int (G53 - 97))] [.int (kt_isMeasure (F 3 0) (G53 - 97))] (hz F A L) _
      generalize hG54 : (kt_isMeasure (F 3 0) (G53 - 97)) = G54 at hE ⊢
      refine w_zne (p3 := 107) rfl rfl (fun h => ?_) (fun h => ?_)
      · have h3 : ¬ G54 = 0 := h
        rw [if_neg h3] at hE
        refine w_n 5 (pc1 := 123) (ls1 := [some (.ref 0), some (.long y1), none, some (.int y3), some (.int y4), some (.int y5), some (.int (G53 - 97))]) (st1 := [.int ((y3 >>> ((G53 - 97) &&& 31)) &&& 1)]) (hp1 := (hz F A L)) rfl ?_
        refine w_zeq (p3 := 126) rfl rfl (fun h => ?_) (fun h => ?_)
        · have h4 : ((y3 >>> ((G53 - 97) &&& 31)) &&& 1) = 0 := h
          rw [if_pos h4] at hE
          refine w_n 21 (pc1 := 166) (ls1 := [some (.ref 0), some (.long (y1 ||| (y4.toInt64 <<< (((G53 - 97) * 6).toInt64 &&& 63)))), none, some (.int (y3 ||| ((1 : Int32) <<< ((G53 - 97) &&& 31)))), some (.int y4), some (.int y5), some (.int (G53 - 97))]) (st1 := [.int ((F 1 3) + 1), .ref 1]) (hp1 := (hz F A L)) rfl ?_
          refine w_pf (k := 1) (fs := hz_f1 F) (hp1 := (hz (uF F 1 3 ((F 1 3) + 1)) A L)) rfl rfl rfl (hz_p1_3 _) ?_
          refine w_n 2 (pc1 := 10) (ls1 := [some (.ref 0), some (.long (y1 ||| (y4.toInt64 <<< (((G53 - 97) * 6).toInt64 &&& 63)))), none, some (.int (y3 ||| ((1 : Int32) <<< ((G53 - 97) &&& 31)))), some (.int y4), some (.int (y5 + 1)), some (.int (G53 - 97))]) (st1 := []) (hp1 := (hz (uF F 1 3 ((F 1 3) + 1)) A L)) rfl ?_
          subst T
          have hb2 := i_up (B := (F 3 0)) hb
          have hb3 : y5.toInt < (F 3 0).toInt := hb
          exact ih (show m = ((F 3 0).toInt - (y5 + 1).toInt).toNat by rw [hb2]; omega) (cvQ (funext fun q => funext fun z => if k0 : q = 1 ∧ z = 3 then by obtain ⟨w1, w2⟩ := k0; subst w1; subst w2; exact Eq.trans (b := (kc_readRanking_10 (F 1 2) (F 1 4) (F 3 0) (A 2) m (y1 ||| (y4.toInt64 <<< (((G53 - 97) * 6).toInt64 &&& 63))) (y3 ||| ((1 : Int32) <<< ((G53 - 97) &&& 31))) y4 (y5 + 1) ((F 1 3) + 1)).2.1) rfl rfl else if k1 : q = 1 ∧ z = 4 then by obtain ⟨w1, w2⟩ := k1; subst w1; subst w2; exact Eq.trans (b := (kc_readRanking_10 (F 1 2) (F 1 4) (F 3 0) (A 2) m (y1 ||| (y4.toInt64 <<< (((G53 - 97) * 6).toInt64 &&& 63))) (y3 ||| ((1 : Int32) <<< ((G53 - 97) &&& 31))) y4 (y5 + 1) ((F 1 3) + 1)).2.2) rfl rfl else by unfold uF; simp only [nb2 k0, nb2 k1, cond_false]) rfl rfl K)
        · have h4 : ¬ ((y3 >>> ((G53 - 97) &&& 31)) &&& 1) = 0 := h
          rw [if_neg h4] at hE
          refine w_n 3 (pc1 := 132) (ls1 := [some (.ref 0), some (.long y1), none, some (.int y3), some (.int y4), some (.int y5), some (.int (G53 - 97))]) (st1 := [.int 6, .ref 1]) (hp1 := (hz F A L)) rfl ?_
          refine w_c rfl rfl (t_kx_fail ?_)
          show wl_E f _ _ mm43.2.2.2.2.2.2.2.2 135 [some (.ref 0), some (.long y1), none, some (.int y3), some (.int y4), some (.int y5), some (.int (G53 - 97))] [.int (kx_fail (F 1 3) (F 1 4) 6).1] (hz (uF F 1 4 (kx_fail (F 1 3) (F 1 4) 6).2) A L) _
          generalize hG55 : (kx_fail (F 1 3) (F 1 4) 6) = G55 at hE ⊢
          refine w_n 1 (pc1 := 136) (ls1 := [some (.ref 0), some (.long y1), none, some (.int y3), some (.int y4), some (.int y5), some (.int (G53 - 97))]) (st1 := [.long G55.1.toInt64]) (hp1 := (hz (uF F 1 4 G55.2) A L)) rfl ?_
          subst T
          exact w_r rfl rfl (cvQ (funext fun q => funext fun z => if k0 : q = 1 ∧ z = 3 then by obtain ⟨w1, w2⟩ := k0; subst w1; subst w2; exact Eq.trans (b := (F 1 3)) rfl rfl else if k1 : q = 1 ∧ z = 4 then by obtain ⟨w1, w2⟩ := k1; subst w1; subst w2; exact Eq.trans (b := G55.2) rfl rfl else by unfold uF; simp only [nb2 k0, nb2 k1, cond_false]) rfl rfl K)
      · have h3 : G54 = 0 := h
        rw [if_pos h3] at hE
        refine w_n 3 (pc1 := 112) (ls1 := [some (.ref 0), some (.long y1), none, some (.int y3), some (.int y4), some (.int y5), some (.int (G53 - 97))]) (st1 := [.int 1, .ref 1]) (hp1 := (hz F A L)) rfl ?_
        refine w_c rfl rfl (t_kx_fail ?_)
        show wl_E f _ _ mm43.2.2.2.2.2.2.2.2 115 [some (.ref 0), some (.long y1), none, some (.int y3), some (.int y4), some (.int y5), some (.int (G53 - 97))] [.int (kx_fail (F 1 3) (F 1 4) 1).1] (hz (uF F 1 4 (kx_fail (F 1 3) (F 1 4) 1).2) A L) _
        generalize hG56 : (kx_fail (F 1 3) (F 1 4) 1) = G56 at hE ⊢
        refine w_n 1 (pc1 := 116) (ls1 := [some (.ref 0), some (.long y1), none, some (.int y3), some (.int y4), some (.int y5), some (.int (G53 - 97))]) (st1 := [.long G56.1.toInt64]) (hp1 := (hz (uF F 1 4 G56.2) A L)) rfl ?_
        subst T
        exact w_r rfl rfl (cvQ (funext fun q => funext fun z => if k0 : q = 1 ∧ z = 3 then by obtain ⟨w1, w2⟩ := k0; subst w1; subst w2; exact Eq.trans (b := (F 1 3)) rfl rfl else if k1 : q = 1 ∧ z = 4 then by obtain ⟨w1, w2⟩ := k1; subst w1; subst w2; exact Eq.trans (b := G56.2) rfl rfl else by unfold uF; simp only [nb2 k0, nb2 k1, cond_false]) rfl rfl K)
    · have h2 : 0 < y5.toInt := h
      rw [if_pos h2] at hE
      refine w_n 2 (pc1 := 31) (ls1 := [some (.ref 0), some (.long y1), none, some (.int y3), some (.int y4), some (.int y5), o6]) (st1 := [.ref 1]) (hp1 := (hz F A L)) rfl ?_
      refine w_c rfl rfl (t_kx_sign ?_)
      show wl_E f _ _ mm43.2.2.2.2.2.2.2.2 34 [some (.ref 0), some (.long y1), none, some (.int y3), some (.int y4), some (.int y5), o6] [.int (kx_sign (F 1 2) (F 1 3) (A 2))] (hz F A L) _
      generalize hG57 : (kx_sign (F 1 2) (F 1 3) (A 2)) = G57 at hE ⊢
      refine w_n 3 (pc1 := 40) (ls1 := [some (.ref 0), some (.long y1), none, some (.int y3), some (.int y4), some (.int y5), some (.int G57)]) (st1 := [.int 62, .int G57]) (hp1 := (hz F A L)) rfl ?_
      refine w_eq (p3 := 43) rfl rfl (fun h => ?_) (fun h => ?_)
      · have h5 : G57 = 62 := h
        rw [if_pos h5] at hE
        refine w_n 2 (pc1 := 64) (ls1 := [some (.ref 0), some (.long y1), none, some (.int y3), some (.int y4), some (.int y5), some (.int G57)]) (st1 := [.int 62, .int G57]) (hp1 := (hz F A L)) rfl ?_
        refine w_ne (p3 := 67) rfl rfl (fun h => absurd h5 h) (fun _ => ?_)
        refine w_n 8 (pc1 := 80) (ls1 := [some (.ref 0), some (.long y1), none, some (.int y3), some (.int y3), some (.int y5), some (.int G57)]) (st1 := [.int ((F 1 3) + 1), .ref 1]) (hp1 := (hz F A L)) rfl ?_
        refine w_pf (k := 1) (fs := hz_f1 F) (hp1 := (hz (uF F 1 3 ((F 1 3) + 1)) A L)) rfl rfl rfl (hz_p1_3 _) ?_
        refine w_n 2 (pc1 := 87) (ls1 := [some (.ref 0), some (.long y1), none, some (.int y3), some (.int y3), some (.int y5), some (.int G57)]) (st1 := [.ref 1]) (hp1 := (hz (uF F 1 3 ((F 1 3) + 1)) A L)) rfl ?_
        refine w_c rfl rfl (t_kx_sign ?_)
        show wl_E f _ _ mm43.2.2.2.2.2.2.2.2 90 [some (.ref 0), some (.long y1), none, some (.int y3), some (.int y3), some (.int y5), some (.int G57)] [.int (kx_sign (F 1 2) ((F 1 3) + 1) (A 2))] (hz (uF F 1 3 ((F 1 3) + 1)) A L) _
        generalize hG58 : (kx_sign (F 1 2) ((F 1 3) + 1) (A 2)) = G58 at hE ⊢
        refine w_n 6 (pc1 := 101) (ls1 := [some (.ref 0), some (.long y1), none, some (.int y3), some (.int y3), some (.int y5), some (.int (G58 - 97))]) (st1 := [.int (G58 - 97), .ref 3]) (hp1 := (hz (uF F 1 3 ((F 1 3) + 1)) A L)) rfl ?_
        refine w_c rfl rfl (t_kt_isMeasure ?_)
        show wl_E f _ _ mm43.2.2.2.2.2.2.2.2 104 [some (.ref 0), some (.long y1), none, some (.int y3), some (.int y3), some (.int y5), some (.int (G58 - 97))] [.int (kt_isMeasure (F 3 0) (G58 - 97))] (hz (uF F 1 3 ((F 1 3) + 1)) A L) _
        generalize hG59 : (kt_isMeasure (F 3 0) (G58 - 97)) = G59 at hE ⊢
        refine w_zne (p3 := 107) rfl rfl (fun h => ?_) (fun h => ?_)
        · have h6 : ¬ G59 = 0 := h
          rw [if_neg h6] at hE
          refine w_n 5 (pc1 := 123) (ls1 := [some (.ref 0), some (.long y1), none, some (.int y3), some (.int y3), some (.int y5), some (.int (G58 - 97))]) (st1 := [.int ((y3 >>> ((G58 - 97) &&& 31)) &&& 1)]) (hp1 := (hz (uF F 1 3 ((F 1 3) + 1)) A L)) rfl ?_
          refine w_zeq (p3 := 126) rfl rfl (fun h => ?_) (fun h => ?_)
          · have h7 : ((y3 >>> ((G58 - 97) &&& 31)) &&& 1) = 0 := h
            rw [if_pos h7] at hE
            refine w_n 21 (pc1 := 166) (ls1 := [some (.ref 0), some (.long (y1 ||| (y3.toInt64 <<< (((G58 - 97) * 6).toInt64 &&& 63)))), none, some (.int (y3 ||| ((1 : Int32) <<< ((G58 - 97) &&& 31)))), some (.int y3), some (.int y5), some (.int (G58 - 97))]) (st1 := [.int (((F 1 3) + 1) + 1), .ref 1]) (hp1 := (hz (uF F 1 3 ((F 1 3) + 1)) A L)) rfl ?_
            refine w_pf (k := 1) (fs := hz_f1 (uF F 1 3 ((F 1 3) + 1))) (hp1 := (hz (uF (uF F 1 3 ((F 1 3) + 1)) 1 3 (((F 1 3) + 1) + 1)) A L)) rfl rfl rfl (hz_p1_3 _) ?_
            refine w_n 2 (pc1 := 10) (ls1 := [some (.ref 0), some (.long (y1 ||| (y3.toInt64 <<< (((G58 - 97) * 6).toInt64 &&& 63)))), none, some (.int (y3 ||| ((1 : Int32) <<< ((G58 - 97) &&& 31)))), some (.int y3), some (.int (y5 + 1)), some (.int (G58 - 97))]) (st1 := []) (hp1 := (hz (uF (uF F 1 3 ((F 1 3) + 1)) 1 3 (((F 1 3) + 1) + 1)) A L)) rfl ?_
            subst T
            have hb2 := i_up (B := (F 3 0)) hb
            have hb3 : y5.toInt < (F 3 0).toInt := hb
            exact ih (show m = ((F 3 0).toInt - (y5 + 1).toInt).toNat by rw [hb2]; omega) (cvQ (funext fun q => funext fun z => if k0 : q = 1 ∧ z = 3 then by obtain ⟨w1, w2⟩ := k0; subst w1; subst w2; exact Eq.trans (b := (kc_readRanking_10 (F 1 2) (F 1 4) (F 3 0) (A 2) m (y1 ||| (y3.toInt64 <<< (((G58 - 97) * 6).toInt64 &&& 63))) (y3 ||| ((1 : Int32) <<< ((G58 - 97) &&& 31))) y3 (y5 + 1) (((F 1 3) + 1) + 1)).2.1) rfl rfl else if k1 : q = 1 ∧ z = 4 then by obtain ⟨w1, w2⟩ := k1; subst w1; subst w2; exact Eq.trans (b := (kc_readRanking_10 (F 1 2) (F 1 4) (F 3 0) (A 2) m (y1 ||| (y3.toInt64 <<< (((G58 - 97) * 6).toInt64 &&& 63))) (y3 ||| ((1 : Int32) <<< ((G58 - 97) &&& 31))) y3 (y5 + 1) (((F 1 3) + 1) + 1)).2.2) rfl rfl else by unfold uF; simp only [nb2 k0, nb2 k1, cond_false]) rfl rfl K)
          · have h7 : ¬ ((y3 >>> ((G58 - 97) &&& 31)) &&& 1) = 0 := h
            rw [if_neg h7] at hE
            refine w_n 3 (pc1 := 132) (ls1 := [some (.ref 0), some (.long y1), none, some (.int y3), some (.int y3), some (.int y5), some (.int (G58 - 97))]) (st1 := [.int 6, .ref 1]) (hp1 := (hz (uF F 1 3 ((F 1 3) + 1)) A L)) rfl ?_
            refine w_c rfl rfl (t_kx_fail ?_)
            show wl_E f _ _ mm43.2.2.2.2.2.2.2.2 135 [some (.ref 0), some (.long y1), none, some (.int y3), some (.int y3), some (.int y5), some (.int (G58 - 97))] [.int (kx_fail ((F 1 3) + 1) (F 1 4) 6).1] (hz (uF (uF F 1 3 ((F 1 3) + 1)) 1 4 (kx_fail ((F 1 3) + 1) (F 1 4) 6).2) A L) _
            generalize hG60 : (kx_fail ((F 1 3) + 1) (F 1 4) 6) = G60 at hE ⊢
            refine w_n 1 (pc1 := 136) (ls1 := [some (.ref 0), some (.long y1), none, some (.int y3), some (.int y3), some (.int y5), some (.int (G58 - 97))]) (st1 := [.long G60.1.toInt64]) (hp1 := (hz (uF (uF F 1 3 ((F 1 3) + 1)) 1 4 G60.2) A L)) rfl ?_
            subst T
            exact w_r rfl rfl (cvQ rfl rfl rfl K)
        · have h6 : G59 = 0 := h
          rw [if_pos h6] at hE
          refine w_n 3 (pc1 := 112) (ls1 := [some (.ref 0), some (.long y1), none, some (.int y3), some (.int y3), some (.int y5), some (.int (G58 - 97))]) (st1 := [.int 1, .ref 1]) (hp1 := (hz (uF F 1 3 ((F 1 3) + 1)) A L)) rfl ?_
          refine w_c rfl rfl (t_kx_fail ?_)
          show wl_E f _ _ mm43.2.2.2.2.2.2.2.2 115 [some (.ref 0), some (.long y1), none, some (.int y3), some (.int y3), some (.int y5), some (.int (G58 - 97))] [.int (kx_fail ((F 1 3) + 1) (F 1 4) 1).1] (hz (uF (uF F 1 3 ((F 1 3) + 1)) 1 4 (kx_fail ((F 1 3) + 1) (F 1 4) 1).2) A L) _
          generalize hG61 : (kx_fail ((F 1 3) + 1) (F 1 4) 1) = G61 at hE ⊢
          refine w_n 1 (pc1 := 116) (ls1 := [some (.ref 0), some (.long y1), none, some (.int y3), some (.int y3), some (.int y5), some (.int (G58 - 97))]) (st1 := [.long G61.1.toInt64]) (hp1 := (hz (uF (uF F 1 3 ((F 1 3) + 1)) 1 4 G61.2) A L)) rfl ?_
          subst T
          exact w_r rfl rfl (cvQ rfl rfl rfl K)
      · have h5 : ¬ G57 = 62 := h
        rw [if_neg h5] at hE
        refine w_n 2 (pc1 := 47) (ls1 := [some (.ref 0), some (.long y1), none, some (.int y3), some (.int y4), some (.int y5), some (.int G57)]) (st1 := [.int 61, .int G57]) (hp1 := (hz F A L)) rfl ?_
        refine w_eq (p3 := 50) rfl rfl (fun h => ?_) (fun h => ?_)
        · have h8 : G57 = 61 := h
          rw [if_pos h8] at hE
          refine w_n 2 (pc1 := 64) (ls1 := [some (.ref 0), some (.long y1), none, some (.int y3), some (.int y4), some (.int y5), some (.int G57)]) (st1 := [.int 62, .int G57]) (hp1 := (hz F A L)) rfl ?_
          refine w_ne (p3 := 67) rfl rfl (fun _ => ?_) (fun h => absurd h h5)
          refine w_n 6 (pc1 := 80) (ls1 := [some (.ref 0), some (.long y1), none, some (.int y3), some (.int y4), some (.int y5), some (.int G57)]) (st1 := [.int ((F 1 3) + 1), .ref 1]) (hp1 := (hz F A L)) rfl ?_
          refine w_pf (k := 1) (fs := hz_f1 F) (hp1 := (hz (uF F 1 3 ((F 1 3) + 1)) A L)) rfl rfl rfl (hz_p1_3 _) ?_
          refine w_n 2 (pc1 := 87) (ls1 := [some (.ref 0), some (.long y1), none, some (.int y3), some (.int y4), some (.int y5), some (.int G57)]) (st1 := [.ref 1]) (hp1 := (hz (uF F 1 3 ((F 1 3) + 1)) A L)) rfl ?_
          refine w_c rfl rfl (t_kx_sign ?_)
          show wl_E f _ _ mm43.2.2.2.2.2.2.2.2 90 [some (.ref 0), some (.long y1), none, some (.int y3), some (.int y4), some (.int y5), some (.int G57)] [.int (kx_sign (F 1 2) ((F 1 3) + 1) (A 2))] (hz (uF F 1 3 ((F 1 3) + 1)) A L) _
          generalize hG62 : (kx_sign (F 1 2) ((F 1 3) + 1) (A 2)) = G62 at hE ⊢
          refine w_n 6 (pc1 := 101) (ls1 := [some (.ref 0), some (.long y1), none, some (.int y3), some (.int y4), some (.int y5), some (.int (G62 - 97))]) (st1 := [.int (G62 - 97), .ref 3]) (hp1 := (hz (uF F 1 3 ((F 1 3) + 1)) A L)) rfl ?_
          refine w_c rfl rfl (t_kt_isMeasure ?_)
          show wl_E f _ _ mm43.2.2.2.2.2.2.2.2 104 [some (.ref 0), some (.long y1), none, some (.int y3), some (.int y4), some (.int y5), some (.int (G62 - 97))] [.int (kt_isMeasure (F 3 0) (G62 - 97))] (hz (uF F 1 3 ((F 1 3) + 1)) A L) _
          generalize hG63 : (kt_isMeasure (F 3 0) (G62 - 97)) = G63 at hE ⊢
          refine w_zne (p3 := 107) rfl rfl (fun h => ?_) (fun h => ?_)
          · have h9 : ¬ G63 = 0 := h
            rw [if_neg h9] at hE
            refine w_n 5 (pc1 := 123) (ls1 := [some (.ref 0), some (.long y1), none, some (.int y3), some (.int y4), some (.int y5), some (.int (G62 - 97))]) (st1 := [.int ((y3 >>> ((G62 - 97) &&& 31)) &&& 1)]) (hp1 := (hz (uF F 1 3 ((F 1 3) + 1)) A L)) rfl ?_
            refine w_zeq (p3 := 126) rfl rfl (fun h => ?_) (fun h => ?_)
            · have h10 : ((y3 >>> ((G62 - 97) &&& 31)) &&& 1) = 0 := h
              rw [if_pos h10] at hE
              refine w_n 21 (pc1 := 166) (ls1 := [some (.ref 0), some (.long (y1 ||| (y4.toInt64 <<< (((G62 - 97) * 6).toInt64 &&& 63)))), none, some (.int (y3 ||| ((1 : Int32) <<< ((G62 - 97) &&& 31)))), some (.int y4), some (.int y5), some (.int (G62 - 97))]) (st1 := [.int (((F 1 3) + 1) + 1), .ref 1]) (hp1 := (hz (uF F 1 3 ((F 1 3) + 1)) A L)) rfl ?_
              refine w_pf (k := 1) (fs := hz_f1 (uF F 1 3 ((F 1 3) + 1))) (hp1 := (hz (uF (uF F 1 3 ((F 1 3) + 1)) 1 3 (((F 1 3) + 1) + 1)) A L)) rfl rfl rfl (hz_p1_3 _) ?_
              refine w_n 2 (pc1 := 10) (ls1 := [some (.ref 0), some (.long (y1 ||| (y4.toInt64 <<< (((G62 - 97) * 6).toInt64 &&& 63)))), none, some (.int (y3 ||| ((1 : Int32) <<< ((G62 - 97) &&& 31)))), some (.int y4), some (.int (y5 + 1)), some (.int (G62 - 97))]) (st1 := []) (hp1 := (hz (uF (uF F 1 3 ((F 1 3) + 1)) 1 3 (((F 1 3) + 1) + 1)) A L)) rfl ?_
              subst T
              have hb2 := i_up (B := (F 3 0)) hb
              have hb3 : y5.toInt < (F 3 0).toInt := hb
              exact ih (show m = ((F 3 0).toInt - (y5 + 1).toInt).toNat by rw [hb2]; omega) (cvQ (funext fun q => funext fun z => if k0 : q = 1 ∧ z = 3 then by obtain ⟨w1, w2⟩ := k0; subst w1; subst w2; exact Eq.trans (b := (kc_readRanking_10 (F 1 2) (F 1 4) (F 3 0) (A 2) m (y1 ||| (y4.toInt64 <<< (((G62 - 97) * 6).toInt64 &&& 63))) (y3 ||| ((1 : Int32) <<< ((G62 - 97) &&& 31))) y4 (y5 + 1) (((F 1 3) + 1) + 1)).2.1) rfl rfl else if k1 : q = 1 ∧ z = 4 then by obtain ⟨w1, w2⟩ := k1; subst w1; subst w2; exact Eq.trans (b := (kc_readRanking_10 (F 1 2) (F 1 4) (F 3 0) (A 2) m (y1 ||| (y4.toInt64 <<< (((G62 - 97) * 6).toInt64 &&& 63))) (y3 ||| ((1 : Int32) <<< ((G62 - 97) &&& 31))) y4 (y5 + 1) (((F 1 3) + 1) + 1)).2.2) rfl rfl else by unfold uF; simp only [nb2 k0, nb2 k1, cond_false]) rfl rfl K)
            · have h10 : ¬ ((y3 >>> ((G62 - 97) &&& 31)) &&& 1) = 0 := h
              rw [if_neg h10] at hE
              refine w_n 3 (pc1 := 132) (ls1 := [some (.ref 0), some (.long y1), none, some (.int y3), some (.int y4), some (.int y5), some (.int (G62 - 97))]) (st1 := [.int 6, .ref 1]) (hp1 := (hz (uF F 1 3 ((F 1 3) + 1)) A L)) rfl ?_
              refine w_c rfl rfl (t_kx_fail ?_)
              show wl_E f _ _ mm43.2.2.2.2.2.2.2.2 135 [some (.ref 0), some (.long y1), none, some (.int y3), some (.int y4), some (.int y5), some (.int (G62 - 97))] [.int (kx_fail ((F 1 3) + 1) (F 1 4) 6).1] (hz (uF (uF F 1 3 ((F 1 3) + 1)) 1 4 (kx_fail ((F 1 3) + 1) (F 1 4) 6).2) A L) _
              generalize hG64 : (kx_fail ((F 1 3) + 1) (F 1 4) 6) = G64 at hE ⊢
              refine w_n 1 (pc1 := 136) (ls1 := [some (.ref 0), some (.long y1), none, some (.int y3), some (.int y4), some (.int y5), some (.int (G62 - 97))]) (st1 := [.long G64.1.toInt64]) (hp1 := (hz (uF (uF F 1 3 ((F 1 3) + 1)) 1 4 G64.2) A L)) rfl ?_
              subst T
              exact w_r rfl rfl (cvQ rfl rfl rfl K)
          · have h9 : G63 = 0 := h
            rw [if_pos h9] at hE
            refine w_n 3 (pc1 := 112) (ls1 := [some (.ref 0), some (.long y1), none, some (.int y3), some (.int y4), some (.int y5), some (.int (G62 - 97))]) (st1 := [.int 1, .ref 1]) (hp1 := (hz (uF F 1 3 ((F 1 3) + 1)) A L)) rfl ?_
            refine w_c rfl rfl (t_kx_fail ?_)
            show wl_E f _ _ mm43.2.2.2.2.2.2.2.2 115 [some (.ref 0), some (.long y1), none, some (.int y3), some (.int y4), some (.int y5), some (.int (G62 - 97))] [.int (kx_fail ((F 1 3) + 1) (F 1 4) 1).1] (hz (uF (uF F 1 3 ((F 1 3) + 1)) 1 4 (kx_fail ((F 1 3) + 1) (F 1 4) 1).2) A L) _
            generalize hG65 : (kx_fail ((F 1 3) + 1) (F 1 4) 1) = G65 at hE ⊢
            refine w_n 1 (pc1 := 116) (ls1 := [some (.ref 0), some (.long y1), none, some (.int y3), some (.int y4), some (.int y5), some (.int (G62 - 97))]) (st1 := [.long G65.1.toInt64]) (hp1 := (hz (uF (uF F 1 3 ((F 1 3) + 1)) 1 4 G65.2) A L)) rfl ?_
            subst T
            exact w_r rfl rfl (cvQ rfl rfl rfl K)
        · have h8 : ¬ G57 = 61 := h
          rw [if_neg h8] at hE
          refine w_n 3 (pc1 := 55) (ls1 := [some (.ref 0), some (.long y1), none, some (.int y3), some (.int y4), some (.int y5), some (.int G57)]) (st1 := [.int 1, .ref 1]) (hp1 := (hz F A L)) rfl ?_
          refine w_c rfl rfl (t_kx_fail ?_)
          show wl_E f _ _ mm43.2.2.2.2.2.2.2.2 58 [some (.ref 0), some (.long y1), none, some (.int y3), some (.int y4), some (.int y5), some (.int G57)] [.int (kx_fail (F 1 3) (F 1 4) 1).1] (hz (uF F 1 4 (kx_fail (F 1 3) (F 1 4) 1).2) A L) _
          generalize hG66 : (kx_fail (F 1 3) (F 1 4) 1) = G66 at hE ⊢
          refine w_n 1 (pc1 := 59) (ls1 := [some (.ref 0), some (.long y1), none, some (.int y3), some (.int y4), some (.int y5), some (.int G57)]) (st1 := [.long G66.1.toInt64]) (hp1 := (hz (uF F 1 4 G66.2) A L)) rfl ?_
          subst T
          exact w_r rfl rfl (cvQ (funext fun q => funext fun z => if k0 : q = 1 ∧ z = 3 then by obtain ⟨w1, w2⟩ := k0; subst w1; subst w2; exact Eq.trans (b := (F 1 3)) rfl rfl else if k1 : q = 1 ∧ z = 4 then by obtain ⟨w1, w2⟩ := k1; subst w1; subst w2; exact Eq.trans (b := G66.2) rfl rfl else by unfold uF; simp only [nb2 k0, nb2 k1, cond_false]) rfl rfl K)
