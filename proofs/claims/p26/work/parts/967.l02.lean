/-! lifts, printed by genlift.py: 2 -/
noncomputable def kt_copyFrom_3_12 (f12_0 : Int32) (f12_1 : Int32) (f12_2 : Int32) (f12_3 : Int32) (f12_4 : Int32) (f12_5 : Int32) (f12_6 : Int32) (a4 : List Int32) (a5 : List Int32) (a6 : List Int32) (a7 : List Int32) (a8 : List Int32) (a9 : List Int32) (a10 : List Int32) (a13 : List Int32) (a14 : List Int32) (a15 : List Int32) (a16 : List Int32) (a17 : List Int32) (a18 : List Int32) (a19 : List Int32) (l11 : List Int64) (l20 : List Int64) : Int32 × Int32 × Int32 × Int32 × Int32 × Int32 × Int32 × List Int32 × List Int32 × List Int32 × List Int32 × List Int32 × List Int32 × List Int32 × List Int64 := (f12_0, f12_1, f12_2, f12_3, f12_4, f12_5, f12_6, (sm_cpy a13 a4 0 0 12), (sm_cpy a14 a5 0 0 12), (sm_cpy a15 a6 0 0 12), (sm_cpy a16 a7 0 0 12), (sm_cpy a17 a8 0 0 12), (sm_cpy a18 a9 0 0 12), (sm_cpy a19 a10 0 0 12), (sm_cpy l20 l11 0 0 12))
theorem t_kt_copyFrom_3_12 {f D : Nat} {F : Nat → Nat → Int32} {A : Nat → List Int32} {L : Nat → List Int64} {Q : Option Value → sm_H → Prop} (K : Q none (hz (uF (uF (uF (uF (uF (uF (uF F 3 0 ((kt_copyFrom_3_12 (F 12 0) (F 12 1) (F 12 2) (F 12 3) (F 12 4) (F 12 5) (F 12 6) (A 4) (A 5) (A 6) (A 7) (A 8) (A 9) (A 10) (A 13) (A 14) (A 15) (A 16) (A 17) (A 18) (A 19) (L 11) (L 20)).1)) 3 1 ((kt_copyFrom_3_12 (F 12 0) (F 12 1) (F 12 2) (F 12 3) (F 12 4) (F 12 5) (F 12 6) (A 4) (A 5) (A 6) (A 7) (A 8) (A 9) (A 10) (A 13) (A 14) (A 15) (A 16) (A 17) (A 18) (A 19) (L 11) (L 20)).2.1)) 3 2 ((kt_copyFrom_3_12 (F 12 0) (F 12 1) (F 12 2) (F 12 3) (F 12 4) (F 12 5) (F 12 6) (A 4) (A 5) (A 6) (A 7) (A 8) (A 9) (A 10) (A 13) (A 14) (A 15) (A 16) (A 17) (A 18) (A 19) (L 11) (L 20)).2.2.1)) 3 3 ((kt_copyFrom_3_12 (F 12 0) (F 12 1) (F 12 2) (F 12 3) (F 12 4) (F 12 5) (F 12 6) (A 4) (A 5) (A 6) (A 7) (A 8) (A 9) (A 10) (A 13) (A 14) (A 15) (A 16) (A 17) (A 18) (A 19) (L 11) (L 20)).2.2.2.1)) 3 4 ((kt_copyFrom_3_12 (F 12 0) (F 12 1) (F 12 2) (F 12 3) (F 12 4) (F 12 5) (F 12 6) (A 4) (A 5) (A 6) (A 7) (A 8) (A 9) (A 10) (A 13) (A 14) (A 15) (A 16) (A 17) (A 18) (A 19) (L 11) (L 20)).2.2.2.2.1)) 3 5 ((kt_copyFrom_3_12 (F 12 0) (F 12 1) (F 12 2) (F 12 3) (F 12 4) (F 12 5) (F 12 6) (A 4) (A 5) (A 6) (A 7) (A 8) (A 9) (A 10) (A 13) (A 14) (A 15) (A 16) (A 17) (A 18) (A 19) (L 11) (L 20)).2.2.2.2.2.1)) 3 6 ((kt_copyFrom_3_12 (F 12 0) (F 12 1) (F 12 2) (F 12 3) (F 12 4) (F 12 5) (F 12 6) (A 4) (A 5) (A 6) (A 7) (A 8) (A 9) (A 10) (A 13) (A 14) (A 15) (A 16) (A 17) (A 18) (A 19) (L 11) (L 20)).2.2.2.2.2.2.1)) (uA (uA (uA (uA (uA (uA (uA A 4 ((kt_copyFrom_3_12 (F 12 0) (F 12 1) (F 12 2) (F 12 3) (F 12 4) (F 12 5) (F 12 6) (A 4) (A 5) (A 6) (A 7) (A 8) (A 9) (A 10) (A 13) (A 14) (A 15) (A 16) (A 17) (A 18) (A 19) (L 11) (L 20)).2.2.2.2.2.2.2.1)) 5 ((kt_copyFrom_3_12 (F 12 0) (F 12 1) (F 12 2) (F 12 3) (F 12 4) (F 12 5) (F 12 6) (A 4) (A 5) (A 6) (A 7) (A 8) (A 9) (A 10) (A 13) (A 14) (A 15) (A 16) (A 17) (A 18) (A 19) (L 11) (L 20)).2.2.2.2.2.2.2.2.1)) 6 ((kt_copyFrom_3_12 (F 12 0) (F 12 1) (F 12 2) (F 12 3) (F 12 4) (F 12 5) (F 12 6) (A 4) (A 5) (A 6) (A 7) (A 8) (A 9) (A 10) (A 13) (A 14) (A 15) (A 16) (A 17) (A 18) (A 19) (L 11) (L 20)).2.2.2.2.2.2.2.2.2.1)) 7 ((kt_copyFrom_3_12 (F 12 0) (F 12 1) (F 12 2) (F 12 3) (F 12 4) (F 12 5) (F 12 6) (A 4) (A 5) (A 6) (A 7) (A 8) (A 9) (A 10) (A 13) (A 14) (A 15) (A 16) (A 17) (A 18) (A 19) (L 11) (L 20)).2.2.2.2.2.2.2.2.2.2.1)) 8 ((kt_copyFrom_3_12 (F 12 0) (F 12 1) (F 12 2) (F 12 3) (F 12 4) (F 12 5) (F 12 6) (A 4) (A 5) (A 6) (A 7) (A 8) (A 9) (A 10) (A 13) (A 14) (A 15) (A 16) (A 17) (A 18) (A 19) (L 11) (L 20)).2.2.2.2.2.2.2.2.2.2.2.1)) 9 ((kt_copyFrom_3_12 (F 12 0) (F 12 1) (F 12 2) (F 12 3) (F 12 4) (F 12 5) (F 12 6) (A 4) (A 5) (A 6) (A 7) (A 8) (A 9) (A 10) (A 13) (A 14) (A 15) (A 16) (A 17) (A 18) (A 19) (L 11) (L 20)).2.2.2.2.2.2.2.2.2.2.2.2.1)) 10 ((kt_copyFrom_3_12 (F 12 0) (F 12 1) (F 12 2) (F 12 3) (F 12 4) (F 12 5) (F 12 6) (A 4) (A 5) (A 6) (A 7) (A 8) (A 9) (A 10) (A 13) (A 14) (A 15) (A 16) (A 17) (A 18) (A 19) (L 11) (L 20)).2.2.2.2.2.2.2.2.2.2.2.2.2.1)) (uL L 11 ((kt_copyFrom_3_12 (F 12 0) (F 12 1) (F 12 2) (F 12 3) (F 12 4) (F 12 5) (F 12 6) (A 4) (A 5) (A 6) (A 7) (A 8) (A 9) (A 10) (A 13) (A 14) (A 15) (A 16) (A 17) (A 18) (A 19) (L 11) (L 20)).2.2.2.2.2.2.2.2.2.2.2.2.2.2)))) : wl_M f D 69 [.ref 3, .ref 12] (hz F A L) Q := by
  generalize hT : (kt_copyFrom_3_12 (F 12 0) (F 12 1) (F 12 2) (F 12 3) (F 12 4) (F 12 5) (F 12 6) (A 4) (A 5) (A 6) (A 7) (A 8) (A 9) (A 10) (A 13) (A 14) (A 15) (A 16) (A 17) (A 18) (A 19) (L 11) (L 20)) = T at K
  have hE : T = ((F 12 0), (F 12 1), (F 12 2), (F 12 3), (F 12 4), (F 12 5), (F 12 6), (sm_cpy (A 13) (A 4) 0 0 12), (sm_cpy (A 14) (A 5) 0 0 12), (sm_cpy (A 15) (A 6) 0 0 12), (sm_cpy (A 16) (A 7) 0 0 12), (sm_cpy (A 17) (A 8) 0 0 12), (sm_cpy (A 18) (A 9) 0 0 12), (sm_cpy (A 19) (A 10) 0 0 12), (sm_cpy (L 20) (L 11) 0 0 12)) := hT.symm
  clear hT
  refine w_m (E := mm69) rfl ?_
  show wl_E f f (D - 1) mm69.2.2.2.2.2.2.2.2 0 [some (.ref 3), some (.ref 12)] [] (hz F A L) Q
  refine w_n 3 (pc1 := 5) (ls1 := [some (.ref 3), some (.ref 12)]) (st1 := [.int (F 12 0), .ref 3]) (hp1 := (hz F A L)) rfl ?_
  refine w_pf (k := 3) (fs := hz_f3 F) (hp1 := (hz (uF F 3 0 (F 12 0)) A L)) rfl rfl rfl (hz_p3_0 _) ?_
  refine w_n 3 (pc1 := 13) (ls1 := [some (.ref 3), some (.ref 12)]) (st1 := [.int (F 12 1), .ref 3]) (hp1 := (hz (uF F 3 0 (F 12 0)) A L)) rfl ?_
  refine w_pf (k := 3) (fs := hz_f3 (uF F 3 0 (F 12 0))) (hp1 := (hz (uF (uF F 3 0 (F 12 0)) 3 1 (F 12 1)) A L)) rfl rfl rfl (hz_p3_1 _) ?_
  refine w_n 3 (pc1 := 21) (ls1 := [some (.ref 3), some (.ref 12)]) (st1 := [.int (F 12 2), .ref 3]) (hp1 := (hz (uF (uF F 3 0 (F 12 0)) 3 1 (F 12 1)) A L)) rfl ?_
  refine w_pf (k := 3) (fs := hz_f3 (uF (uF F 3 0 (F 12 0)) 3 1 (F 12 1))) (hp1 := (hz (uF (uF (uF F 3 0 (F 12 0)) 3 1 (F 12 1)) 3 2 (F 12 2)) A L)) rfl rfl rfl (hz_p3_2 _) ?_
  refine w_n 3 (pc1 := 29) (ls1 := [some (.ref 3), some (.ref 12)]) (st1 := [.int (F 12 3), .ref 3]) (hp1 := (hz (uF (uF (uF F 3 0 (F 12 0)) 3 1 (F 12 1)) 3 2 (F 12 2)) A L)) rfl ?_
  refine w_pf (k := 3) (fs := hz_f3 (uF (uF (uF F 3 0 (F 12 0)) 3 1 (F 12 1)) 3 2 (F 12 2))) (hp1 := (hz (uF (uF (uF (uF F 3 0 (F 12 0)) 3 1 (F 12 1)) 3 2 (F 12 2)) 3 3 (F 12 3)) A L)) rfl rfl rfl (hz_p3_3 _) ?_
  refine w_n 3 (pc1 := 37) (ls1 := [some (.ref 3), some (.ref 12)]) (st1 := [.int (F 12 4), .ref 3]) (hp1 := (hz (uF (uF (uF (uF F 3 0 (F 12 0)) 3 1 (F 12 1)) 3 2 (F 12 2)) 3 3 (F 12 3)) A L)) rfl ?_
  refine w_pf (k := 3) (fs := hz_f3 (uF (uF (uF (uF F 3 0 (F 12 0)) 3 1 (F 12 1)) 3 2 (F 12 2)) 3 3 (F 12 3))) (hp1 := (hz (uF (uF (uF (uF (uF F 3 0 (F 12 0)) 3 1 (F 12 1)) 3 2 (F 12 2)) 3 3 (F 12 3)) 3 4 (F 12 4)) A L)) rfl rfl rfl (hz_p3_4 _) ?_
  refine w_n 3 (pc1 := 45) (ls1 := [some (.ref 3), some (.ref 12)]) (st1 := [.int (F 12 5), .ref 3]) (hp1 := (hz (uF (uF (uF (uF (uF F 3 0 (F 12 0)) 3 1 (F 12 1)) 3 2 (F 12 2)) 3 3 (F 12 3)) 3 4 (F 12 4)) A L)) rfl ?_
  refine w_pf (k := 3) (fs := hz_f3 (uF (uF (uF (uF (uF F 3 0 (F 12 0)) 3 1 (F 12 1)) 3 2 (F 12 2)) 3 3 (F 12 3)) 3 4 (F 12 4))) (hp1 := (hz (uF (uF (uF (uF (uF (uF F 3 0 (F 12 0)) 3 1 (F 12 1)) 3 2 (F 12 2)) 3 3 (F 12 3)) 3 4 (F 12 4)) 3 5 (F 12 5)) A L)) rfl rfl rfl (hz_p3_5 _) ?_
  refine w_n 3 (pc1 := 53) (ls1 := [some (.ref 3), some (.ref 12)]) (st1 := [.int (F 12 6), .ref 3]) (hp1 := (hz (uF (uF (uF (uF (uF (uF F 3 0 (F 12 0)) 3 1 (F 12 1)) 3 2 (F 12 2)) 3 3 (F 12 3)) 3 4 (F 12 4)) 3 5 (F 12 5)) A L)) rfl ?_
  refine w_pf (k := 3) (fs := hz_f3 (uF (uF (uF (uF (uF (uF F 3 0 (F 12 0)) 3 1 (F 12 1)) 3 2 (F 12 2)) 3 3 (F 12 3)) 3 4 (F 12 4)) 3 5 (F 12 5))) (hp1 := (hz (uF (uF (uF (uF (uF (uF (uF F 3 0 (F 12 0)) 3 1 (F 12 1)) 3 2 (F 12 2)) 3 3 (F 12 3)) 3 4 (F 12 4)) 3 5 (F 12 5)) 3 6 (F 12 6)) A L)) rfl rfl rfl (hz_p3_6 _) ?_
  refine w_n 7 (pc1 := 68) (ls1 := [some (.ref 3), some (.ref 12)]) (st1 := [.int 12, .int 0, .ref 4, .int 0, .ref 13]) (hp1 := (hz (uF (uF (uF (uF (uF (uF (uF F 3 0 (F 12 0)) 3 1 (F 12 1)) 3 2 (F 12 2)) 3 3 (F 12 3)) 3 4 (F 12 4)) 3 5 (F 12 5)) 3 6 (F 12 6)) A L)) rfl ?_
  refine w_ac (ks := 13) (kd := 4) (u := (A 13)) (g := (A 4)) (hp1 := (hz (uF (uF (uF (uF (uF (uF (uF F 3 0 (F 12 0)) 3 1 (F 12 1)) 3 2 (F 12 2)) 3 3 (F 12 3)) 3 4 (F 12 4)) 3 5 (F 12 5)) 3 6 (F 12 6)) (uA A 4 (sm_cpy (A 13) (A 4) 0 0 12)) L)) rfl rfl rfl rfl (hz_s4 _) (fun _ => ?_)
  refine w_n 7 (pc1 := 83) (ls1 := [some (.ref 3), some (.ref 12)]) (st1 := [.int 12, .int 0, .ref 5, .int 0, .ref 14]) (hp1 := (hz (uF (uF (uF (uF (uF (uF (uF F 3 0 (F 12 0)) 3 1 (F 12 1)) 3 2 (F 12 2)) 3 3 (F 12 3)) 3 4 (F 12 4)) 3 5 (F 12 5)) 3 6 (F 12 6)) (uA A 4 (sm_cpy (A 13) (A 4) 0 0 12)) L)) rfl ?_
  refine w_ac (ks := 14) (kd := 5) (u := (A 14)) (g := (A 5)) (hp1 := (hz (uF (uF (uF (uF (uF (uF (uF F 3 0 (F 12 0)) 3 1 (F 12 1)) 3 2 (F 12 2)) 3 3 (F 12 3)) 3 4 (F 12 4)) 3 5 (F 12 5)) 3 6 (F 12 6)) (uA (uA A 4 (sm_cpy (A 13) (A 4) 0 0 12)) 5 (sm_cpy (A 14) (A 5) 0 0 12)) L)) rfl rfl rfl rfl (hz_s5 _) (fun _ => ?_)
  refine w_n 7 (pc1 := 98) (ls1 := [some (.ref 3), some (.ref 12)]) (st1 := [.int 12, .int 0, .ref 6, .int 0, .ref 15]) (hp1 := (hz (uF (uF (uF (uF (uF (uF (uF F 3 0 (F 12 0)) 3 1 (F 12 1)) 3 2 (F 12 2)) 3 3 (F 12 3)) 3 4 (F 12 4)) 3 5 (F 12 5)) 3 6 (F 12 6)) (uA (uA A 4 (sm_cpy (A 13) (A 4) 0 0 12)) 5 (sm_cpy (A 14) (A 5) 0 0 12)) L)) rfl ?_
  refine w_ac (ks := 15) (kd := 6) (u := (A 15)) (g := (A 6)) (hp1 := (hz (uF (uF (uF (uF (uF (uF (uF F 3 0 (F 12 0)) 3 1 (F 12 1)) 3 2 (F 12 2)) 3 3 (F 12 3)) 3 4 (F 12 4)) 3 5 (F 12 5)) 3 6 (F 12 6)) (uA (uA (uA A 4 (sm_cpy (A 13) (A 4) 0 0 12)) 5 (sm_cpy (A 14) (A 5) 0 0 12)) 6 (sm_cpy (A 15) (A 6) 0 0 12)) L)) rfl rfl rfl rfl (hz_s6 _) (fun _ => ?_)
  refine w_n 7 (pc1 := 113) (ls1 := [some (.ref 3), some (.ref 12)]) (st1 := [.int 12, .int 0, .ref 7, .int 0, .ref 16]) (hp1 := (hz (uF (uF (uF (uF (uF (uF (uF F 3 0 (F 12 0)) 3 1 (F 12 1)) 3 2 (F 12 2)) 3 3 (F 12 3)) 3 4 (F 12 4)) 3 5 (F 12 5)) 3 6 (F 12 6)) (uA (uA (uA A 4 (sm_cpy (A 13) (A 4) 0 0 12)) 5 (sm_cpy (A 14) (A 5) 0 0 12)) 6 (sm_cpy (A 15) (A 6) 0 0 12)) L)) rfl ?_
  refine w_ac (ks := 16) (kd := 7) (u := (A 16)) (g := (A 7)) (hp1 := (hz (uF (uF (uF (uF (uF (uF (uF F 3 0 (F 12 0)) 3 1 (F 12 1)) 3 2 (F 12 2)) 3 3 (F 12 3)) 3 4 (F 12 4)) 3 5 (F 12 5)) 3 6 (F 12 6)) (uA (uA (uA (uA A 4 (sm_cpy (A 13) (A 4) 0 0 12)) 5 (sm_cpy (A 14) (A 5) 0 0 12)) 6 (sm_cpy (A 15) (A 6) 0 0 12)) 7 (sm_cpy (A 16) (A 7) 0 0 12)) L)) rfl rfl rfl rfl (hz_s7 _) (fun _ => ?_)
  refine w_n 7 (pc1 := 128) (ls1 := [some (.ref 3), some (.ref 12)]) (st1 := [.int 12, .int 0, .ref 8, .int 0, .ref 17]) (hp1 := (hz (uF (uF (uF (uF (uF (uF (uF F 3 0 (F 12 0)) 3 1 (F 12 1)) 3 2 (F 12 2)) 3 3 (F 12 3)) 3 4 (F 12 4)) 3 5 (F 12 5)) 3 6 (F 12 6)) (uA (uA (uA (uA A 4 (sm_cpy (A 13) (A 4) 0 0 12)) 5 (sm_cpy (A 14) (A 5) 0 0 12)) 6 (sm_cpy (A 15) (A 6) 0 0 12)) 7 (sm_cpy (A 16) (A 7) 0 0 12)) L)) rfl ?_
  refine w_ac (ks := 17) (kd := 8) (u := (A 17)) (g := (A 8)) (hp1 := (hz (uF (uF (uF (uF (uF (uF (uF F 3 0 (F 12 0)) 3 1 (F 12 1)) 3 2 (F 12 2)) 3 3 (F 12 3)) 3 4 (F 12 4)) 3 5 (F 12 5)) 3 6 (F 12 6)) (uA (uA (uA (uA (uA A 4 (sm_cpy (A 13) (A 4) 0 0 12)) 5 (sm_cpy (A 14) (A 5) 0 0 12)) 6 (sm_cpy (A 15) (A 6) 0 0 12)) 7 (sm_cpy (A 16) (A 7) 0 0 12)) 8 (sm_cpy (A 17) (A 8) 0 0 12)) L)) rfl rfl rfl rfl (hz_s8 _) (fun _ => ?_)
  refine w_n 7 (pc1 := 143) (ls1 := [some (.ref 3), some (.ref 12)]) (st1 := [.int 12, .int 0, .ref 9, .int 0, .ref 18]) (hp1 := (hz (uF (uF (uF (uF (uF (uF (uF F 3 0 (F 12 0)) 3 1 (F 12 1)) 3 2 (F 12 2)) 3 3 (F 12 3)) 3 4 (F 12 4)) 3 5 (F 12 5)) 3 6 (F 12 6)) (uA (uA (uA (uA (uA A 4 (sm_cpy (A 13) (A 4) 0 0 12)) 5 (sm_cpy (A 14) (A 5) 0 0 12)) 6 (sm_cpy (A 15) (A 6) 0 0 12)) 7 (sm_cpy (A 16) (A 7) 0 0 12)) 8 (sm_cpy (A 17) (A 8) 0 0 12)) L)) rfl ?_
  refine w_ac (ks := 18) (kd := 9) (u := (A 18)) (g := (A 9)) (hp1 := (hz (uF (uF (uF (uF (uF (uF (uF F 3 0 (F 12 0)) 3 1 (F 12 1)) 3 2 (F 12 2)) 3 3 (F 12 3)) 3 4 (F 12 4)) 3 5 (F 12 5)) 3 6 (F 12 6)) (uA (uA (uA (uA (uA (uA A 4 (sm_cpy (A 13) (A 4) 0 0 12)) 5 (sm_cpy (A 14) (A 5) 0 0 12)) 6 (sm_cpy (A 15) (A 6) 0 0 12)) 7 (sm_cpy (A 16) (A 7) 0 0 12)) 8 (sm_cpy (A 17) (A 8) 0 0 12)) 9 (sm_cpy (A 18) (A 9) 0 0 12)) L)) rfl rfl rfl rfl (hz_s9 _) (fun _ => ?_)
  refine w_n 7 (pc1 := 158) (ls1 := [some (.ref 3), some (.ref 12)]) (st1 := [.int 12, .int 0, .ref 10, .int 0, .ref 19]) (hp1 := (hz (uF (uF (uF (uF (uF (uF (uF F 3 0 (F 12 0)) 3 1 (F 12 1)) 3 2 (F 12 2)) 3 3 (F 12 3)) 3 4 (F 12 4)) 3 5 (F 12 5)) 3 6 (F 12 6)) (uA (uA (uA (uA (uA (uA A 4 (sm_cpy (A 13) (A 4) 0 0 12)) 5 (sm_cpy (A 14) (A 5) 0 0 12)) 6 (sm_cpy (A 15) (A 6) 0 0 12)) 7 (sm_cpy (A 16) (A 7) 0 0 12)) 8 (sm_cpy (A 17) (A 8) 0 0 12)) 9 (sm_cpy (A 18) (A 9) 0 0 12)) L)) rfl ?_
  refine w_ac (ks := 19) (kd := 10) (u := (A 19)) (g := (A 10)) (hp1 := (hz (uF (uF (uF (uF (uF (uF (uF F 3 0 (F 12 0)) 3 1 (F 12 1)) 3 2 (F 12 2)) 3 3 (F 12 3)) 3 4 (F 12 4)) 3 5 (F 12 5)) 3 6 (F 12 6)) (uA (uA (uA (uA (uA (uA (uA A 4 (sm_cpy (A 13) (A 4) 0 0 12)) 5 (sm_cpy (A 14) (A 5) 0 0 12)) 6 (sm_cpy (A 15) (A 6) 0 0 12)) 7 (sm_cpy (A 16) (A 7) 0 0 12)) 8 (sm_cpy (A 17) (A 8) 0 0 12)) 9 (sm_cpy (A 18) (A 9) 0 0 12)) 10 (sm_cpy (A 19) (A 10) 0 0 12)) L)) rfl rfl rfl rfl (hz_s10 _) (fun _ => ?_)
  refine w_n 7 (pc1 := 173) (ls1 := [some (.ref 3), some (.ref 12)]) (st1 := [.int 12, .int 0, .ref 11, .int 0, .ref 20]) (hp1 := (hz (uF (uF (uF (uF (uF (uF (uF F 3 0 (F 12 0)) 3 1 (F 12 1)) 3 2 (F 12 2)) 3 3 (F 12 3)) 3 4 (F 12 4)) 3 5 (F 12 5)) 3 6 (F 12 6)) (uA (uA (uA (uA (uA (uA (uA A 4 (sm_cpy (A 13) (A 4) 0 0 12)) 5 (sm_cpy (A 14) (A 5) 0 0 12)) 6 (sm_cpy (A 15) (A 6) 0 0 12)) 7 (sm_cpy (A 16) (A 7) 0 0 12)) 8 (sm_cpy (A 17) (A 8) 0 0 12)) 9 (sm_cpy (A 18) (A 9) 0 0 12)) 10 (sm_cpy (A 19) (A 10) 0 0 12)) L)) rfl ?_
  refine w_acl (ks := 20) (kd := 11) (u := (L 20)) (g := (L 11)) (hp1 := (hz (uF (uF (uF (uF (uF (uF (uF F 3 0 (F 12 0)) 3 1 (F 12 1)) 3 2 (F 12 2)) 3 3 (F 12 3)) 3 4 (F 12 4)) 3 5 (F 12 5)) 3 6 (F 12 6)) (uA (uA (uA (uA (uA (uA (uA A 4 (sm_cpy (A 13) (A 4) 0 0 12)) 5 (sm_cpy (A 14) (A 5) 0 0 12)) 6 (sm_cpy (A 15) (A 6) 0 0 12)) 7 (sm_cpy (A 16) (A 7) 0 0 12)) 8 (sm_cpy (A 17) (A 8) 0 0 12)) 9 (sm_cpy (A 18) (A 9) 0 0 12)) 10 (sm_cpy (A 19) (A 10) 0 0 12)) (uL L 11 (sm_cpy (L 20) (L 11) 0 0 12)))) rfl rfl rfl rfl (hz_s11 _) (fun _ => ?_)
  subst T
  exact w_r rfl rfl (cvQ rfl rfl rfl K)
noncomputable def kc_undo (f0_11 : Int32) (f3_0 : Int32) (f3_1 : Int32) (f3_2 : Int32) (f3_3 : Int32) (f3_4 : Int32) (f3_5 : Int32) (f3_6 : Int32) (f12_0 : Int32) (f12_1 : Int32) (f12_2 : Int32) (f12_3 : Int32) (f12_4 : Int32) (f12_5 : Int32) (f12_6 : Int32) (a4 : List Int32) (a5 : List Int32) (a6 : List Int32) (a7 : List Int32) (a8 : List Int32) (a9 : List Int32) (a10 : List Int32) (a13 : List Int32) (a14 : List Int32) (a15 : List Int32) (a16 : List Int32) (a17 : List Int32) (a18 : List Int32) (a19 : List Int32) (l11 : List Int64) (l20 : List Int64) : Int32 × Int32 × Int32 × Int32 × Int32 × Int32 × Int32 × Int32 × List Int32 × List Int32 × List Int32 × List Int32 × List Int32 × List Int32 × List Int32 × List Int64 := (if f0_11 = 0 then (0, f3_0, f3_1, f3_2, f3_3, f3_4, f3_5, f3_6, a4, a5, a6, a7, a8, a9, a10, l11) else (1, (kt_copyFrom_3_12 f12_0 f12_1 f12_2 f12_3 f12_4 f12_5 f12_6 a4 a5 a6 a7 a8 a9 a10 a13 a14 a15 a16 a17 a18 a19 l11 l20).1, (kt_copyFrom_3_12 f12_0 f12_1 f12_2 f12_3 f12_4 f12_5 f12_6 a4 a5 a6 a7 a8 a9 a10 a13 a14 a15 a16 a17 a18 a19 l11 l20).2.1, (kt_copyFrom_3_12 f12_0 f12_1 f12_2 f12_3 f12_4 f12_5 f12_6 a4 a5 a6 a7 a8 a9 a10 a13 a14 a15 a16 a17 a18 a19 l11 l20).2.2.1, (kt_copyFrom_3_12 f12_0 f12_1 f12_2 f12_3 f12_4 f12_5 f12_6 a4 a5 a6 a7 a8 a9 a10 a13 a14 a15 a16 a17 a18 a19 l11 l20).2.2.2.1, (kt_copyFrom_3_12 f12_0 f12_1 f12_2 f12_3 f12_4 f12_5 f12_6 a4 a5 a6 a7 a8 a9 a10 a13 a14 a15 a16 a17 a18 a19 l11 l20).2.2.2.2.1, (kt_copyFrom_3_12 f12_0 f12_1 f12_2 f12_3 f12_4 f12_5 f12_6 a4 a5 a6 a7 a8 a9 a10 a13 a14 a15 a16 a17 a18 a19 l11 l20).2.2.2.2.2.1, (kt_copyFrom_3_12 f12_0 f12_1 f12_2 f12_3 f12_4 f12_5 f12_6 a4 a5 a6 a7 a8 a9 a10 a13 a14 a15 a16 a17 a18 a19 l11 l20).2.2.2.2.2.2.1, (kt_copyFrom_3_12 f12_0 f12_1 f12_2 f12_3 f12_4 f12_5 f12_6 a4 a5 a6 a7 a8 a9 a10 a13 a14 a15 a16 a17 a18 a19 l11 l20).2.2.2.2.2.2.2.1, (kt_copyFrom_3_12 f12_0 f12_1 f12_2 f12_3 f12_4 f12_5 f12_6 a4 a5 a6 a7 a8 a9 a10 a13 a14 a15 a16 a17 a18 a19 l11 l20).2.2.2.2.2.2.2.2.1, (kt_copyFrom_3_12 f12_0 f12_1 f12_2 f12_3 f12_4 f12_5 f12_6 a4 a5 a6 a7 a8 a9 a10 a13 a14 a15 a16 a17 a18 a19 l11 l20).2.2.2.2.2.2.2.2.2.1, (kt_copyFrom_3_12 f12_0 f12_1 f12_2 f12_3 f12_4 f12_5 f12_6 a4 a5 a6 a7 a8 a9 a10 a13 a14 a15 a16 a17 a18 a19 l11 l20).2.2.2.2.2.2.2.2.2.2.1, (kt_copyFrom_3_12 f12_0 f12_1 f12_2 f12_3 f12_4 f12_5 f12_6 a4 a5 a6 a7 a8 a9 a10 a13 a14 a15 a16 a17 a18 a19 l11 l20).2.2.2.2.2.2.2.2.2.2.2.1, (kt_copyFrom_3_12 f12_0 f12_1 f12_2 f12_3 f12_4 f12_5 f12_6 a4 a5 a6 a7 a8 a9 a10 a13 a14 a15 a16 a17 a18 a19 l11 l20).2.2.2.2.2.2.2.2.2.2.2.2.1, (kt_copyFrom_3_12 f12_0 f12_1 f12_2 f12_3 f12_4 f12_5 f12_6 a4 a5 a6 a7 a8 a9 a10 a13 a14 a15 a16 a17 a18 a19 l11 l20).2.2.2.2.2.2.2.2.2.2.2.2.2.1, (kt_copyFrom_3_12 f12_0 f12_1 f12_2 f12_3 f12_4 f12_5 f12_6 a4 a5 a6 a7 a8 a9 a10 a13 a14 a15 a16 a17 a18 a19 l11 l20).2.2.2.2.2.2.2.2.2.2.2.2.2.2))
theorem t_kc_undo {f D : Nat} {F : Nat → Nat → Int32} {A : Nat → List Int32} {L : Nat → List Int64} {Q : Option Value → sm_H → Prop} (K : Q (some (.int ((kc_undo (F 0 11) (F 3 0) (F 3 1) (F 3 2) (F 3 3) (F 3 4) (F 3 5) (F 3 6) (F 12 0) (F 12 1) (F 12 2) (F 12 3) (F 12 4) (F 12 5) (F 12 6) (A 4) (A 5) (A 6) (A 7) (A 8) (A 9) (A 10) (A 13) (A 14) (A 15) (A 16) (A 17) (A 18) (A 19) (L 11) (L 20)).1))) (hz (uF (uF (uF (uF (uF (uF (uF F 3 0 ((kc_undo (F 0 11) (F 3 0) (F 3 1) (F 3 2) (F 3 3) (F 3 4) (F 3 5) (F 3 6) (F 12 0) (F 12 1) (F 12 2) (F 12 3) (F 12 4) (F 12 5) (F 12 6) (A 4) (A 5) (A 6) (A 7) (A 8) (A 9) (A 10) (A 13) (A 14) (A 15) (A 16) (A 17) (A 18) (A 19) (L 11) (L 20)).2.1)) 3 1 ((kc_undo (F 0 11) (F 3 0) (F 3 1) (F 3 2) (F 3 3) (F 3 4) (F 3 5) (F 3 6) (F 12 0) (F 12 1) (F 12 2) (F 12 3) (F 12 4) (F 12 5) (F 12 6) (A 4) (A 5) (A 6) (A 7) (A 8) (A 9) (A 10) (A 13) (A 14) (A 15) (A 16) (A 17) (A 18) (A 19) (L 11) (L 20)).2.2.1)) 3 2 ((kc_undo (F 0 11) (F 3 0) (F 3 1) (F 3 2) (F 3 3) (F 3 4) (F 3 5) (F 3 6) (F 12 0) (F 12 1) (F 12 2) (F 12 3) (F 12 4) (F 12 5) (F 12 6) (A 4) (A 5) (A 6) (A 7) (A 8) (A 9) (A 10) (A 13) (A 14) (A 15) (A 16) (A 17) (A 18) (A 19) (L 11) (L 20)).2.2.2.1)) 3 3 ((kc_undo (F 0 11) (F 3 0) (F 3 1) (F 3 2) (F 3 3) (F 3 4) (F 3 5) (F 3 6) (F 12 0) (F 12 1) (F 12 2) (F 12 3) (F 12 4) (F 12 5) (F 12 6) (A 4) (A 5) (A 6) (A 7) (A 8) (A 9) (A 10) (A 13) (A 14) (A 15) (A 16) (A 17) (A 18) (A 19) (L 11) (L 20)).2.2.2.2.1)) 3 4 ((kc_undo (F 0 11) (F 3 0) (F 3 1) (F 3 2) (F 3 3) (F 3 4) (F 3 5) (F 3 6) (F 12 0) (F 12 1) (F 12 2) (F 12 3) (F 12 4) (F 12 5) (F 12 6) (A 4) (A 5) (A 6) (A 7) (A 8) (A 9) (A 10) (A 13) (A 14) (A 15) (A 16) (A 17) (A 18) (A 19) (L 11) (L 20)).2.2.2.2.2.1)) 3 5 ((kc_undo (F 0 11) (F 3 0) (F 3 1) (F 3 2) (F 3 3) (F 3 4) (F 3 5) (F 3 6) (F 12 0) (F 12 1) (F 12 2) (F 12 3) (F 12 4) (F 12 5) (F 12 6) (A 4) (A 5) (A 6) (A 7) (A 8) (A 9) (A 10) (A 13) (A 14) (A 15) (A 16) (A 17) (A 18) (A 19) (L 11) (L 20)).2.2.2.2.2.2.1)) 3 6 ((kc_undo (F 0 11) (F 3 0) (F 3 1) (F 3 2) (F 3 3) (F 3 4) (F 3 5) (F 3 6) (F 12 0) (F 12 1) (F 12 2) (F 12 3) (F 12 4) (F 12 5) (F 12 6) (A 4) (A 5) (A 6) (A 7) (A 8) (A 9) (A 10) (A 13) (A 14) (A 15) (A 16) (A 17) (A 18) (A 19) (L 11) (L 20)).2.2.2.2.2.2.2.1)) (uA (uA (uA (uA (uA (uA (uA A 4 ((kc_undo (F 0 11) (F 3 0) (F 3 1) (F 3 2) (F 3 3) (F 3 4) (F 3 5) (F 3 6) (F 12 0) (F 12 1) (F 12 2) (F 12 3) (F 12 4) (F 12 5) (F 12 6) (A 4) (A 5) (A 6) (A 7) (A 8) (A 9) (A 10) (A 13) (A 14) (A 15) (A 16) (A 17) (A 18) (A 19) (L 11) (L 20)).2.2.2.2.2.2.2.2.1)) 5 ((kc_undo (F 0 11) (F 3 0) (F 3 1) (F 3 2) (F 3 3) (F 3 4) (F 3 5) (F 3 6) (F 12 0) (F 12 1) (F 12 2) (F 12 3) (F 12 4) (F 12 5) (F 12 6) (A 4) (A 5) (A 6) (A 7) (A 8) (A 9) (A 10) (A 13) (A 14) (A 15) (A 16) (A 17) (A 18) (A 19) (L 11) (L 20)).2.2.2.2.2.2.2.2.2.1)) 6 ((kc_undo (F 0 11) (F 3 0) (F 3 1) (F 3 2) (F 3 3) (F 3 4) (F 3 5) (F 3 6) (F 12 0) (F 12 1) (F 12 2) (F 12 3) (F 12 4) (F 12 5) (F 12 6) (A 4) (A 5) (A 6) (A 7) (A 8) (A 9) (A 10) (A 13) (A 14) (A 15) (A 16) (A 17) (A 18) (A 19) (L 11) (L 20)).2.2.2.2.2.2.2.2.2.2.1)) 7 ((kc_undo (F 0 11) (F 3 0) (F 3 1) (F 3 2) (F 3 3) (F 3 4) (F 3 5) (F 3 6) (F 12 0) (F 12 1) (F 12 2) (F 12 3) (F 12 4) (F 12 5) (F 12 6) (A 4) (A 5) (A 6) (A 7) (A 8) (A 9) (A 10) (A 13) (A 14) (A 15) (A 16) (A 17) (A 18) (A 19) (L 11) (L 20)).2.2.2.2.2.2.2.2.2.2.2.1)) 8 ((kc_undo (F 0 11) (F 3 0) (F 3 1) (F 3 2) (F 3 3) (F 3 4) (F 3 5) (F 3 6) (F 12 0) (F 12 1) (F 12 2) (F 12 3) (F 12 4) (F 12 5) (F 12 6) (A 4) (A 5) (A 6) (A 7) (A 8) (A 9) (A 10) (A 13) (A 14) (A 15) (A 16) (A 17) (A 18) (A 19) (L 11) (L 20)).2.2.2.2.2.2.2.2.2.2.2.2.1)) 9 ((kc_undo (F 0 11) (F 3 0) (F 3 1) (F 3 2) (F 3 3) (F 3 4) (F 3 5) (F 3 6) (F 12 0) (F 12 1) (F 12 2) (F 12 3) (F 12 4) (F 12 5) (F 12 6) (A 4) (A 5) (A 6) (A 7) (A 8) (A 9) (A 10) (A 13) (A 14) (A 15) (A 16) (A 17) (A 18) (A 19) (L 11) (L 20)).2.2.2.2.2.2.2.2.2.2.2.2.2.1)) 10 ((kc_undo (F 0 11) (F 3 0) (F 3 1) (F 3 2) (F 3 3) (F 3 4) (F 3 5) (F 3 6) (F 12 0) (F 12 1) (F 12 2) (F 12 3) (F 12 4) (F 12 5) (F 12 6) (A 4) (A 5) (A 6) (A 7) (A 8) (A 9) (A 10) (A 13) (A 14) (A 15) (A 16) (A 17) (A 18) (A 19) (L 11) (L 20)).2.2.2.2.2.2.2.2.2.2.2.2.2.2.1)) (uL L 11 ((kc_undo (F 0 11) (F 3 0) (F 3 1) (F 3 2) (F 3 3) (F 3 4) (F 3 5) (F 3 6) (F 12 0) (F 12 1) (F 12 2) (F 12 3) (F 12 4) (F 12 5) (F 12 6) (A 4) (A 5) (A 6) (A 7) (A 8) (A 9) (A 10) (A 13) (A 14) (A 15) (A 16) (A 17) (A 18) (A 19) (L 11) (L 20)).2.2.2.2.2.2.2.2.2.2.2.2.2.2.2)))) : wl_M f D 136 [.ref 0] (hz F A L) Q := by
  generalize hT : (kc_undo (F 0 11) (F 3 0) (F 3 1) (F 3 2) (F 3 3) (F 3 4) (F 3 5) (F 3 6) (F 12 0) (F 12 1) (F 12 2) (F 12 3) (F 12 4) (F 12 5) (F 12 6) (A 4) (A 5) (A 6) (A 7) (A 8) (A 9) (A 10) (A 13) (A 14) (A 15) (A 16) (A 17) (A 18) (A 19) (L 11) (L 20)) = T at K
  have hE : T = (if (F 0 11) = 0 then (0, (F 3 0), (F 3 1), (F 3 2), (F 3 3), (F 3 4), (F 3 5), (F 3 6), (A 4), (A 5), (A 6), (A 7), (A 8), (A 9), (A 10), (L 11)) else (1, (kt_copyFrom_3_12 (F 12 0) (F 12 1) (F 12 2) (F 12 3) (F 12 4) (F 12 5) (F 12 6) (A 4) (A 5) (A 6) (A 7) (A 8) (A 9) (A 10) (A 13) (A 14) (A 15) (A 16) (A 17) (A 18) (A 19) (L 11) (L 20)).1, (kt_copyFrom_3_12 (F 12 0) (F 12 1) (F 12 2) (F 12 3) (F 12 4) (F 12 5) (F 12 6) (A 4) (A 5) (A 6) (A 7) (A 8) (A 9) (A 10) (A 13) (A 14) (A 15) (A 16) (A 17) (A 18) (A 19) (L 11) (L 20)).2.1, (kt_copyFrom_3_12 (F 12 0) (F 12 1) (F 12 2) (F 12 3) (F 12 4) (F 12 5) (F 12 6) (A 4) (A 5) (A 6) (A 7) (A 8) (A 9) (A 10) (A 13) (A 14) (A 15) (A 16) (A 17) (A 18) (A 19) (L 11) (L 20)).2.2.1, (kt_copyFrom_3_12 (F 12 0) (F 12 1) (F 12 2) (F 12 3) (F 12 4) (F 12 5) (F 12 6) (A 4) (A 5) (A 6) (A 7) (A 8) (A 9) (A 10) (A 13) (A 14) (A 15) (A 16) (A 17) (A 18) (A 19) (L 11) (L 20)).2.2.2.1, (kt_copyFrom_3_12 (F 12 0) (F 12 1) (F 12 2) (F 12 3) (F 12 4) (F 12 5) (F 12 6) (A 4) (A 5) (A 6) (A 7) (A 8) (A 9) (A 10) (A 13) (A 14) (A 15) (A 16) (A 17) (A 18) (A 19) (L 11) (L 20)).2.2.2.2.1, (kt_copyFrom_3_12 (F 12 0) (F 12 1) (F 12 2) (F 12 3) (F 12 4) (F 12 5) (F 12 6) (A 4) (A 5) (A 6) (A 7) (A 8) (A 9) (A 10) (A 13) (A 14) (A 15) (A 16) (A 17) (A 18) (A 19) (L 11) (L 20)).2.2.2.2.2.1, (kt_copyFrom_3_12 (F 12 0) (F 12 1) (F 12 2) (F 12 3) (F 12 4) (F 12 5) (F 12 6) (A 4) (A 5) (A 6) (A 7) (A 8) (A 9) (A 10) (A 13) (A 14) (A 15) (A 16) (A 17) (A 18) (A 19) (L 11) (L 20)).2.2.2.2.2.2.1, (kt_copyFrom_3_12 (F 12 0) (F 12 1) (F 12 2) (F 12 3) (F 12 4) (F 12 5) (F 12 6) (A 4) (A 5) (A 6) (A 7) (A 8) (A 9) (A 10) (A 13) (A 14) (A 15) (A 16) (A 17) (A 18) (A 19) (L 11) (L 20)).2.2.2.2.2.2.2.1, (kt_copyFrom_3_12 (F 12 0) (F 12 1) (F 12 2) (F 12 3) (F 12 4) (F 12 5) (F 12 6) (A 4) (A 5) (A 6) (A 7) (A 8) (A 9) (A 10) (A 13) (A 14) (A 15) (A 16) (A 17) (A 18) (A 19) (L 11) (L 20)).2.2.2.2.2.2.2.2.1, (kt_copyFrom_3_12 (F 12 0) (F 12 1) (F 12 2) (F 12 3) (F 12 4) (F 12 5) (F 12 6) (A 4) (A 5) (A 6) (A 7) (A 8) (A 9) (A 10) (A 13) (A 14) (A 15) (A 16) (A 17) (A 18) (A 19) (L 11) (L 20)).2.2.2.2.2.2.2.2.2.1, (kt_copyFrom_3_12 (F 12 0) (F 12 1) (F 12 2) (F 12 3) (F 12 4) (F 12 5) (F 12 6) (A 4) (A 5) (A 6) (A 7) (A 8) (A 9) (A 10) (A 13) (A 14) (A 15) (A 16) (A 17) (A 18) (A 19) (L 11) (L 20)).2.2.2.2.2.2.2.2.2.2.1, (kt_copyFrom_3_12 (F 12 0) (F 12 1) (F 12 2) (F 12 3) (F 12 4) (F 12 5) (F 12 6) (A 4) (A 5) (A 6) (A 7) (A 8) (A 9) (A 10) (A 13) (A 14) (A 15) (A 16) (A 17) (A 18) (A 19) (L 11) (L 20)).2.2.2.2.2.2.2.2.2.2.2.1, (kt_copyFrom_3_12 (F 12 0) (F 12 1) (F 12 2) (F 12 3) (F 12 4) (F 12 5) (F 12 6) (A 4) (A 5) (A 6) (A 7) (A 8) (A 9) (A 10) (A 13) (A 14) (A 15) (A 16) (A 17) (A 18) (A 19) (L 11) (L 20)).2.2.2.2.2.2.2.2.2.2.2.2.1, (kt_copyFrom_3_12 (F 12 0) (F 12 1) (F 12 2) (F 12 3) (F 12 4) (F 12 5) (F 12 6) (A 4) (A 5) (A 6) (A 7) (A 8) (A 9) (A 10) (A 13) (A 14) (A 15) (A 16) (A 17) (A 18) (A 19) (L 11) (L 20)).2.2.2.2.2.2.2.2.2.2.2.2.2.1, (kt_copyFrom_3_12 (F 12 0) (F 12 1) (F 12 2) (F 12 3) (F 12 4) (F 12 5) (F 12 6) (A 4) (A 5) (A 6) (A 7) (A 8) (A 9) (A 10) (A 13) (A 14) (A 15) (A 16) (A 17) (A 18) (A 19) (L 11) (L 20)).2.2.2.2.2.2.2.2.2.2.2.2.2.2)) := hT.symm
  clear hT
  refine w_m (E := mm136) rfl ?_
  show wl_E f f (D - 1) mm136.2.2.2.2.2.2.2.2 0 [some (.ref 0)] [] (hz F A L) Q
  refine w_n 2 (pc1 := 4) (ls1 := [some (.ref 0)]) (st1 := [.int (F 0 11)]) (hp1 := (hz F A L)) rfl ?_
  refine w_zne (p3 := 7) rfl rfl (fun h => ?_) (fun h => ?_)
  · have h1 : ¬ (F 0 11) = 0 := h
    rw [if_neg h1] at hE
    refine w_n 4 (pc1 := 17) (ls1 := [some (.ref 0)]) (st1 := [.ref 12, .ref 3]) (hp1 := (hz F A L)) rfl ?_
    refine w_c rfl rfl (t_kt_copyFrom_3_12 ?_)
    show wl_E f _ _ mm136.2.2.2.2.2.2.2.2 20 [some (.ref 0)] [] (hz (uF (uF (uF (uF (uF (uF (uF F 3 0 (kt_copyFrom_3_12 (F 12 0) (F 12 1) (F 12 2) (F 12 3) (F 12 4) (F 12 5) (F 12 6) (A 4) (A 5) (A 6) (A 7) (A 8) (A 9) (A 10) (A 13) (A 14) (A 15) (A 16) (A 17) (A 18) (A 19) (L 11) (L 20)).1) 3 1 (kt_copyFrom_3_12 (F 12 0) (F 12 1) (F 12 2) (F 12 3) (F 12 4) (F 12 5) (F 12 6) (A 4) (A 5) (A 6) (A 7) (A 8) (A 9) (A 10) (A 13) (A 14) (A 15) (A 16) (A 17) (A 18) (A 19) (L 11) (L 20)).2.1) 3 2 (kt_copyFrom_3_12 (F 12 0) (F 12 1) (F 12 2) (F 12 3) (F 12 4) (F 12 5) (F 12 6) (A 4) (A 5) (A 6) (A 7) (A 8) (A 9) (A 10) (A 13) (A 14) (A 15) (A 16) (A 17) (A 18) (A 19) (L 11) (L 20)).2.2.1) 3 3 (kt_copyFrom_3_12 (F 12 0) (F 12 1) (F 12 2) (F 12 3) (F 12 4) (F 12 5) (F 12 6) (A 4) (A 5) (A 6) (A 7) (A 8) (A 9) (A 10) (A 13) (A 14) (A 15) (A 16) (A 17) (A 18) (A 19) (L 11) (L 20)).2.2.2.1) 3 4 (kt_copyFrom_3_12 (F 12 0) (F 12 1) (F 12 2) (F 12 3) (F 12 4) (F 12 5) (F 12 6) (A 4) (A 5) (A 6) (A 7) (A 8) (A 9) (A 10) (A 13) (A 14) (A 15) (A 16) (A 17) (A 18) (A 19) (L 11) (L 20)).2.2.2.2.1) 3 5 (kt_copyFrom_3_12 (F 12 0) (F 12 1) (F 12 2) (F 12 3) (F 12 4) (F 12 5) (F 12 6) (A 4) (A 5) (A 6) (A 7) (A 8) (A 9) (A 10) (A 13) (A 14) (A 15) (A 16) (A 17) (A 18) (A 19) (L 11) (L 20)).2.2.2.2.2.1) 3 6 (kt_copyFrom_3_12 (F 12 0) (F 12 1) (F 12 2) (F 12 3) (F 12 4) (F 12 5) (F 12 6) (A 4) (A 5) (A 6) (A 7) (A 8) (A 9) (A 10) (A 13) (A 14) (A 15) (A 16) (A 17) (A 18) (A 19) (L 11) (L 20)).2.2.2.2.2.2.1) (uA (uA (uA (uA (uA (uA (uA A 4 (kt_copyFrom_3_12 (F 12 0) (F 12 1) (F 12 2) (F 12 3) (F 12 4) (F 12 5) (F 12 6) (A 4) (A 5) (A 6) (A 7) (A 8) (A 9) (A 10) (A 13) (A 14) (A 15) (A 16) (A 17) (A 18) (A 19) (L 11) (L 20)).2.2.2.2.2.2.2.1) 5 (kt_copyFrom_3_12 (F 12 0) (F 12 1) (F 12 2) (F 12 3) (F 12 4) (F 12 5) (F 12 6) (A 4) (A 5) (A 6) (A 7) (A 8) (A 9) (A 10) (A 13) (A 14) (A 15) (A 16) (A 17) (A 18) (A 19) (L 11) (L 20)).2.2.2.2.2.2.2.2.1) 6 (kt_copyFrom_3_12 (F 12 0) (F 12 1) (F 12 2) (F 12 3) (F 12 4) (F 12 5) (F 12 6) (A 4) (A 5) (A 6) (A 7) (A 8) (A 9) (A 10) (A 13) (A 14) (A 15) (A 16) (A 17) (A 18) (A 19) (L 11) (L 20)).2.2.2.2.2.2.2.2.2.1) 7 (kt_copyFrom_3_12 (F 12 0) (F 12 1) (F 12 2) (F 12 3) (F 12 4) (F 12 5) (F 12 6) (A 4) (A 5) (A 6) (A 7) (A 8) (A 9) (A 10) (A 13) (A 14) (A 15) (A 16) (A 17) (A 18) (A 19) (L 11) (L 20)).2.2.2.2.2.2.2.2.2.2.1) 8 (kt_copyFrom_3_12 (F 12 0) (F 12 1) (F 12 2) (F 12 3) (F 12 4) (F 12 5) (F 12 6) (A 4) (A 5) (A 6) (A 7) (A 8) (A 9) (A 10) (A 13) (A 14) (A 15) (A 16) (A 17) (A 18) (A 19) (L 11) (L 20)).2.2.2.2.2.2.2.2.2.2.2.1) 9 (kt_copyFrom_3_12 (F 12 0) (F 12 1) (F 12 2) (F 12 3) (F 12 4) (F 12 5) (F 12 6) (A 4) (A 5) (A 6) (A 7) (A 8) (A 9) (A 10) (A 13) (A 14) (A 15) (A 16) (A 17) (A 18) (A 19) (L 11) (L 20)).2.2.2.2.2.2.2.2.2.2.2.2.1) 10 (kt_copyFrom_3_12 (F 12 0) (F 12 1) (F 12 2) (F 12 3) (F 12 4) (F 12 5) (F 12 6) (A 4) (A 5) (A 6) (A 7) (A 8) (A 9) (A 10) (A 13) (A 14) (A 15) (A 16) (A 17) (A 18) (A 19) (L 11) (L 20)).2.2.2.2.2.2.2.2.2.2.2.2.2.1) (uL L 11 (kt_copyFrom_3_12 (F 12 0) (F 12 1) (F 12 2) (F 12 3) (F 12 4) (F 12 5) (F 12 6) (A 4) (A 5) (A 6) (A 7) (A 8) (A 9) (A 10) (A 13) (A 14) (A 15) (A 16) (A 17) (A 18) (A 19) (L 11) (L 20)).2.2.2.2.2.2.2.2.2.2.2.2.2.2)) _
    generalize hG40 : (kt_copyFrom_3_12 (F 12 0) (F 12 1) (F 12 2) (F 12 3) (F 12 4) (F 12 5) (F 12 6) (A 4) (A 5) (A 6) (A 7) (A 8) (A 9) (A 10) (A 13) (A 14) (A 15) (A 16) (A 17) (A 18) (A 19) (L 11) (L 20)) = G40 at hE ⊢
    refine w_n 1 (pc1 := 21) (ls1 := [some (.ref 0)]) (st1 := [.int 1]) (hp1 := (hz (uF (uF (uF (uF (uF (uF (uF F 3 0 G40.1) 3 1 G40.2.1) 3 2 G40.2.2.1) 3 3 G40.2.2.2.1) 3 4 G40.2.2.2.2.1) 3 5 G40.2.2.2.2.2.1) 3 6 G40.2.2.2.2.2.2.1) (uA (uA (uA (uA (uA (uA (uA A 4 G40.2.2.2.2.2.2.2.1) 5 G40.2.2.2.2.2.2.2.2.1) 6 G40.2.2.2.2.2.2.2.2.2.1) 7 G40.2.2.2.2.2.2.2.2.2.2.1) 8 G40.2.2.2.2.2.2.2.2.2.2.2.1) 9 G40.2.2.2.2.2.2.2.2.2.2.2.2.1) 10 G40.2.2.2.2.2.2.2.2.2.2.2.2.2.1) (uL L 11 G40.2.2.2.2.2.2.2.2.2.2.2.2.2.2))) rfl ?_
    subst T
    exact w_ri rfl (cvQ rfl rfl rfl K)
  · have h1 : (F 0 11) = 0 := h
    rw [if_pos h1] at hE
    refine w_n 1 (pc1 := 8) (ls1 := [some (.ref 0)]) (st1 := [.int 0]) (hp1 := (hz F A L)) rfl ?_
    subst T
    exact w_ri rfl (cvQ (funext fun q => funext fun z => if k0 : q = 3 ∧ z = 0 then by obtain ⟨w1, w2⟩ := k0; subst w1; subst w2; exact Eq.trans (b := (F 3 0)) rfl rfl else if k1 : q = 3 ∧ z = 1 then by obtain ⟨w1, w2⟩ := k1; subst w1; subst w2; exact Eq.trans (b := (F 3 1)) rfl rfl else if k2 : q = 3 ∧ z = 2 then by obtain ⟨w1, w2⟩ := k2; subst w1; subst w2; exact Eq.trans (b := (F 3 2)) rfl rfl else if k3 : q = 3 ∧ z = 3 then by obtain ⟨w1, w2⟩ := k3; subst w1; subst w2; exact Eq.trans (b := (F 3 3)) rfl rfl else if k4 : q = 3 ∧ z = 4 then by obtain ⟨w1, w2⟩ := k4; subst w1; subst w2; exact Eq.trans (b := (F 3 4)) rfl rfl else if k5 : q = 3 ∧ z = 5 then by obtain ⟨w1, w2⟩ := k5; subst w1; subst w2; exact Eq.trans (b := (F 3 5)) rfl rfl else if k6 : q = 3 ∧ z = 6 then by obtain ⟨w1, w2⟩ := k6; subst w1; subst w2; exact Eq.trans (b := (F 3 6)) rfl rfl else by unfold uF; simp only [nb2 k0, nb2 k1, nb2 k2, nb2 k3, nb2 k4, nb2 k5, nb2 k6, cond_false]) (funext fun q => if k0 : q = 4 then by subst k0; exact Eq.trans (b := (A 4)) rfl rfl else if k1 : q = 5 then by subst k1; exact Eq.trans (b := (A 5)) rfl rfl else if k2 : q = 6 then by subst k2; exact Eq.trans (b := (A 6)) rfl rfl else if k3 : q = 7 then by subst k3; exact Eq.trans (b := (A 7)) rfl rfl else if k4 : q = 8 then by subst k4; exact Eq.trans (b := (A 8)) rfl rfl else if k5 : q = 9 then by subst k5; exact Eq.trans (b := (A 9)) rfl rfl else if k6 : q = 10 then by subst k6; exact Eq.trans (b := (A 10)) rfl rfl else by unfold uA; simp only [nb1 k0, nb1 k1, nb1 k2, nb1 k3, nb1 k4, nb1 k5, nb1 k6, cond_false]) (funext fun q => if k0 : q = 11 then by subst k0; exact Eq.trans (b := (L 11)) rfl rfl else by unfold uL; simp only [nb1 k0, cond_false]) K)
noncomputable def km_copies_70_68_2 (a70 : List Int32)  : Nat → Int32 → List Int32 → List Int32
  | 0, _, a68 => a68
  | m + 1, y2, a68 => (km_copies_70_68_2 a70 m (y2 + 1) (a68.set y2.toInt.toNat (a70.getD y2.toInt.toNat 0)))
theorem t_km_copies_70_68_2 {f : Nat} {Q : Option Value → sm_H → Prop} : ∀ (m : Nat) {B D : Nat} {F : Nat → Nat → Int32} {A : Nat → List Int32} {L : Nat → List Int64} {y2 : Int32}, m = (150 - y2.toInt).toNat → (∀ q2 : Int32, wl_E f B D mm199.2.2.2.2.2.2.2.2 21 [some (.ref 70), some (.ref 68), some (.int q2)] [] (hz F (uA A 68 (km_copies_70_68_2 (A 70) m y2 (A 68))) L) Q) → wl_E f B D mm199.2.2.2.2.2.2.2.2 2 [some (.ref 70), some (.ref 68), some (.int y2)] [] (hz F A L) Q := by
  intro m
  induction m with
  | zero =>
    intro B D F A L y2 hm K
    generalize hT : (km_copies_70_68_2 (A 70) 0 y2 (A 68)) = T at K
    have hE : T = (A 68) := hT.symm
    clear hT
    refine w_n 2 (pc1 := 6) (ls1 := [some (.ref 70), some (.ref 68), some (.int y2)]) (st1 := [.int 150, .int y2]) (hp1 := (hz F A L)) rfl ?_
    refine w_ge (p3 := 9) rfl rfl (fun hb => ?_) (fun h => False.elim (by have h : y2.toInt < 150 := h; omega))
    subst T
    exact cvE rfl (funext fun q => if k0 : q = 68 then by subst k0; exact Eq.trans (b := (A 68)) rfl rfl else by unfold uA; simp only [nb1 k0, cond_false]) rfl (K _)
  | succ m ih =>
    intro B D F A L y2 hm K
    generalize hT : (km_copies_70_68_2 (A 70) (m + 1) y2 (A 68)) = T at K
    have hE : T = (km_copies_70_68_2 (A 70) m (y2 + 1) ((A 68).set y2.toInt.toNat ((A 70).getD y2.toInt.toNat 0))) := hT.symm
    clear hT
    refine w_n 2 (pc1 := 6) (ls1 := [some (.ref 70), some (.ref 68), some (.int y2)]) (st1 := [.int 150, .int y2]) (hp1 := (hz F A L)) rfl ?_
    refine w_ge (p3 := 9) rfl rfl (fun h => False.elim (by have h : 150 ≤ y2.toInt := h; omega)) (fun hb => ?_)
    refine w_n 4 (pc1 := 13) (ls1 := [some (.ref 70), some (.ref 68), some (.int y2)]) (st1 := [.int y2, .ref 70, .int y2, .ref 68]) (hp1 := (hz F A L)) rfl ?_
    refine w_al (k := 70) (l := (A 70)) rfl rfl rfl (fun ab => ?_)
    refine w_as (k := 68) (l := (A 68)) (hp1 := (hz F (uA A 68 ((A 68).set y2.toInt.toNat ((A 70).getD y2.toInt.toNat 0))) L)) rfl rfl rfl (hz_s68 _) (fun ab => ?_)
    refine w_n 2 (pc1 := 2) (ls1 := [some (.ref 70), some (.ref 68), some (.int (y2 + 1))]) (st1 := []) (hp1 := (hz F (uA A 68 ((A 68).set y2.toInt.toNat ((A 70).getD y2.toInt.toNat 0))) L)) rfl ?_
    subst T
    have hb2 := i_up (B := (150 : Int32)) hb
    have hb3 : y2.toInt < 150 := hb
    exact ih (show m = (150 - (y2 + 1).toInt).toNat by rw [hb2]; omega) (fun q2 => cvE rfl (funext fun q => if k0 : q = 68 then by subst k0; exact Eq.trans (b := (km_copies_70_68_2 (A 70) m (y2 + 1) ((A 68).set y2.toInt.toNat ((A 70).getD y2.toInt.toNat 0)))) rfl rfl else by unfold uA; simp only [nb1 k0, cond_false]) rfl (K q2))
noncomputable def km_copies_70_68 (a68 : List Int32) (a70 : List Int32) : List Int32 := (km_copies_70_68_2 a70 150 0 a68)
theorem t_km_copies_70_68 {f D : Nat} {F : Nat → Nat → Int32} {A : Nat → List Int32} {L : Nat → List Int64} {Q : Option Value → sm_H → Prop} (K : Q none (hz F (uA A 68 (km_copies_70_68 (A 68) (A 70))) L)) : wl_M f D 199 [.ref 70, .ref 68] (hz F A L) Q := by
  generalize hT : (km_copies_70_68 (A 68) (A 70)) = T at K
  have hE : T = (km_copies_70_68_2 (A 70) 150 0 (A 68)) := hT.symm
  clear hT
  refine w_m (E := mm199) rfl ?_
  show wl_E f f (D - 1) mm199.2.2.2.2.2.2.2.2 0 [some (.ref 70), some (.ref 68), none] [] (hz F A L) Q
  refine w_n 2 (pc1 := 2) (ls1 := [some (.ref 70), some (.ref 68), some (.int 0)]) (st1 := []) (hp1 := (hz F A L)) rfl ?_
  refine t_km_copies_70_68_2 150 (show (150 : Nat) = (150 - (0 : Int32).toInt).toNat by have e0 : (0 : Int32).toInt = 0 := rfl; first | rfl | omega) ?_
  intro r1
  show wl_E f _ _ mm199.2.2.2.2.2.2.2.2 21 [some (.ref 70), some (.ref 68), some (.int r1)] [] (hz F (uA A 68 (km_copies_70_68_2 (A 70) 150 0 (A 68))) L) _
  generalize hG41 : (km_copies_70_68_2 (A 70) 150 0 (A 68)) = G41 at hE ⊢
  subst T
  exact w_r rfl rfl (cvQ rfl rfl rfl K)
noncomputable def km_undo (f67_6 : Int32) (a68 : List Int32) (a70 : List Int32) : Int32 × List Int32 := (if f67_6 = 0 then (0, a68) else (1, (km_copies_70_68 a68 a70)))
theorem t_km_undo {f D : Nat} {F : Nat → Nat → Int32} {A : Nat → List Int32} {L : Nat → List Int64} {Q : Option Value → sm_H → Prop} (K : Q (some (.int ((km_undo (F 67 6) (A 68) (A 70)).1))) (hz F (uA A 68 ((km_undo (F 67 6) (A 68) (A 70)).2)) L)) : wl_M f D 248 [.ref 67] (hz F A L) Q := by
  generalize hT : (km_undo (F 67 6) (A 68) (A 70)) = T at K
  have hE : T = (if (F 67 6) = 0 then (0, (A 68)) else (1, (km_copies_70_68 (A 68) (A 70)))) := hT.symm
  clear hT
  refine w_m (E := mm248) rfl ?_
  show wl_E f f (D - 1) mm248.2.2.2.2.2.2.2.2 0 [some (.ref 67)] [] (hz F A L) Q
  refine w_n 2 (pc1 := 4) (ls1 := [some (.ref 67)]) (st1 := [.int (F 67 6)]) (hp1 := (hz F A L)) rfl ?_
  refine w_zne (p3 := 7) rfl rfl (fun h => ?_) (fun h => ?_)
  · have h1 : ¬ (F 67 6) = 0 := h
    rw [if_neg h1] at hE
    refine w_n 4 (pc1 := 17) (ls1 := [some (.ref 67)]) (st1 := [.ref 68, .ref 70]) (hp1 := (hz F A L)) rfl ?_
    refine w_c rfl rfl (t_km_copies_70_68 ?_)
    show wl_E f _ _ mm248.2.2.2.2.2.2.2.2 20 [some (.ref 67)] [] (hz F (uA A 68 (km_copies_70_68 (A 68) (A 70))) L) _
    generalize hG42 : (km_copies_70_68 (A 68) (A 70)) = G42 at hE ⊢
    refine w_n 1 (pc1 := 21) (ls1 := [some (.ref 67)]) (st1 := [.int 1]) (hp1 := (hz F (uA A 68 G42) L)) rfl ?_
    subst T
    exact w_ri rfl (cvQ rfl rfl rfl K)
  · have h1 : (F 67 6) = 0 := h
    rw [if_pos h1] at hE
    refine w_n 1 (pc1 := 8) (ls1 := [some (.ref 67)]) (st1 := [.int 0]) (hp1 := (hz F A L)) rfl ?_
    subst T
    exact w_ri rfl (cvQ rfl (funext fun q => if k0 : q = 68 then by subst k0; exact Eq.trans (b := (A 68)) rfl rfl else by unfold uA; simp only [nb1 k0, cond_false]) rfl K)
noncomputable def kx_has (f1_1 : Int32) (x1 : Int32) (x2 : Int32) (x3 : Int32) : Int32 := (if (kc_within x1 x2 x3) = 0 then 0 else (if f1_1.toInt < x1.toInt then 0 else 1))
theorem t_kx_has {f D : Nat} {F : Nat → Nat → Int32} {A : Nat → List Int32} {L : Nat → List Int64} {Q : Option Value → sm_H → Prop} {x1 : Int32} {x2 : Int32} {x3 : Int32} (K : Q (some (.int (kx_has (F 1 1) x1 x2 x3))) (hz F A L)) : wl_M f D 20 [.ref 1, .int x1, .int x2, .int x3] (hz F A L) Q := by
  generalize hT : (kx_has (F 1 1) x1 x2 x3) = T at K
  have hE : T = (if (kc_within x1 x2 x3) = 0 then 0 else (if (F 1 1).toInt < x1.toInt then 0 else 1)) := hT.symm
  clear hT
  refine w_m (E := mm20) rfl ?_
  show wl_E f f (D - 1) mm20.2.2.2.2.2.2.2.2 0 [some (.ref 1), some (.int x1), some (.int x2), some (.int x3)] [] (hz F A L) Q
  refine w_n 3 (pc1 := 3) (ls1 := [some (.ref 1), some (.int x1), some (.int x2), some (.int x3)]) (st1 := [.int x3, .int x2, .int x1]) (hp1 := (hz F A L)) rfl ?_
  refine w_c rfl rfl (t_kc_within ?_)
  show wl_E f _ _ mm20.2.2.2.2.2.2.2.2 6 [some (.ref 1), some (.int x1), some (.int x2), some (.int x3)] [.int (kc_within x1 x2 x3)] (hz F A L) _
  generalize hG43 : (kc_within x1 x2 x3) = G43 at hE ⊢
  refine w_zeq (p3 := 9) rfl rfl (fun h => ?_) (fun h => ?_)
  · have h1 : G43 = 0 := h
    rw [if_pos h1] at hE
    refine w_n 1 (pc1 := 22) (ls1 := [some (.ref 1), some (.int x1), some (.int x2), some (.int x3)]) (st1 := [.int 0]) (hp1 := (hz F A L)) rfl ?_
    subst T
    exact w_ri rfl (cvQ rfl rfl rfl K)
  · have h1 : ¬ G43 = 0 := h
    rw [if_neg h1] at hE
    refine w_n 3 (pc1 := 14) (ls1 := [some (.ref 1), some (.int x1), some (.int x2), some (.int x3)]) (st1 := [.int (F 1 1), .int x1]) (hp1 := (hz F A L)) rfl ?_
    refine w_gt (p3 := 17) rfl rfl (fun h => ?_) (fun h => ?_)
    · have h2 : (F 1 1).toInt < x1.toInt := h
      rw [if_pos h2] at hE
      refine w_n 1 (pc1 := 22) (ls1 := [some (.ref 1), some (.int x1), some (.int x2), some (.int x3)]) (st1 := [.int 0]) (hp1 := (hz F A L)) rfl ?_
      subst T
      exact w_ri rfl (cvQ rfl rfl rfl K)
    · have h2 : x1.toInt ≤ (F 1 1).toInt := h
      rw [if_neg (Int.not_lt.mpr h2)] at hE
      refine w_n 2 (pc1 := 22) (ls1 := [some (.ref 1), some (.int x1), some (.int x2), some (.int x3)]) (st1 := [.int 1]) (hp1 := (hz F A L)) rfl ?_
      subst T
      exact w_ri rfl (cvQ rfl rfl rfl K)
noncomputable def kc_check_27 (f1_1 : Int32) (f3_1 : Int32) (a2 : List Int32) (a8 : List Int32)  : Nat → Int32 → Int32 × Int32
  | 0, _ => ((-1), f1_1)
  | m + 1, y2 => (if (kt_isTold f3_1 y2) = 0 then (if (a2.getD y2.toInt.toNat 0) = 0 then (kc_check_27 f1_1 f3_1 a2 a8 m (y2 + 1)) else (y2, f1_1)) else (if (a2.getD y2.toInt.toNat 0) = (a8.getD y2.toInt.toNat 0) then (kc_check_27 f1_1 f3_1 a2 a8 m (y2 + 1)) else (y2, f1_1)))
theorem t_kc_check_27 {f : Nat} {Q : Option Value → sm_H → Prop} : ∀ (m : Nat) {B D : Nat} {F : Nat → Nat → Int32} {A : Nat → List Int32} {L : Nat → List Int64} {x1 : Int32} {y2 : Int32}, m = (x1.toInt - y2.toInt).toNat → (Q (some (.int ((kc_check_27 (F 1 1) (F 3 1) (A 2) (A 8) m y2).1))) (hz (uF F 1 1 ((kc_check_27 (F 1 1) (F 3 1) (A 2) (A 8) m y2).2)) A L)) → wl_E f B D mm137.2.2.2.2.2.2.2.2 27 [some (.ref 0), some (.int x1), some (.int y2)] [] (hz F A L) Q := by
  intro m
  induction m with
  | zero =>
    intro B D F A L x1 y2 hm K
    generalize hT : (kc_check_27 (F 1 1) (F 3 1) (A 2) (A 8) 0 y2) = T at K
    have hE : T = ((-1), (F 1 1)) := hT.symm
    clear hT
    refine w_n 2 (pc1 := 29) (ls1 := [some (.ref 0), some (.int x1), some (.int y2)]) (st1 := [.int x1, .int y2]) (hp1 := (hz F A L)) rfl ?_
    refine w_ge (p3 := 32) rfl rfl (fun hb => ?_) (fun h => False.elim (by have h : y2.toInt < x1.toInt := h; omega))
    refine w_n 1 (pc1 := 77) (ls1 := [some (.ref 0), some (.int x1), some (.int y2)]) (st1 := [.int (-1)]) (hp1 := (hz F A L)) rfl ?_
    subst T
    exact w_ri rfl (cvQ (funext fun q => funext fun z => if k0 : q = 1 ∧ z = 1 then by obtain ⟨w1, w2⟩ := k0; subst w1; subst w2; exact Eq.trans (b := (F 1 1)) rfl rfl else by unfold uF; simp only [nb2 k0, cond_false]) rfl rfl K)
  | succ m ih =>
    intro B D F A L x1 y2 hm K
    generalize hT : (kc_check_27 (F 1 1) (F 3 1) (A 2) (A 8) (m + 1) y2) = T at K
    have hE : T = (if (kt_isTold (F 3 1) y2) = 0 then (if ((A 2).getD y2.toInt.toNat 0) = 0 then (kc_check_27 (F 1 1) (F 3 1) (A 2) (A 8) m (y2 + 1)) else (y2, (F 1 1))) else (if ((A 2).getD y2.toInt.toNat 0) = ((A 8).getD y2.toInt.toNat 0) then (kc_check_27 (F 1 1) (F 3 1) (A 2) (A 8) m (y2 + 1)) else (y2, (F 1 1)))) := hT.symm
    clear hT
    refine w_n 2 (pc1 := 29) (ls1 := [some (.ref 0), some (.int x1), some (.int y2)]) (st1 := [.int x1, .int y2]) (hp1 := (hz F A L)) rfl ?_
    refine w_ge (p3 := 32) rfl rfl (fun h => False.elim (by have h : x1.toInt ≤ y2.toInt := h; omega)) (fun hb => ?_)
    refine w_n 4 (pc1 := 40) (ls1 := [some (.ref 0), some (.int x1), some (.int y2)]) (st1 := [.int y2, .ref 2]) (hp1 := (hz F A L)) rfl ?_
    refine w_al (k := 2) (l := (A 2)) rfl rfl rfl (fun ab => ?_)
    refine w_n 3 (pc1 := 46) (ls1 := [some (.ref 0), some (.int x1), some (.int y2)]) (st1 := [.int y2, .ref 3, .int ((A 2).getD y2.toInt.toNat 0)]) (hp1 := (hz F A L)) rfl ?_
    refine w_c rfl rfl (t_kt_isTold ?_)
    show wl_E f _ _ mm137.2.2.2.2.2.2.2.2 49 [some (.ref 0), some (.int x1), some (.int y2)] [.int (kt_isTold (F 3 1) y2), .int ((A 2).getD y2.toInt.toNat 0)] (hz F A L) _
    generalize hG45 : (kt_isTold (F 3 1) y2) = G45 at hE ⊢
    refine w_zeq (p3 := 52) rfl rfl (fun h => ?_) (fun h => ?_)
    · have h1 : G45 = 0 := h
      rw [if_pos h1] at hE
      refine w_n 1 (pc1 := 65) (ls1 := [some (.ref 0), some (.int x1), some (.int y2)]) (st1 := [.int 0, .int ((A 2).getD y2.toInt.toNat 0)]) (hp1 := (hz F A L)) rfl ?_
      refine w_eq (p3 := 68) rfl rfl (fun h => ?_) (fun h => ?_)
      · have h2 : ((A 2).getD y2.toInt.toNat 0) = 0 := h
        rw [if_pos h2] at hE
        refine w_n 2 (pc1 := 27) (ls1 := [some (.ref 0), some (.int x1), some (.int (y2 + 1))]) (st1 := []) (hp1 := (hz F A L)) rfl ?_
        subst T
        have hb2 := i_up (B := x1) hb
        have hb3 : y2.toInt < x1.toInt := hb
        exact ih (show m = (x1.toInt - (y2 + 1).toInt).toNat by rw [hb2]; omega) (cvQ (funext fun q => funext fun z => if k0 : q = 1 ∧ z = 1 then by obtain ⟨w1, w2⟩ := k0; subst w1; subst w2; exact Eq.trans (b := (kc_check_27 (F 1 1) (F 3 1) (A 2) (A 8) m (y2 + 1)).2) rfl rfl else by unfold uF; simp only [nb2 k0, cond_false]) rfl rfl K)
      · have h2 : ¬ ((A 2).getD y2.toInt.toNat 0) = 0 := h
        rw [if_neg h2] at hE
        refine w_n 1 (pc1 := 69) (ls1 := [some (.ref 0), some (.int x1), some (.int y2)]) (st1 := [.int y2]) (hp1 := (hz F A L)) rfl ?_
        subst T
        exact w_ri rfl (cvQ (funext fun q => funext fun z => if k0 : q = 1 ∧ z = 1 then by obtain ⟨w1, w2⟩ := k0; subst w1; subst w2; exact Eq.trans (b := (F 1 1)) rfl rfl else by unfold uF; simp only [nb2 k0, cond_false]) rfl rfl K)
    · have h1 : ¬ G45 = 0 := h
      rw [if_neg h1] at hE
      refine w_n 4 (pc1 := 60) (ls1 := [some (.ref 0), some (.int x1), some (.int y2)]) (st1 := [.int y2, .ref 8, .int ((A 2).getD y2.toInt.toNat 0)]) (hp1 := (hz F A L)) rfl ?_
      refine w_al (k := 8) (l := (A 8)) rfl rfl rfl (fun ab => ?_)
      refine w_n 1 (pc1 := 65) (ls1 := [some (.ref 0), some (.int x1), some (.int y2)]) (st1 := [.int ((A 8).getD y2.toInt.toNat 0), .int ((A 2).getD y2.toInt.toNat 0)]) (hp1 := (hz F A L)) rfl ?_
      refine w_eq (p3 := 68) rfl rfl (fun h => ?_) (fun h => ?_)
      · have h3 : ((A 2).getD y2.toInt.toNat 0) = ((A 8).getD y2.toInt.toNat 0) := h
        rw [if_pos h3] at hE
        refine w_n 2 (pc1 := 27) (ls1 := [some (.ref 0), some (.int x1), some (.int (y2 + 1))]) (st1 := []) (hp1 := (hz F A L)) rfl ?_
        subst T
        have hb2 := i_up (B := x1) hb
        have hb3 : y2.toInt < x1.toInt := hb
        exact ih (show m = (x1.toInt - (y2 + 1).toInt).toNat by rw [hb2]; omega) (cvQ (funext fun q => funext fun z => if k0 : q = 1 ∧ z = 1 then by obtain ⟨w1, w2⟩ := k0; subst w1; subst w2; exact Eq.trans (b := (kc_check_27 (F 1 1) (F 3 1) (A 2) (A 8) m (y2 + 1)).2) rfl rfl else by unfold uF; simp only [nb2 k0, cond_false]) rfl rfl K)
      · have h3 : ¬ ((A 2).getD y2.toInt.toNat 0) = ((A 8).getD y2.toInt.toNat 0) := h
        rw [if_neg h3] at hE
        refine w_n 1 (pc1 := 69) (ls1 := [some (.ref 0), some (.int x1), some (.int y2)]) (st1 := [.int y2]) (hp1 := (hz F A L)) rfl ?_
        subst T
        exact w_ri rfl (cvQ (funext fun q => funext fun z => if k0 : q = 1 ∧ z = 1 then by obtain ⟨w1, w2⟩ := k0; subst w1; subst w2; exact Eq.trans (b := (F 1 1)) rfl rfl else by unfold uF; simp only [nb2 k0, cond_false]) rfl rfl K)
noncomputable def kc_check (f1_1 : Int32) (f3_1 : Int32) (a2 : List Int32) (a8 : List Int32) (x1 : Int32) : Int32 × Int32 := (if (kx_has f1_1 x1 0 12) = 0 then ((-2), f1_1) else (kc_check_27 0 f3_1 a2 a8 x1.toInt.toNat 0))
theorem t_kc_check {f D : Nat} {F : Nat → Nat → Int32} {A : Nat → List Int32} {L : Nat → List Int64} {Q : Option Value → sm_H → Prop} {x1 : Int32} (K : Q (some (.int ((kc_check (F 1 1) (F 3 1) (A 2) (A 8) x1).1))) (hz (uF F 1 1 ((kc_check (F 1 1) (F 3 1) (A 2) (A 8) x1).2)) A L)) : wl_M f D 137 [.ref 0, .int x1] (hz F A L) Q := by
  generalize hT : (kc_check (F 1 1) (F 3 1) (A 2) (A 8) x1) = T at K
  have hE : T = (if (kx_has (F 1 1) x1 0 12) = 0 then ((-2), (F 1 1)) else (kc_check_27 0 (F 3 1) (A 2) (A 8) x1.toInt.toNat 0)) := hT.symm
  clear hT
  refine w_m (E := mm137) rfl ?_
  show wl_E f f (D - 1) mm137.2.2.2.2.2.2.2.2 0 [some (.ref 0), some (.int x1), none] [] (hz F A L) Q
  refine w_n 5 (pc1 := 8) (ls1 := [some (.ref 0), some (.int x1), none]) (st1 := [.int 12, .int 0, .int x1, .ref 1]) (hp1 := (hz F A L)) rfl ?_
  refine w_c rfl rfl (t_kx_has ?_)
  show wl_E f _ _ mm137.2.2.2.2.2.2.2.2 11 [some (.ref 0), some (.int x1), none] [.int (kx_has (F 1 1) x1 0 12)] (hz F A L) _
  generalize hG44 : (kx_has (F 1 1) x1 0 12) = G44 at hE ⊢
  refine w_zne (p3 := 14) rfl rfl (fun h => ?_) (fun h => ?_)
  · have h1 : ¬ G44 = 0 := h
    rw [if_neg h1] at hE
    refine w_n 3 (pc1 := 22) (ls1 := [some (.ref 0), some (.int x1), none]) (st1 := [.int 0, .ref 1]) (hp1 := (hz F A L)) rfl ?_
    refine w_pf (k := 1) (fs := hz_f1 F) (hp1 := (hz (uF F 1 1 0) A L)) rfl rfl rfl (hz_p1_1 _) ?_
    refine w_n 2 (pc1 := 27) (ls1 := [some (.ref 0), some (.int x1), some (.int 0)]) (st1 := []) (hp1 := (hz (uF F 1 1 0) A L)) rfl ?_
    subst T
    exact t_kc_check_27 _ (show x1.toInt.toNat = (x1.toInt - (0 : Int32).toInt).toNat by have e0 : (0 : Int32).toInt = 0 := rfl; first | rfl | omega) (cvQ (funext fun q => funext fun z => if k0 : q = 1 ∧ z = 1 then by obtain ⟨w1, w2⟩ := k0; subst w1; subst w2; exact Eq.trans (b := (kc_check_27 0 (F 3 1) (A 2) (A 8) x1.toInt.toNat 0).2) rfl rfl else by unfold uF; simp only [nb2 k0, cond_false]) rfl rfl K)
  · have h1 : G44 = 0 := h
    rw [if_pos h1] at hE
    refine w_n 1 (pc1 := 16) (ls1 := [some (.ref 0), some (.int x1), none]) (st1 := [.int (-2)]) (hp1 := (hz F A L)) rfl ?_
    subst T
    exact w_ri rfl (cvQ (funext fun q => funext fun z => if k0 : q = 1 ∧ z = 1 then by obtain ⟨w1, w2⟩ := k0; subst w1; subst w2; exact Eq.trans (b := (F 1 1)) rfl rfl else by unfold uF; simp only [nb2 k0, cond_false]) rfl rfl K)
noncomputable def km_check_28 (f67_8 : Int32) (a68 : List Int32) (a71 : List Int32)  : Nat → Int32 → Int32 × Int32
  | 0, _ => ((-1), f67_8)
  | m + 1, y2 => (if (km_isGuest a68 y2) = 0 then (if ((a71.getD y2.toInt.toNat 0) &&& 255) = 0 then (km_check_28 f67_8 a68 a71 m (y2 + 1)) else (y2, f67_8)) else (if ((a71.getD y2.toInt.toNat 0) &&& 255) = (a68.getD (36 + y2).toInt.toNat 0) then (km_check_28 f67_8 a68 a71 m (y2 + 1)) else (y2, f67_8)))
theorem t_km_check_28 {f : Nat} {Q : Option Value → sm_H → Prop} : ∀ (m : Nat) {B D : Nat} {F : Nat → Nat → Int32} {A : Nat → List Int32} {L : Nat → List Int64} {x1 : Int32} {y2 : Int32}, m = (x1.toInt - y2.toInt).toNat → (Q (some (.int ((km_check_28 (F 67 8) (A 68) (A 71) m y2).1))) (hz (uF F 67 8 ((km_check_28 (F 67 8) (A 68) (A 71) m y2).2)) A L)) → wl_E f B D mm249.2.2.2.2.2.2.2.2 28 [some (.ref 67), some (.int x1), some (.int y2)] [] (hz F A L) Q := by
  intro m
  induction m with
  | zero =>
    intro B D F A L x1 y2 hm K
    generalize hT : (km_check_28 (F 67 8) (A 68) (A 71) 0 y2) = T at K
    have hE : T = ((-1), (F 67 8)) := hT.symm
    clear hT
    refine w_n 2 (pc1 := 30) (ls1 := [some (.ref 67), some (.int x1), some (.int y2)]) (st1 := [.int x1, .int y2]) (hp1 := (hz F A L)) rfl ?_
    refine w_ge (p3 := 33) rfl rfl (fun hb => ?_) (fun h => False.elim (by have h : y2.toInt < x1.toInt := h; omega))
    refine w_n 1 (pc1 := 76) (ls1 := [some (.ref 67), some (.int x1), some (.int y2)]) (st1 := [.int (-1)]) (hp1 := (hz F A L)) rfl ?_
    subst T
    exact w_ri rfl (cvQ (funext fun q => funext fun z => if k0 : q = 67 ∧ z = 8 then by obtain ⟨w1, w2⟩ := k0; subst w1; subst w2; exact Eq.trans (b := (F 67 8)) rfl rfl else by unfold uF; simp only [nb2 k0, cond_false]) rfl rfl K)
  | succ m ih =>
    intro B D F A L x1 y2 hm K
    generalize hT : (km_check_28 (F 67 8) (A 68) (A 71) (m + 1) y2) = T at K
    have hE : T = (if (km_isGuest (A 68) y2) = 0 then (if (((A 71).getD y2.toInt.toNat 0) &&& 255) = 0 then (km_check_28 (F 67 8) (A 68) (A 71) m (y2 + 1)) else (y2, (F 67 8))) else (if (((A 71).getD y2.toInt.toNat 0) &&& 255) = ((A 68).getD (36 + y2).toInt.toNat 0) then (km_check_28 (F 67 8) (A 68) (A 71) m (y2 + 1)) else (y2, (F 67 8)))) := hT.symm
    clear hT
    refine w_n 2 (pc1 := 30) (ls1 := [some (.ref 67), some (.int x1), some (.int y2)]) (st1 := [.int x1, .int y2]) (hp1 := (hz F A L)) rfl ?_
    refine w_ge (p3 := 33) rfl rfl (fun h => False.elim (by have h : x1.toInt ≤ y2.toInt := h; omega)) (fun hb => ?_)
    refine w_n 3 (pc1 := 38) (ls1 := [some (.ref 67), some (.int x1), some (.int y2)]) (st1 := [.int y2, .ref 71]) (hp1 := (hz F A L)) rfl ?_
    refine w_bl (k := 71) (l := (A 71)) rfl rfl rfl (fun ab => ?_)
    refine w_n 4 (pc1 := 45) (ls1 := [some (.ref 67), some (.int x1), some (.int y2)]) (st1 := [.int y2, .ref 67, .int (((A 71).getD y2.toInt.toNat 0) &&& 255)]) (hp1 := (hz F A L)) rfl ?_
    refine w_c rfl rfl (t_km_isGuest ?_)
    show wl_E f _ _ mm249.2.2.2.2.2.2.2.2 48 [some (.ref 67), some (.int x1), some (.int y2)] [.int (km_isGuest (A 68) y2), .int (((A 71).getD y2.toInt.toNat 0) &&& 255)] (hz F A L) _
    generalize hG47 : (km_isGuest (A 68) y2) = G47 at hE ⊢
    refine w_zeq (p3 := 51) rfl rfl (fun h => ?_) (fun h => ?_)
    · have h1 : G47 = 0 := h
      rw [if_pos h1] at hE
      refine w_n 1 (pc1 := 64) (ls1 := [some (.ref 67), some (.int x1), some (.int y2)]) (st1 := [.int 0, .int (((A 71).getD y2.toInt.toNat 0) &&& 255)]) (hp1 := (hz F A L)) rfl ?_
      refine w_eq (p3 := 67) rfl rfl (fun h => ?_) (fun h => ?_)
      · have h2 : (((A 71).getD y2.toInt.toNat 0) &&& 255) = 0 := h
        rw [if_pos h2] at hE
        refine w_n 2 (pc1 := 28) (ls1 := [some (.ref 67), some (.int x1), some (.int (y2 + 1))]) (st1 := []) (hp1 := (hz F A L)) rfl ?_
        subst T
        have hb2 := i_up (B := x1) hb
        have hb3 : y2.toInt < x1.toInt := hb
        exact ih (show m = (x1.toInt - (y2 + 1).toInt).toNat by rw [hb2]; omega) (cvQ (funext fun q => funext fun z => if k0 : q = 67 ∧ z = 8 then by obtain ⟨w1, w2⟩ := k0; subst w1; subst w2; exact Eq.trans (b := (km_check_28 (F 67 8) (A 68) (A 71) m (y2 + 1)).2) rfl rfl else by unfold uF; simp only [nb2 k0, cond_false]) rfl rfl K)
      · have h2 : ¬ (((A 71).getD y2.toInt.toNat 0) &&& 255) = 0 := h
        rw [if_neg h2] at hE
        refine w_n 1 (pc1 := 68) (ls1 := [some (.ref 67), some (.int x1), some (.int y2)]) (st1 := [.int y2]) (hp1 := (hz F A L)) rfl ?_
        subst T
        exact w_ri rfl (cvQ (funext fun q => funext fun z => if k0 : q = 67 ∧ z = 8 then by obtain ⟨w1, w2⟩ := k0; subst w1; subst w2; exact Eq.trans (b := (F 67 8)) rfl rfl else by unfold uF; simp only [nb2 k0, cond_false]) rfl rfl K)
    · have h1 : ¬ G47 = 0 := h
      rw [if_neg h1] at hE
      refine w_n 5 (pc1 := 59) (ls1 := [some (.ref 67), some (.int x1), some (.int y2)]) (st1 := [.int (36 + y2), .ref 68, .int (((A 71).getD y2.toInt.toNat 0) &&& 255)]) (hp1 := (hz F A L)) rfl ?_
      refine w_al (k := 68) (l := (A 68)) rfl rfl rfl (fun _ => ?_)
      refine w_n 1 (pc1 := 64) (ls1 := [some (.ref 67), some (.int x1), some (.int y2)]) (st1 := [.int ((A 68).getD (36 + y2).toInt.toNat 0), .int (((A 71).getD y2.toInt.toNat 0) &&& 255)]) (hp1 := (hz F A L)) rfl ?_
      refine w_eq (p3 := 67) rfl rfl (fun h => ?_) (fun h => ?_)
      · have h3 : (((A 71).getD y2.toInt.toNat 0) &&& 255) = ((A 68).getD (36 + y2).toInt.toNat 0) := h
        rw [if_pos h3] at hE
        refine w_n 2 (pc1 := 28) (ls1 := [some (.ref 67), some (.int x1), some (.int (y2 + 1))]) (st1 := []) (hp1 := (hz F A L)) rfl ?_
        subst T
        have hb2 := i_up (B := x1) hb
        have hb3 : y2.toInt < x1.toInt := hb
        exact ih (show m = (x1.toInt - (y2 + 1).toInt).toNat by rw [hb2]; omega) (cvQ (funext fun q => funext fun z => if k0 : q = 67 ∧ z = 8 then by obtain ⟨w1, w2⟩ := k0; subst w1; subst w2; exact Eq.trans (b := (km_check_28 (F 67 8) (A 68) (A 71) m (y2 + 1)).2) rfl rfl else by unfold uF; simp only [nb2 k0, cond_false]) rfl rfl K)
      · have h3 : ¬ (((A 71).getD y2.toInt.toNat 0) &&& 255) = ((A 68).getD (36 + y2).toInt.toNat 0) := h
        rw [if_neg h3] at hE
        refine w_n 1 (pc1 := 68) (ls1 := [some (.ref 67), some (.int x1), some (.int y2)]) (st1 := [.int y2]) (hp1 := (hz F A L)) rfl ?_
        subst T
        exact w_ri rfl (cvQ (funext fun q => funext fun z => if k0 : q = 67 ∧ z = 8 then by obtain ⟨w1, w2⟩ := k0; subst w1; subst w2; exact Eq.trans (b := (F 67 8)) rfl rfl else by unfold uF; simp only [nb2 k0, cond_false]) rfl rfl K)
noncomputable def km_check (f67_8 : Int32) (a68 : List Int32) (a71 : List Int32) (x1 : Int32) : Int32 × Int32 := (if (km_in x1 0 12) = 0 then ((-2), f67_8) else (if f67_8.toInt < x1.toInt then ((-2), f67_8) else (km_check_28 0 a68 a71 x1.toInt.toNat 0)))
theorem t_km_check {f D : Nat} {F : Nat → Nat → Int32} {A : Nat → List Int32} {L : Nat → List Int64} {Q : Option Value → sm_H → Prop} {x1 : Int32} (K : Q (some (.int ((km_check (F 67 8) (A 68) (A 71) x1).1))) (hz (uF F 67 8 ((km_check (F 67 8) (A 68) (A 71) x1).2)) A L)) : wl_M f D 249 [.ref 67, .int x1] (hz F A L) Q := by
  generalize hT : (km_check (F 67 8) (A 68) (A 71) x1) = T at K
  have hE : T = (if (km_in x1 0 12) = 0 then ((-2), (F 67 8)) else (if (F 67 8).toInt < x1.toInt then ((-2), (F 67 8)) else (km_check_28 0 (A 68) (A 71) x1.toInt.toNat 0))) := hT.symm
  clear hT
  refine w_m (E := mm249) rfl ?_
  show wl_E f f (D - 1) mm249.2.2.2.2.2.2.2.2 0 [some (.ref 67), some (.int x1), none] [] (hz F A L) Q
  refine w_n 3 (pc1 := 4) (ls1 := [some (.ref 67), some (.int x1), none]) (st1 := [.int 12, .int 0, .int x1]) (hp1 := (hz F A L)) rfl ?_
  refine w_c rfl rfl (t_km_in ?_)
  show wl_E f _ _ mm249.2.2.2.2.2.2.2.2 7 [some (.ref 67), some (.int x1), none] [.int (km_in x1 0 12)] (hz F A L) _
  generalize hG46 : (km_in x1 0 12) = G46 at hE ⊢
  refine w_zeq (p3 := 10) rfl rfl (fun h => ?_) (fun h => ?_)
  · have h1 : G46 = 0 := h
    rw [if_pos h1] at hE
    refine w_n 1 (pc1 := 20) (ls1 := [some (.ref 67), some (.int x1), none]) (st1 := [.int (-2)]) (hp1 := (hz F A L)) rfl ?_
    subst T
    exact w_ri rfl (cvQ (funext fun q => funext fun z => if k0 : q = 67 ∧ z = 8 then by obtain ⟨w1, w2⟩ := k0; subst w1; subst w2; exact Eq.trans (b := (F 67 8)) rfl rfl else by unfold uF; simp only [nb2 k0, cond_false]) rfl rfl K)
  · have h1 : ¬ G46 = 0 := h
    rw [if_neg h1] at hE
    refine w_n 3 (pc1 := 15) (ls1 := [some (.ref 67), some (.int x1), none]) (st1 := [.int (F 67 8), .int x1]) (hp1 := (hz F A L)) rfl ?_
    refine w_le (p3 := 18) rfl rfl (fun h => ?_) (fun h => ?_)
    · have h2 : x1.toInt ≤ (F 67 8).toInt := h
      rw [if_neg (Int.not_lt.mpr h2)] at hE
      refine w_n 2 (pc1 := 23) (ls1 := [some (.ref 67), some (.int x1), none]) (st1 := [.int 0, .ref 67]) (hp1 := (hz F A L)) rfl ?_
      refine w_pf (k := 67) (fs := hz_f67 F) (hp1 := (hz (uF F 67 8 0) A L)) rfl rfl rfl (hz_p67_8 _) ?_
      refine w_n 2 (pc1 := 28) (ls1 := [some (.ref 67), some (.int x1), some (.int 0)]) (st1 := []) (hp1 := (hz (uF F 67 8 0) A L)) rfl ?_
      subst T
      exact t_km_check_28 _ (show x1.toInt.toNat = (x1.toInt - (0 : Int32).toInt).toNat by have e0 : (0 : Int32).toInt = 0 := rfl; first | rfl | omega) (cvQ (funext fun q => funext fun z => if k0 : q = 67 ∧ z = 8 then by obtain ⟨w1, w2⟩ := k0; subst w1; subst w2; exact Eq.trans (b := (km_check_28 0 (A 68) (A 71) x1.toInt.toNat 0).2) rfl rfl else by unfold uF; simp only [nb2 k0, cond_false]) rfl rfl K)
    · have h2 : (F 67 8).toInt < x1.toInt := h
      rw [if_pos h2] at hE
      refine w_n 1 (pc1 := 20) (ls1 := [some (.ref 67), some (.int x1), none]) (st1 := [.int (-2)]) (hp1 := (hz F A L)) rfl ?_
      subst T
      exact w_ri rfl (cvQ (funext fun q => funext fun z => if k0 : q = 67 ∧ z = 8 then by obtain ⟨w1, w2⟩ := k0; subst w1; subst w2; exact Eq.trans (b := (F 67 8)) rfl rfl else by unfold uF; simp only [nb2 k0, cond_false]) rfl rfl K)
noncomputable def kja_fill_40_5  (x1 : Int32) : Nat → Int32 → List Int32 → List Int32
  | 0, _, a40 => a40
  | m + 1, y2, a40 => (kja_fill_40_5 x1 m (y2 + 1) (a40.set y2.toInt.toNat x1))
theorem t_kja_fill_40_5 {f : Nat} {Q : Option Value → sm_H → Prop} : ∀ (m : Nat) {B D : Nat} {F : Nat → Nat → Int32} {A : Nat → List Int32} {L : Nat → List Int64} {x1 : Int32} {y2 : Int32} {x3 : Int32}, m = (x3.toInt - y2.toInt).toNat → (∀ q2 : Int32, wl_E f B D mm3.2.2.2.2.2.2.2.2 20 [some (.ref 40), some (.int x1), some (.int q2), some (.int x3)] [] (hz F (uA A 40 (kja_fill_40_5 x1 m y2 (A 40))) L) Q) → wl_E f B D mm3.2.2.2.2.2.2.2.2 5 [some (.ref 40), some (.int x1), some (.int y2), some (.int x3)] [] (hz F A L) Q := by
  intro m
  induction m with
  | zero =>
    intro B D F A L x1 y2 x3 hm K
    generalize hT : (kja_fill_40_5 x1 0 y2 (A 40)) = T at K
    have hE : T = (A 40) := hT.symm
    clear hT
    refine w_n 2 (pc1 := 7) (ls1 := [some (.ref 40), some (.int x1), some (.int y2), some (.int x3)]) (st1 := [.int x3, .int y2]) (hp1 := (hz F A L)) rfl ?_
    refine w_ge (p3 := 10) rfl rfl (fun hb => ?_) (fun h => False.elim (by have h : y2.toInt < x3.toInt := h; omega))
    subst T
    exact cvE rfl (funext fun q => if k0 : q = 40 then by subst k0; exact Eq.trans (b := (A 40)) rfl rfl else by unfold uA; simp only [nb1 k0, cond_false]) rfl (K _)
  | succ m ih =>
    intro B D F A L x1 y2 x3 hm K
    generalize hT : (kja_fill_40_5 x1 (m + 1) y2 (A 40)) = T at K
    have hE : T = (kja_fill_40_5 x1 m (y2 + 1) ((A 40).set y2.toInt.toNat x1)) := hT.symm
    clear hT
    refine w_n 2 (pc1 := 7) (ls1 := [some (.ref 40), some (.int x1), some (.int y2), some (.int x3)]) (st1 := [.int x3, .int y2]) (hp1 := (hz F A L)) rfl ?_
    refine w_ge (p3 := 10) rfl rfl (fun h => False.elim (by have h : x3.toInt ≤ y2.toInt := h; omega)) (fun hb => ?_)
    refine w_n 3 (pc1 := 13) (ls1 := [some (.ref 40), some (.int x1), some (.int y2), some (.int x3)]) (st1 := [.int x1, .int y2, .ref 40]) (hp1 := (hz F A L)) rfl ?_
    refine w_as (k := 40) (l := (A 40)) (hp1 := (hz F (uA A 40 ((A 40).set y2.toInt.toNat x1)) L)) rfl rfl rfl (hz_s40 _) (fun ab => ?_)
    refine w_n 2 (pc1 := 5) (ls1 := [some (.ref 40), some (.int x1), some (.int (y2 + 1)), some (.int x3)]) (st1 := []) (hp1 := (hz F (uA A 40 ((A 40).set y2.toInt.toNat x1)) L)) rfl ?_
    subst T
    have hb2 := i_up (B := x3) hb
    have hb3 : y2.toInt < x3.toInt := hb
    exact ih (show m = (x3.toInt - (y2 + 1).toInt).toNat by rw [hb2]; omega) (fun q2 => cvE rfl (funext fun q => if k0 : q = 40 then by subst k0; exact Eq.trans (b := (kja_fill_40_5 x1 m (y2 + 1) ((A 40).set y2.toInt.toNat x1))) rfl rfl else by unfold uA; simp only [nb1 k0, cond_false]) rfl (K q2))
noncomputable def kja_fill_40 (a40 : List Int32) (x1 : Int32) : List Int32 := (kja_fill_40_5 x1 ((Int32.ofNat a40.length).toInt).toNat 0 a40)
theorem t_kja_fill_40 {f D : Nat} {F : Nat → Nat → Int32} {A : Nat → List Int32} {L : Nat → List Int64} {Q : Option Value → sm_H → Prop} {x1 : Int32} (K : Q none (hz F (uA A 40 (kja_fill_40 (A 40) x1)) L)) : wl_M f D 3 [.ref 40, .int x1] (hz F A L) Q := by
  generalize hT : (kja_fill_40 (A 40) x1) = T at K
  have hE : T = (kja_fill_40_5 x1 ((Int32.ofNat (A 40).length).toInt).toNat 0 (A 40)) := hT.symm
  clear hT
  refine w_m (E := mm3) rfl ?_
  show wl_E f f (D - 1) mm3.2.2.2.2.2.2.2.2 0 [some (.ref 40), some (.int x1), none, none] [] (hz F A L) Q
  refine w_n 5 (pc1 := 5) (ls1 := [some (.ref 40), some (.int x1), some (.int 0), some (.int (Int32.ofNat (A 40).length))]) (st1 := []) (hp1 := (hz F A L)) rfl ?_
  refine t_kja_fill_40_5 (((Int32.ofNat (A 40).length).toInt).toNat) (show ((Int32.ofNat (A 40).length).toInt).toNat = ((Int32.ofNat (A 40).length).toInt - (0 : Int32).toInt).toNat by have e0 : (0 : Int32).toInt = 0 := rfl; first | rfl | omega) ?_
  intro r1
  show wl_E f _ _ mm3.2.2.2.2.2.2.2.2 20 [some (.ref 40), some (.int x1), some (.int r1), some (.int (Int32.ofNat (A 40).length))] [] (hz F (uA A 40 (kja_fill_40_5 x1 ((Int32.ofNat (A 40).length).toInt).toNat 0 (A 40))) L) _
  generalize hG49 : (kja_fill_40_5 x1 ((Int32.ofNat (A 40).length).toInt).toNat 0 (A 40)) = G49 at hE ⊢
  subst T
  exact w_r rfl rfl (cvQ rfl rfl rfl K)
noncomputable def kv_beginSets (a40 : List Int32) : List Int32 := ((kja_fill_40 a40 0).set 0 1)
theorem t_kv_beginSets {f D : Nat} {F : Nat → Nat → Int32} {A : Nat → List Int32} {L : Nat → List Int64} {Q : Option Value → sm_H → Prop} (K : Q none (hz F (uA A 40 (kv_beginSets (A 40))) L)) : wl_M f D 105 [.ref 30] (hz F A L) Q := by
  generalize hT : (kv_beginSets (A 40)) = T at K
  have hE : T = ((kja_fill_40 (A 40) 0).set 0 1) := hT.symm
  clear hT
  refine w_m (E := mm105) rfl ?_
  show wl_E f f (D - 1) mm105.2.2.2.2.2.2.2.2 0 [some (.ref 30)] [] (hz F A L) Q
  refine w_n 3 (pc1 := 5) (ls1 := [some (.ref 30)]) (st1 := [.int 0, .ref 40]) (hp1 := (hz F A L)) rfl ?_
  refine w_c rfl rfl (t_kja_fill_40 ?_)
  show wl_E f _ _ mm105.2.2.2.2.2.2.2.2 8 [some (.ref 30)] [] (hz F (uA A 40 (kja_fill_40 (A 40) 0)) L) _
  generalize hG50 : (kja_fill_40 (A 40) 0) = G50 at hE ⊢
  refine w_n 4 (pc1 := 14) (ls1 := [some (.ref 30)]) (st1 := [.int 1, .int 0, .ref 40]) (hp1 := (hz F (uA A 40 G50) L)) rfl ?_
  refine w_as (k := 40) (l := G50) (hp1 := (hz F (uA (uA A 40 G50) 40 (G50.set 0 1)) L)) rfl rfl rfl (hz_s40 _) (fun _ => ?_)
  subst T
  exact w_r rfl rfl (cvQ rfl (funext fun q => if k0 : q = 40 then by subst k0; exact Eq.trans (b := (G50.set 0 1)) rfl rfl else by unfold uA; simp only [nb1 k0, cond_false]) rfl K)
noncomputable def kv_joinSets_8  (x1 : Int32) : Nat → Int32 → List Int32 → List Int32
  | 0, _, a40 => a40
  | m + 1, y2, a40 => (kv_joinSets_8 x1 m (y2 + (-1)) (a40.set y2.toInt.toNat ((a40.getD y2.toInt.toNat 0) + (a40.getD (y2 - x1).toInt.toNat 0))))
theorem t_kv_joinSets_8 {f : Nat} {Q : Option Value → sm_H → Prop} : ∀ (m : Nat) {B D : Nat} {F : Nat → Nat → Int32} {A : Nat → List Int32} {L : Nat → List Int64} {x1 : Int32} {y2 : Int32}, m = (y2.toInt + 1 - x1.toInt).toNat → (∀ q2 : Int32, wl_E f B D mm106.2.2.2.2.2.2.2.2 36 [some (.ref 30), some (.int x1), some (.int q2)] [] (hz F (uA A 40 (kv_joinSets_8 x1 m y2 (A 40))) L) Q) → wl_E f B D mm106.2.2.2.2.2.2.2.2 8 [some (.ref 30), some (.int x1), some (.int y2)] [] (hz F A L) Q := by
  intro m
  induction m with
  | zero =>
    intro B D F A L x1 y2 hm K
    generalize hT : (kv_joinSets_8 x1 0 y2 (A 40)) = T at K
    have hE : T = (A 40) := hT.symm
    clear hT
    refine w_n 2 (pc1 := 10) (ls1 := [some (.ref 30), some (.int x1), some (.int y2)]) (st1 := [.int x1, .int y2]) (hp1 := (hz F A L)) rfl ?_
    refine w_lt (p3 := 13) rfl rfl (fun hb => ?_) (fun h => False.elim (by have h : x1.toInt ≤ y2.toInt := h; omega))
    subst T
    exact cvE rfl (funext fun q => if k0 : q = 40 then by subst k0; exact Eq.trans (b := (A 40)) rfl rfl else by unfold uA; simp only [nb1 k0, cond_false]) rfl (K _)
  | succ m ih =>
    intro B D F A L x1 y2 hm K
    generalize hT : (kv_joinSets_8 x1 (m + 1) y2 (A 40)) = T at K
    have hE : T = (kv_joinSets_8 x1 m (y2 + (-1)) ((A 40).set y2.toInt.toNat (((A 40).getD y2.toInt.toNat 0) + ((A 40).getD (y2 - x1).toInt.toNat 0)))) := hT.symm
    clear hT
    refine w_n 2 (pc1 := 10) (ls1 := [some (.ref 30), some (.int x1), some (.int y2)]) (st1 := [.int x1, .int y2]) (hp1 := (hz F A L)) rfl ?_
    refine w_lt (p3 := 13) rfl rfl (fun h => False.elim (by have h : y2.toInt < x1.toInt := h; omega)) (fun hb => ?_)
    refine w_n 4 (pc1 := 19) (ls1 := [some (.ref 30), some (.int x1), some (.int y2)]) (st1 := [.int y2, .ref 40, .int y2, .ref 40]) (hp1 := (hz F A L)) rfl ?_
    refine w_al (k := 40) (l := (A 40)) rfl rfl rfl (fun ab => ?_)
    refine w_n 5 (pc1 := 27) (ls1 := [some (.ref 30), some (.int x1), some (.int y2)]) (st1 := [.int (y2 - x1), .ref 40, .int ((A 40).getD y2.toInt.toNat 0), .int y2, .ref 40]) (hp1 := (hz F A L)) rfl ?_
    refine w_al (k := 40) (l := (A 40)) rfl rfl rfl (fun _ => ?_)
    refine w_n 1 (pc1 := 29) (ls1 := [some (.ref 30), some (.int x1), some (.int y2)]) (st1 := [.int (((A 40).getD y2.toInt.toNat 0) + ((A 40).getD (y2 - x1).toInt.toNat 0)), .int y2, .ref 40]) (hp1 := (hz F A L)) rfl ?_
    refine w_as (k := 40) (l := (A 40)) (hp1 := (hz F (uA A 40 ((A 40).set y2.toInt.toNat (((A 40).getD y2.toInt.toNat 0) + ((A 40).getD (y2 - x1).toInt.toNat 0)))) L)) rfl rfl rfl (hz_s40 _) (fun ab => ?_)
    refine w_n 2 (pc1 := 8) (ls1 := [some (.ref 30), some (.int x1), some (.int (y2 + (-1)))]) (st1 := []) (hp1 := (hz F (uA A 40 ((A 40).set y2.toInt.toNat (((A 40).getD y2.toInt.toNat 0) + ((A 40).getD (y2 - x1).toInt.toNat 0)))) L)) rfl ?_
    subst T
    have hb2 := i_dn42 ab.1
    have hb3 : x1.toInt ≤ y2.toInt := hb
    exact ih (show m = ((y2 + (-1)).toInt + 1 - x1.toInt).toNat by rw [hb2]; omega) (fun q2 => cvE rfl (funext fun q => if k0 : q = 40 then by subst k0; exact Eq.trans (b := (kv_joinSets_8 x1 m (y2 + (-1)) ((A 40).set y2.toInt.toNat (((A 40).getD y2.toInt.toNat 0) + ((A 40).getD (y2 - x1).toInt.toNat 0))))) rfl rfl else by unfold uA; simp only [nb1 k0, cond_false]) rfl (K q2))
noncomputable def kv_joinSets (a40 : List Int32) (x1 : Int32) : List Int32 := (kv_joinSets_8 x1 (((Int32.ofNat a40.length) - 1).toInt + 1 - x1.toInt).toNat ((Int32.ofNat a40.length) - 1) a40)
theorem t_kv_joinSets {f D : Nat} {F : Nat → Nat → Int32} {A : Nat → List Int32} {L : Nat → List Int64} {Q : Option Value → sm_H → Prop} {x1 : Int32} (K : Q none (hz F (uA A 40 (kv_joinSets (A 40) x1)) L)) : wl_M f D 106 [.ref 30, .int x1] (hz F A L) Q := by
  generalize hT : (kv_joinSets (A 40) x1) = T at K
  have hE : T = (kv_joinSets_8 x1 (((Int32.ofNat (A 40).length) - 1).toInt + 1 - x1.toInt).toNat ((Int32.ofNat (A 40).length) - 1) (A 40)) := hT.symm
  clear hT
  refine w_m (E := mm106) rfl ?_
  show wl_E f f (D - 1) mm106.2.2.2.2.2.2.2.2 0 [some (.ref 30), some (.int x1), none] [] (hz F A L) Q
  refine w_n 6 (pc1 := 8) (ls1 := [some (.ref 30), some (.int x1), some (.int ((Int32.ofNat (A 40).length) - 1))]) (st1 := []) (hp1 := (hz F A L)) rfl ?_
  refine t_kv_joinSets_8 ((((Int32.ofNat (A 40).length) - 1).toInt + 1 - x1.toInt).toNat) (show (((Int32.ofNat (A 40).length) - 1).toInt + 1 - x1.toInt).toNat = (((Int32.ofNat (A 40).length) - 1).toInt + 1 - x1.toInt).toNat by first | rfl | omega) ?_
  intro r1
  show wl_E f _ _ mm106.2.2.2.2.2.2.2.2 36 [some (.ref 30), some (.int x1), some (.int r1)] [] (hz F (uA A 40 (kv_joinSets_8 x1 (((Int32.ofNat (A 40).length) - 1).toInt + 1 - x1.toInt).toNat ((Int32.ofNat (A 40).length) - 1) (A 40))) L) _
  generalize hG53 : (kv_joinSets_8 x1 (((Int32.ofNat (A 40).length) - 1).toInt + 1 - x1.toInt).toNat ((Int32.ofNat (A 40).length) - 1) (A 40)) = G53 at hE ⊢
  subst T
  exact w_r rfl rfl (cvQ rfl rfl rfl K)
noncomputable def kv_setsSwungBy_6 (f3_1 : Int32) (a6 : List Int32) (x1 : Int32) : Nat → Int32 → List Int32 → List Int32
  | 0, _, a40 => a40
  | m + 1, y2, a40 => (if y2 = x1 then (kv_setsSwungBy_6 f3_1 a6 x1 m (y2 + 1) a40) else (if (kt_isTold f3_1 y2) = 0 then (kv_setsSwungBy_6 f3_1 a6 x1 m (y2 + 1) a40) else (kv_setsSwungBy_6 f3_1 a6 x1 m (y2 + 1) (kv_joinSets a40 (a6.getD y2.toInt.toNat 0)))))
theorem t_kv_setsSwungBy_6 {f : Nat} {Q : Option Value → sm_H → Prop} : ∀ (m : Nat) {B D : Nat} {F : Nat → Nat → Int32} {A : Nat → List Int32} {L : Nat → List Int64} {x1 : Int32} {y2 : Int32}, m = (12 - y2.toInt).toNat → (∀ q2 : Int32, wl_E f B D mm110.2.2.2.2.2.2.2.2 47 [some (.ref 30), some (.int x1), some (.int q2)] [] (hz F (uA A 40 (kv_setsSwungBy_6 (F 3 1) (A 6) x1 m y2 (A 40))) L) Q) → wl_E f B D mm110.2.2.2.2.2.2.2.2 6 [some (.ref 30), some (.int x1), some (.int y2)] [] (hz F A L) Q := by
  intro m
  induction m with
  | zero =>
    intro B D F A L x1 y2 hm K
    generalize hT : (kv_setsSwungBy_6 (F 3 1) (A 6) x1 0 y2 (A 40)) = T at K
    have hE : T = (A 40) := hT.symm
    clear hT
    refine w_n 2 (pc1 := 9) (ls1 := [some (.ref 30), some (.int x1), some (.int y2)]) (st1 := [.int 12, .int y2]) (hp1 := (hz F A L)) rfl ?_
    refine w_ge (p3 := 12) rfl rfl (fun hb => ?_) (fun h => False.elim (by have h : y2.toInt < 12 := h; omega))
    subst T
    exact cvE rfl (funext fun q => if k0 : q = 40 then by subst k0; exact Eq.trans (b := (A 40)) rfl rfl else by unfold uA; simp only [nb1 k0, cond_false]) rfl (K _)
  | succ m ih =>
    intro B D F A L x1 y2 hm K
    generalize hT : (kv_setsSwungBy_6 (F 3 1) (A 6) x1 (m + 1) y2 (A 40)) = T at K
    have hE : T = (if y2 = x1 then (kv_setsSwungBy_6 (F 3 1) (A 6) x1 m (y2 + 1) (A 40)) else (if (kt_isTold (F 3 1) y2) = 0 then (kv_setsSwungBy_6 (F 3 1) (A 6) x1 m (y2 + 1) (A 40)) else (kv_setsSwungBy_6 (F 3 1) (A 6) x1 m (y2 + 1) (kv_joinSets (A 40) ((A 6).getD y2.toInt.toNat 0))))) := hT.symm
    clear hT
    refine w_n 2 (pc1 := 9) (ls1 := [some (.ref 30), some (.int x1), some (.int y2)]) (st1 := [.int 12, .int y2]) (hp1 := (hz F A L)) rfl ?_
    refine w_ge (p3 := 12) rfl rfl (fun h => False.elim (by have h : 12 ≤ y2.toInt := h; omega)) (fun hb => ?_)
    refine w_n 2 (pc1 := 14) (ls1 := [some (.ref 30), some (.int x1), some (.int y2)]) (st1 := [.int x1, .int y2]) (hp1 := (hz F A L)) rfl ?_
    refine w_eq (p3 := 17) rfl rfl (fun h => ?_) (fun h => ?_)
    · have h1 : y2 = x1 := h
      rw [if_pos h1] at hE
      refine w_n 2 (pc1 := 6) (ls1 := [some (.ref 30), some (.int x1), some (.int (y2 + 1))]) (st1 := []) (hp1 := (hz F A L)) rfl ?_
      subst T
      have hb2 := i_up (B := (12 : Int32)) hb
      have hb3 : y2.toInt < 12 := hb
      exact ih (show m = (12 - (y2 + 1).toInt).toNat by rw [hb2]; omega) (fun q2 => cvE rfl (funext fun q => if k0 : q = 40 then by subst k0; exact Eq.trans (b := (kv_setsSwungBy_6 (F 3 1) (A 6) x1 m (y2 + 1) (A 40))) rfl rfl else by unfold uA; simp only [nb1 k0, cond_false]) rfl (K q2))
    · have h1 : ¬ y2 = x1 := h
      rw [if_neg h1] at hE
      refine w_n 3 (pc1 := 22) (ls1 := [some (.ref 30), some (.int x1), some (.int y2)]) (st1 := [.int y2, .ref 3]) (hp1 := (hz F A L)) rfl ?_
      refine w_c rfl rfl (t_kt_isTold ?_)
      show wl_E f _ _ mm110.2.2.2.2.2.2.2.2 25 [some (.ref 30), some (.int x1), some (.int y2)] [.int (kt_isTold (F 3 1) y2)] (hz F A L) _
      generalize hG52 : (kt_isTold (F 3 1) y2) = G52 at hE ⊢
      refine w_zeq (p3 := 28) rfl rfl (fun h => ?_) (fun h => ?_)
      · have h2 : G52 = 0 := h
        rw [if_pos h2] at hE
        refine w_n 2 (pc1 := 6) (ls1 := [some (.ref 30), some (.int x1), some (.int (y2 + 1))]) (st1 := []) (hp1 := (hz F A L)) rfl ?_
        subst T
        have hb2 := i_up (B := (12 : Int32)) hb
        have hb3 : y2.toInt < 12 := hb
        exact ih (show m = (12 - (y2 + 1).toInt).toNat by rw [hb2]; omega) (fun q2 => cvE rfl (funext fun q => if k0 : q = 40 then by subst k0; exact Eq.trans (b := (kv_setsSwungBy_6 (F 3 1) (A 6) x1 m (y2 + 1) (A 40))) rfl rfl else by unfold uA; simp only [nb1 k0, cond_false]) rfl (K q2))
      · have h2 : ¬ G52 = 0 := h
        rw [if_neg h2] at hE
        refine w_n 5 (pc1 := 37) (ls1 := [some (.ref 30), some (.int x1), some (.int y2)]) (st1 := [.int y2, .ref 6, .ref 30]) (hp1 := (hz F A L)) rfl ?_
        refine w_al (k := 6) (l := (A 6)) rfl rfl rfl (fun ab => ?_)
        refine w_c rfl rfl (t_kv_joinSets ?_)
        show wl_E f _ _ mm110.2.2.2.2.2.2.2.2 41 [some (.ref 30), some (.int x1), some (.int y2)] [] (hz F (uA A 40 (kv_joinSets (A 40) ((A 6).getD y2.toInt.toNat 0))) L) _
        generalize hG54 : (kv_joinSets (A 40) ((A 6).getD y2.toInt.toNat 0)) = G54 at hE ⊢
        refine w_n 2 (pc1 := 6) (ls1 := [some (.ref 30), some (.int x1), some (.int (y2 + 1))]) (st1 := []) (hp1 := (hz F (uA A 40 G54) L)) rfl ?_
        subst T
        have hb2 := i_up (B := (12 : Int32)) hb
        have hb3 : y2.toInt < 12 := hb
        exact ih (show m = (12 - (y2 + 1).toInt).toNat by rw [hb2]; omega) (fun q2 => cvE rfl (funext fun q => if k0 : q = 40 then by subst k0; exact Eq.trans (b := (kv_setsSwungBy_6 (F 3 1) (A 6) x1 m (y2 + 1) G54)) rfl rfl else by unfold uA; simp only [nb1 k0, cond_false]) rfl (K q2))
noncomputable def kt_allBiscuits_4 (f3_1 : Int32) (a6 : List Int32)  : Nat → Int32 → Int32 → Int32
  | 0, y1, _ => y1
  | m + 1, y1, y2 => (if (kt_isTold f3_1 y2) = 0 then (kt_allBiscuits_4 f3_1 a6 m y1 (y2 + 1)) else (kt_allBiscuits_4 f3_1 a6 m (y1 + (a6.getD y2.toInt.toNat 0)) (y2 + 1)))
theorem t_kt_allBiscuits_4 {f : Nat} {Q : Option Value → sm_H → Prop} : ∀ (m : Nat) {B D : Nat} {F : Nat → Nat → Int32} {A : Nat → List Int32} {L : Nat → List Int64} {y1 : Int32} {y2 : Int32}, m = (12 - y2.toInt).toNat → (∀ q2 : Int32, wl_E f B D mm107.2.2.2.2.2.2.2.2 33 [some (.ref 3), some (.int (kt_allBiscuits_4 (F 3 1) (A 6) m y1 y2)), some (.int q2)] [] (hz F A L) Q) → wl_E f B D mm107.2.2.2.2.2.2.2.2 4 [some (.ref 3), some (.int y1), some (.int y2)] [] (hz F A L) Q := by
  intro m
  induction m with
  | zero =>
    intro B D F A L y1 y2 hm K
    generalize hT : (kt_allBiscuits_4 (F 3 1) (A 6) 0 y1 y2) = T at K
    have hE : T = y1 := hT.symm
    clear hT
    refine w_n 2 (pc1 := 7) (ls1 := [some (.ref 3), some (.int y1), some (.int y2)]) (st1 := [.int 12, .int y2]) (hp1 := (hz F A L)) rfl ?_
    refine w_ge (p3 := 10) rfl rfl (fun hb => ?_) (fun h => False.elim (by have h : y2.toInt < 12 := h; omega))
    subst T
    exact cvE rfl rfl rfl (K _)
  | succ m ih =>
    intro B D F A L y1 y2 hm K
    generalize hT : (kt_allBiscuits_4 (F 3 1) (A 6) (m + 1) y1 y2) = T at K
    have hE : T = (if (kt_isTold (F 3 1) y2) = 0 then (kt_allBiscuits_4 (F 3 1) (A 6) m y1 (y2 + 1)) else (kt_allBiscuits_4 (F 3 1) (A 6) m (y1 + ((A 6).getD y2.toInt.toNat 0)) (y2 + 1))) := hT.symm
    clear hT
    refine w_n 2 (pc1 := 7) (ls1 := [some (.ref 3), some (.int y1), some (.int y2)]) (st1 := [.int 12, .int y2]) (hp1 := (hz F A L)) rfl ?_
    refine w_ge (p3 := 10) rfl rfl (fun h => False.elim (by have h : 12 ≤ y2.toInt := h; omega)) (fun hb => ?_)
    refine w_n 2 (pc1 := 12) (ls1 := [some (.ref 3), some (.int y1), some (.int y2)]) (st1 := [.int y2, .ref 3]) (hp1 := (hz F A L)) rfl ?_
    refine w_c rfl rfl (t_kt_isTold ?_)
    show wl_E f _ _ mm107.2.2.2.2.2.2.2.2 15 [some (.ref 3), some (.int y1), some (.int y2)] [.int (kt_isTold (F 3 1) y2)] (hz F A L) _
    generalize hG56 : (kt_isTold (F 3 1) y2) = G56 at hE ⊢
    refine w_zeq (p3 := 18) rfl rfl (fun h => ?_) (fun h => ?_)
    · have h1 : G56 = 0 := h
      rw [if_pos h1] at hE
      refine w_n 2 (pc1 := 4) (ls1 := [some (.ref 3), some (.int y1), some (.int (y2 + 1))]) (st1 := []) (hp1 := (hz F A L)) rfl ?_
      subst T
      have hb2 := i_up (B := (12 : Int32)) hb
      have hb3 : y2.toInt < 12 := hb
      exact ih (show m = (12 - (y2 + 1).toInt).toNat by rw [hb2]; omega) (fun q2 => cvE rfl rfl rfl (K q2))
    · have h1 : ¬ G56 = 0 := h
      rw [if_neg h1] at hE
      refine w_n 4 (pc1 := 24) (ls1 := [some (.ref 3), some (.int y1), some (.int y2)]) (st1 := [.int y2, .ref 6, .int y1]) (hp1 := (hz F A L)) rfl ?_
      refine w_al (k := 6) (l := (A 6)) rfl rfl rfl (fun ab => ?_)
      refine w_n 4 (pc1 := 4) (ls1 := [some (.ref 3), some (.int (y1 + ((A 6).getD y2.toInt.toNat 0))), some (.int (y2 + 1))]) (st1 := []) (hp1 := (hz F A L)) rfl ?_
      subst T
      have hb2 := i_up (B := (12 : Int32)) hb
      have hb3 : y2.toInt < 12 := hb
      exact ih (show m = (12 - (y2 + 1).toInt).toNat by rw [hb2]; omega) (fun q2 => cvE rfl rfl rfl (K q2))
noncomputable def kt_allBiscuits (f3_1 : Int32) (a6 : List Int32) : Int32 := (kt_allBiscuits_4 f3_1 a6 12 0 0)
theorem t_kt_allBiscuits {f D : Nat} {F : Nat → Nat → Int32} {A : Nat → List Int32} {L : Nat → List Int64} {Q : Option Value → sm_H → Prop} (K : Q (some (.int (kt_allBiscuits (F 3 1) (A 6)))) (hz F A L)) : wl_M f D 107 [.ref 3] (hz F A L) Q := by
  generalize hT : (kt_allBiscuits (F 3 1) (A 6)) = T at K
  have hE : T = (kt_allBiscuits_4 (F 3 1) (A 6) 12 0 0) := hT.symm
  clear hT
  refine w_m (E := mm107) rfl ?_
  show wl_E f f (D - 1) mm107.2.2.2.2.2.2.2.2 0 [some (.ref 3), none, none] [] (hz F A L) Q
  refine w_n 4 (pc1 := 4) (ls1 := [some (.ref 3), some (.int 0), some (.int 0)]) (st1 := []) (hp1 := (hz F A L)) rfl ?_
  refine t_kt_allBiscuits_4 12 (show (12 : Nat) = (12 - (0 : Int32).toInt).toNat by have e0 : (0 : Int32).toInt = 0 := rfl; first | rfl | omega) ?_
  intro r1
  show wl_E f _ _ mm107.2.2.2.2.2.2.2.2 33 [some (.ref 3), some (.int (kt_allBiscuits_4 (F 3 1) (A 6) 12 0 0)), some (.int r1)] [] (hz F A L) _
  generalize hG57 : (kt_allBiscuits_4 (F 3 1) (A 6) 12 0 0) = G57 at hE ⊢
  refine w_n 1 (pc1 := 34) (ls1 := [some (.ref 3), some (.int G57), some (.int r1)]) (st1 := [.int G57]) (hp1 := (hz F A L)) rfl ?_
  subst T
  exact w_ri rfl (cvQ rfl rfl rfl K)
noncomputable def kv_setsTurnedBy_13 (a40 : List Int32) (x1 : Int32) (x2 : Int32) : Nat → Int32 → Int32 → Int32
  | 0, y3, _ => y3
  | m + 1, y3, y4 => (if x2.toInt < (2 * y4).toInt then (kv_setsTurnedBy_13 a40 x1 x2 m y3 (y4 + 1)) else (if x2.toInt < (2 * (y4 + x1)).toInt then (kv_setsTurnedBy_13 a40 x1 x2 m (y3 + (a40.getD y4.toInt.toNat 0)) (y4 + 1)) else (kv_setsTurnedBy_13 a40 x1 x2 m y3 (y4 + 1))))
theorem t_kv_setsTurnedBy_13 {f : Nat} {Q : Option Value → sm_H → Prop} : ∀ (m : Nat) {B D : Nat} {F : Nat → Nat → Int32} {A : Nat → List Int32} {L : Nat → List Int64} {x1 : Int32} {x2 : Int32} {y3 : Int32} {y4 : Int32}, m = ((Int32.ofNat (A 40).length).toInt - y4.toInt).toNat → (∀ q4 : Int32, wl_E f B D mm109.2.2.2.2.2.2.2.2 57 [some (.ref 30), some (.int x1), some (.int x2), some (.int (kv_setsTurnedBy_13 (A 40) x1 x2 m y3 y4)), some (.int q4)] [] (hz F A L) Q) → wl_E f B D mm109.2.2.2.2.2.2.2.2 13 [some (.ref 30), some (.int x1), some (.int x2), some (.int y3), some (.int y4)] [] (hz F A L) Q := by
  intro m
  induction m with
  | zero =>
    intro B D F A L x1 x2 y3 y4 hm K
    generalize hT : (kv_setsTurnedBy_13 (A 40) x1 x2 0 y3 y4) = T at K
    have hE : T = y3 := hT.symm
    clear hT
    refine w_n 4 (pc1 := 20) (ls1 := [some (.ref 30), some (.int x1), some (.int x2), some (.int y3), some (.int y4)]) (st1 := [.int (Int32.ofNat (A 40).length), .int y4]) (hp1 := (hz F A L)) rfl ?_
    refine w_ge (p3 := 23) rfl rfl (fun hb => ?_) (fun h => False.elim (by have h : y4.toInt < (Int32.ofNat (A 40).length).toInt := h; omega))
    subst T
    exact cvE rfl rfl rfl (K _)
  | succ m ih =>
    intro B D F A L x1 x2 y3 y4 hm K
    generalize hT : (kv_setsTurnedBy_13 (A 40) x1 x2 (m + 1) y3 y4) = T at K
    have hE : T = (if x2.toInt < (2 * y4).toInt then (kv_setsTurnedBy_13 (A 40) x1 x2 m y3 (y4 + 1)) else (if x2.toInt < (2 * (y4 + x1)).toInt then (kv_setsTurnedBy_13 (A 40) x1 x2 m (y3 + ((A 40).getD y4.toInt.toNat 0)) (y4 + 1)) else (kv_setsTurnedBy_13 (A 40) x1 x2 m y3 (y4 + 1)))) := hT.symm
    clear hT
    refine w_n 4 (pc1 := 20) (ls1 := [some (.ref 30), some (.int x1), some (.int x2), some (.int y3), some (.int y4)]) (st1 := [.int (Int32.ofNat (A 40).length), .int y4]) (hp1 := (hz F A L)) rfl ?_
    refine w_ge (p3 := 23) rfl rfl (fun h => False.elim (by have h : (Int32.ofNat (A 40).length).toInt ≤ y4.toInt := h; omega)) (fun hb => ?_)
    refine w_n 4 (pc1 := 28) (ls1 := [some (.ref 30), some (.int x1), some (.int x2), some (.int y3), some (.int y4)]) (st1 := [.int x2, .int (2 * y4)]) (hp1 := (hz F A L)) rfl ?_
    refine w_gt (p3 := 31) rfl rfl (fun h => ?_) (fun h => ?_)
    · have h1 : x2.toInt < (2 * y4).toInt := h
      rw [if_pos h1] at hE
      refine w_n 2 (pc1 := 13) (ls1 := [some (.ref 30), some (.int x1), some (.int x2), some (.int y3), some (.int (y4 + 1))]) (st1 := []) (hp1 := (hz F A L)) rfl ?_
      subst T
      have hb2 := i_up (B := (Int32.ofNat (A 40).length)) hb
      have hb3 : y4.toInt < (Int32.ofNat (A 40).length).toInt := hb
      exact ih (show m = ((Int32.ofNat (A 40).length).toInt - (y4 + 1).toInt).toNat by rw [hb2]; omega) (fun q4 => cvE rfl rfl rfl (K q4))
    · have h1 : (2 * y4).toInt ≤ x2.toInt := h
      rw [if_neg (Int.not_lt.mpr h1)] at hE
      refine w_n 6 (pc1 := 38) (ls1 := [some (.ref 30), some (.int x1), some (.int x2), some (.int y3), some (.int y4)]) (st1 := [.int x2, .int (2 * (y4 + x1))]) (hp1 := (hz F A L)) rfl ?_
      refine w_le (p3 := 41) rfl rfl (fun h => ?_) (fun h => ?_)
      · have h2 : (2 * (y4 + x1)).toInt ≤ x2.toInt := h
        rw [if_neg (Int.not_lt.mpr h2)] at hE
        refine w_n 2 (pc1 := 13) (ls1 := [some (.ref 30), some (.int x1), some (.int x2), some (.int y3), some (.int (y4 + 1))]) (st1 := []) (hp1 := (hz F A L)) rfl ?_
        subst T
        have hb2 := i_up (B := (Int32.ofNat (A 40).length)) hb
        have hb3 : y4.toInt < (Int32.ofNat (A 40).length).toInt := hb
        exact ih (show m = ((Int32.ofNat (A 40).length).toInt - (y4 + 1).toInt).toNat by rw [hb2]; omega) (fun q4 => cvE rfl rfl rfl (K q4))
      · have h2 : x2.toInt < (2 * (y4 + x1)).toInt := h
        rw [if_pos h2] at hE
        refine w_n 4 (pc1 := 48) (ls1 := [some (.ref 30), some (.int x1), some (.int x2), some (.int y3), some (.int y4)]) (st1 := [.int y4, .ref 40, .int y3]) (hp1 := (hz F A L)) rfl ?_
        refine w_al (k := 40) (l := (A 40)) rfl rfl rfl (fun ab => ?_)
        refine w_n 4 (pc1 := 13) (ls1 := [some (.ref 30), some (.int x1), some (.int x2), some (.int (y3 + ((A 40).getD y4.toInt.toNat 0))), some (.int (y4 + 1))]) (st1 := []) (hp1 := (hz F A L)) rfl ?_
        subst T
        have hb2 := i_up (B := (Int32.ofNat (A 40).length)) hb
        have hb3 : y4.toInt < (Int32.ofNat (A 40).length).toInt := hb
        exact ih (show m = ((Int32.ofNat (A 40).length).toInt - (y4 + 1).toInt).toNat by rw [hb2]; omega) (fun q4 => cvE rfl rfl rfl (K q4))
noncomputable def kv_setsTurnedBy (f3_1 : Int32) (a6 : List Int32) (a40 : List Int32) (x1 : Int32) : Int32 := (kv_setsTurnedBy_13 a40 x1 (kt_allBiscuits f3_1 a6) ((Int32.ofNat a40.length).toInt).toNat 0 0)
theorem t_kv_setsTurnedBy {f D : Nat} {F : Nat → Nat → Int32} {A : Nat → List Int32} {L : Nat → List Int64} {Q : Option Value → sm_H → Prop} {x1 : Int32} (K : Q (some (.int (kv_setsTurnedBy (F 3 1) (A 6) (A 40) x1))) (hz F A L)) : wl_M f D 109 [.ref 30, .int x1] (hz F A L) Q := by
  generalize hT : (kv_setsTurnedBy (F 3 1) (A 6) (A 40) x1) = T at K
  have hE : T = (kv_setsTurnedBy_13 (A 40) x1 (kt_allBiscuits (F 3 1) (A 6)) ((Int32.ofNat (A 40).length).toInt).toNat 0 0) := hT.symm
  clear hT
  refine w_m (E := mm109) rfl ?_
  show wl_E f f (D - 1) mm109.2.2.2.2.2.2.2.2 0 [some (.ref 30), some (.int x1), none, none, none] [] (hz F A L) Q
  refine w_n 2 (pc1 := 4) (ls1 := [some (.ref 30), some (.int x1), none, none, none]) (st1 := [.ref 3]) (hp1 := (hz F A L)) rfl ?_
  refine w_c rfl rfl (t_kt_allBiscuits ?_)
  show wl_E f _ _ mm109.2.2.2.2.2.2.2.2 7 [some (.ref 30), some (.int x1), none, none, none] [.int (kt_allBiscuits (F 3 1) (A 6))] (hz F A L) _
  generalize hG58 : (kt_allBiscuits (F 3 1) (A 6)) = G58 at hE ⊢
  refine w_n 5 (pc1 := 13) (ls1 := [some (.ref 30), some (.int x1), some (.int G58), some (.int 0), some (.int 0)]) (st1 := []) (hp1 := (hz F A L)) rfl ?_
  refine t_kv_setsTurnedBy_13 (((Int32.ofNat (A 40).length).toInt).toNat) (show ((Int32.ofNat (A 40).length).toInt).toNat = ((Int32.ofNat (A 40).length).toInt - (0 : Int32).toInt).toNat by have e0 : (0 : Int32).toInt = 0 := rfl; first | rfl | omega) ?_
  intro r1
  show wl_E f _ _ mm109.2.2.2.2.2.2.2.2 57 [some (.ref 30), some (.int x1), some (.int G58), some (.int (kv_setsTurnedBy_13 (A 40) x1 G58 ((Int32.ofNat (A 40).length).toInt).toNat 0 0)), some (.int r1)] [] (hz F A L) _
  generalize hG59 : (kv_setsTurnedBy_13 (A 40) x1 G58 ((Int32.ofNat (A 40).length).toInt).toNat 0 0) = G59 at hE ⊢
  refine w_n 1 (pc1 := 58) (ls1 := [some (.ref 30), some (.int x1), some (.int G58), some (.int G59), some (.int r1)]) (st1 := [.int G59]) (hp1 := (hz F A L)) rfl ?_
  subst T
  exact w_ri rfl (cvQ rfl rfl rfl K)
noncomputable def kv_setsSwungBy (f3_1 : Int32) (a6 : List Int32) (a40 : List Int32) (x1 : Int32) : Int32 × List Int32 := ((kv_setsTurnedBy f3_1 a6 (kv_setsSwungBy_6 f3_1 a6 x1 12 0 (kv_beginSets a40)) (a6.getD x1.toInt.toNat 0)), (kv_setsSwungBy_6 f3_1 a6 x1 12 0 (kv_beginSets a40)))
theorem t_kv_setsSwungBy {f D : Nat} {F : Nat → Nat → Int32} {A : Nat → List Int32} {L : Nat → List Int64} {Q : Option Value → sm_H → Prop} {x1 : Int32} (K : Q (some (.int ((kv_setsSwungBy (F 3 1) (A 6) (A 40) x1).1))) (hz F (uA A 40 ((kv_setsSwungBy (F 3 1) (A 6) (A 40) x1).2)) L)) : wl_M f D 110 [.ref 30, .int x1] (hz F A L) Q := by
  generalize hT : (kv_setsSwungBy (F 3 1) (A 6) (A 40) x1) = T at K
  have hE : T = ((kv_setsTurnedBy (F 3 1) (A 6) (kv_setsSwungBy_6 (F 3 1) (A 6) x1 12 0 (kv_beginSets (A 40))) ((A 6).getD x1.toInt.toNat 0)), (kv_setsSwungBy_6 (F 3 1) (A 6) x1 12 0 (kv_beginSets (A 40)))) := hT.symm
  clear hT
  refine w_m (E := mm110) rfl ?_
  show wl_E f f (D - 1) mm110.2.2.2.2.2.2.2.2 0 [some (.ref 30), some (.int x1), none] [] (hz F A L) Q
  refine w_n 1 (pc1 := 1) (ls1 := [some (.ref 30), some (.int x1), none]) (st1 := [.ref 30]) (hp1 := (hz F A L)) rfl ?_
  refine w_c rfl rfl (t_kv_beginSets ?_)
  show wl_E f _ _ mm110.2.2.2.2.2.2.2.2 4 [some (.ref 30), some (.int x1), none] [] (hz F (uA A 40 (kv_beginSets (A 40))) L) _
  generalize hG51 : (kv_beginSets (A 40)) = G51 at hE ⊢
  refine w_n 2 (pc1 := 6) (ls1 := [some (.ref 30), some (.int x1), some (.int 0)]) (st1 := []) (hp1 := (hz F (uA A 40 G51) L)) rfl ?_
  refine t_kv_setsSwungBy_6 12 (show (12 : Nat) = (12 - (0 : Int32).toInt).toNat by have e0 : (0 : Int32).toInt = 0 := rfl; first | rfl | omega) ?_
  intro r1
  show wl_E f _ _ mm110.2.2.2.2.2.2.2.2 47 [some (.ref 30), some (.int x1), some (.int r1)] [] (hz F (uA (uA A 40 G51) 40 (kv_setsSwungBy_6 (F 3 1) (A 6) x1 12 0 G51)) L) _
  generalize hG55 : (kv_setsSwungBy_6 (F 3 1) (A 6) x1 12 0 G51) = G55 at hE ⊢
  refine w_n 5 (pc1 := 56) (ls1 := [some (.ref 30), some (.int x1), some (.int r1)]) (st1 := [.int x1, .ref 6, .ref 30]) (hp1 := (hz F (uA (uA A 40 G51) 40 G55) L)) rfl ?_
  refine w_al (k := 6) (l := (A 6)) rfl rfl rfl (fun _ => ?_)
  refine w_c rfl rfl (t_kv_setsTurnedBy ?_)
  show wl_E f _ _ mm110.2.2.2.2.2.2.2.2 60 [some (.ref 30), some (.int x1), some (.int r1)] [.int (kv_setsTurnedBy (F 3 1) (A 6) G55 ((A 6).getD x1.toInt.toNat 0))] (hz F (uA (uA A 40 G51) 40 G55) L) _
  generalize hG60 : (kv_setsTurnedBy (F 3 1) (A 6) G55 ((A 6).getD x1.toInt.toNat 0)) = G60 at hE ⊢
  subst T
  exact w_ri rfl (cvQ rfl (funext fun q => if k0 : q = 40 then by subst k0; exact Eq.trans (b := G55) rfl rfl else by unfold uA; simp only [nb1 k0, cond_false]) rfl K)
noncomputable def kv_leastWinningSets_15 (f3_1 : Int32) (a6 : List Int32) (x2 : Int32) : Nat → Int32 → Int32 → List Int32 → Int32 × List Int32
  | 0, y1, _, a40 => (y1, a40)
  | m + 1, y1, y3, a40 => (if (kt_isTold f3_1 y3) = 0 then (kv_leastWinningSets_15 f3_1 a6 x2 m y1 (y3 + 1) a40) else (if (a6.getD y3.toInt.toNat 0) = x2 then (kv_leastWinningSets_15 f3_1 a6 x2 m (y1 + (kv_setsTurnedBy f3_1 a6 a40 x2)) (y3 + 1) (kv_joinSets a40 x2)) else (kv_leastWinningSets_15 f3_1 a6 x2 m y1 (y3 + 1) a40)))
theorem t_kv_leastWinningSets_15 {f : Nat} {Q : Option Value → sm_H → Prop} : ∀ (m : Nat) {B D : Nat} {F : Nat → Nat → Int32} {A : Nat → List Int32} {L : Nat → List Int64} {y1 : Int32} {x2 : Int32} {y3 : Int32}, m = (12 - y3.toInt).toNat → (∀ q3 : Int32, wl_E f B D mm108.2.2.2.2.2.2.2.2 67 [some (.ref 30), some (.int ((kv_leastWinningSets_15 (F 3 1) (A 6) x2 m y1 y3 (A 40)).1)), some (.int x2), some (.int q3)] [] (hz F (uA A 40 ((kv_leastWinningSets_15 (F 3 1) (A 6) x2 m y1 y3 (A 40)).2)) L) Q) → wl_E f B D mm108.2.2.2.2.2.2.2.2 15 [some (.ref 30), some (.int y1), some (.int x2), some (.int y3)] [] (hz F A L) Q := by
  intro m
  induction m with
  | zero =>
    intro B D F A L y1 x2 y3 hm K
    generalize hT : (kv_leastWinningSets_15 (F 3 1) (A 6) x2 0 y1 y3 (A 40)) = T at K
    have hE : T = (y1, (A 40)) := hT.symm
    clear hT
    refine w_n 2 (pc1 := 18) (ls1 := [some (.ref 30), some (.int y1), some (.int x2), some (.int y3)]) (st1 := [.int 12, .int y3]) (hp1 := (hz F A L)) rfl ?_
    refine w_ge (p3 := 21) rfl rfl (fun hb => ?_) (fun h => False.elim (by have h : y3.toInt < 12 := h; omega))
    subst T
    exact cvE rfl (funext fun q => if k0 : q = 40 then by subst k0; exact Eq.trans (b := (A 40)) rfl rfl else by unfold uA; simp only [nb1 k0, cond_false]) rfl (K _)
  | succ m ih =>
    intro B D F A L y1 x2 y3 hm K
    generalize hT : (kv_leastWinningSets_15 (F 3 1) (A 6) x2 (m + 1) y1 y3 (A 40)) = T at K
    have hE : T = (if (kt_isTold (F 3 1) y3) = 0 then (kv_leastWinningSets_15 (F 3 1) (A 6) x2 m y1 (y3 + 1) (A 40)) else (if ((A 6).getD y3.toInt.toNat 0) = x2 then (kv_leastWinningSets_15 (F 3 1) (A 6) x2 m (y1 + (kv_setsTurnedBy (F 3 1) (A 6) (A 40) x2)) (y3 + 1) (kv_joinSets (A 40) x2)) else (kv_leastWinningSets_15 (F 3 1) (A 6) x2 m y1 (y3 + 1) (A 40)))) := hT.symm
    clear hT
    refine w_n 2 (pc1 := 18) (ls1 := [some (.ref 30), some (.int y1), some (.int x2), some (.int y3)]) (st1 := [.int 12, .int y3]) (hp1 := (hz F A L)) rfl ?_
    refine w_ge (p3 := 21) rfl rfl (fun h => False.elim (by have h : 12 ≤ y3.toInt := h; omega)) (fun hb => ?_)
    refine w_n 3 (pc1 := 26) (ls1 := [some (.ref 30), some (.int y1), some (.int x2), some (.int y3)]) (st1 := [.int y3, .ref 3]) (hp1 := (hz F A L)) rfl ?_
    refine w_c rfl rfl (t_kt_isTold ?_)
    show wl_E f _ _ mm108.2.2.2.2.2.2.2.2 29 [some (.ref 30), some (.int y1), some (.int x2), some (.int y3)] [.int (kt_isTold (F 3 1) y3)] (hz F A L) _
    generalize hG65 : (kt_isTold (F 3 1) y3) = G65 at hE ⊢
    refine w_zeq (p3 := 32) rfl rfl (fun h => ?_) (fun h => ?_)
    · have h1 : G65 = 0 := h
      rw [if_pos h1] at hE
      refine w_n 2 (pc1 := 15) (ls1 := [some (.ref 30), some (.int y1), some (.int x2), some (.int (y3 + 1))]) (st1 := []) (hp1 := (hz F A L)) rfl ?_
      subst T
      have hb2 := i_up (B := (12 : Int32)) hb
      have hb3 : y3.toInt < 12 := hb
      exact ih (show m = (12 - (y3 + 1).toInt).toNat by rw [hb2]; omega) (fun q3 => cvE rfl (funext fun q => if k0 : q = 40 then by subst k0; exact Eq.trans (b := (kv_leastWinningSets_15 (F 3 1) (A 6) x2 m y1 (y3 + 1) (A 40)).2) rfl rfl else by unfold uA; simp only [nb1 k0, cond_false]) rfl (K q3))
    · have h1 : ¬ G65 = 0 := h
      rw [if_neg h1] at hE
      refine w_n 4 (pc1 := 40) (ls1 := [some (.ref 30), some (.int y1), some (.int x2), some (.int y3)]) (st1 := [.int y3, .ref 6]) (hp1 := (hz F A L)) rfl ?_
      refine w_al (k := 6) (l := (A 6)) rfl rfl rfl (fun ab => ?_)
      refine w_n 1 (pc1 := 42) (ls1 := [some (.ref 30), some (.int y1), some (.int x2), some (.int y3)]) (st1 := [.int x2, .int ((A 6).getD y3.toInt.toNat 0)]) (hp1 := (hz F A L)) rfl ?_
      refine w_eq (p3 := 45) rfl rfl (fun h => ?_) (fun h => ?_)
      · have h2 : ((A 6).getD y3.toInt.toNat 0) = x2 := h
        rw [if_pos h2] at hE
        refine w_n 3 (pc1 := 51) (ls1 := [some (.ref 30), some (.int y1), some (.int x2), some (.int y3)]) (st1 := [.int x2, .ref 30, .int y1]) (hp1 := (hz F A L)) rfl ?_
        refine w_c rfl rfl (t_kv_setsTurnedBy ?_)
        show wl_E f _ _ mm108.2.2.2.2.2.2.2.2 54 [some (.ref 30), some (.int y1), some (.int x2), some (.int y3)] [.int (kv_setsTurnedBy (F 3 1) (A 6) (A 40) x2), .int y1] (hz F A L) _
        generalize hG66 : (kv_setsTurnedBy (F 3 1) (A 6) (A 40) x2) = G66 at hE ⊢
        refine w_n 4 (pc1 := 58) (ls1 := [some (.ref 30), some (.int (y1 + G66)), some (.int x2), some (.int y3)]) (st1 := [.int x2, .ref 30]) (hp1 := (hz F A L)) rfl ?_
        refine w_c rfl rfl (t_kv_joinSets ?_)
        show wl_E f _ _ mm108.2.2.2.2.2.2.2.2 61 [some (.ref 30), some (.int (y1 + G66)), some (.int x2), some (.int y3)] [] (hz F (uA A 40 (kv_joinSets (A 40) x2)) L) _
        generalize hG67 : (kv_joinSets (A 40) x2) = G67 at hE ⊢
        refine w_n 2 (pc1 := 15) (ls1 := [some (.ref 30), some (.int (y1 + G66)), some (.int x2), some (.int (y3 + 1))]) (st1 := []) (hp1 := (hz F (uA A 40 G67) L)) rfl ?_
        subst T
        have hb2 := i_up (B := (12 : Int32)) hb
        have hb3 : y3.toInt < 12 := hb
        exact ih (show m = (12 - (y3 + 1).toInt).toNat by rw [hb2]; omega) (fun q3 => cvE rfl (funext fun q => if k0 : q = 40 then by subst k0; exact Eq.trans (b := (kv_leastWinningSets_15 (F 3 1) (A 6) x2 m (y1 + G66) (y3 + 1) G67).2) rfl rfl else by unfold uA; simp only [nb1 k0, cond_false]) rfl (K q3))
      · have h2 : ¬ ((A 6).getD y3.toInt.toNat 0) = x2 := h
        rw [if_neg h2] at hE
        refine w_n 3 (pc1 := 15) (ls1 := [some (.ref 30), some (.int y1), some (.int x2), some (.int (y3 + 1))]) (st1 := []) (hp1 := (hz F A L)) rfl ?_
        subst T
        have hb2 := i_up (B := (12 : Int32)) hb
        have hb3 : y3.toInt < 12 := hb
        exact ih (show m = (12 - (y3 + 1).toInt).toNat by rw [hb2]; omega) (fun q3 => cvE rfl (funext fun q => if k0 : q = 40 then by subst k0; exact Eq.trans (b := (kv_leastWinningSets_15 (F 3 1) (A 6) x2 m y1 (y3 + 1) (A 40)).2) rfl rfl else by unfold uA; simp only [nb1 k0, cond_false]) rfl (K q3))
