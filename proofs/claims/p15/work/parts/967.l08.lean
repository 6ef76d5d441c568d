/-! lifts, printed by genlift.py: 8 -/
def km_best (f67_3 : Int32) (a68 : List Int32) : Int32 := (km_best_2 f67_3 a68 f67_3.toInt.toNat 0)
theorem t_km_best {f D : Nat} {F : Nat → Nat → Int32} {A : Nat → List Int32} {L : Nat → List Int64} {Q : Option Value → sm_H → Prop} (K : Q (some (.int (km_best (F 67 3) (A 68)))) (hz F A L)) : wl_M f D 211 [.ref 67] (hz F A L) Q := by
  generalize hT : (km_best (F 67 3) (A 68)) = T at K
  have hE : T = (km_best_2 (F 67 3) (A 68) (F 67 3).toInt.toNat 0) := hT.symm
  clear hT
  refine w_m (E := mm211) rfl ?_
  show wl_E f f (D - 1) mm211.2.2.2.2.2.2.2.2 0 [some (.ref 67), none] [] (hz F A L) Q
  refine w_n 2 (pc1 := 2) (ls1 := [some (.ref 67), some (.int 0)]) (st1 := []) (hp1 := (hz F A L)) rfl ?_
  subst T
  exact t_km_best_2 _ (show (F 67 3).toInt.toNat = ((F 67 3).toInt - (0 : Int32).toInt).toNat by have e0 : (0 : Int32).toInt = 0 := rfl; first | rfl | omega) (cvQ rfl rfl rfl K)
def kji_bitCount (x0 : Int32) : Int32 := ((((((((x0 - (((x0.toUInt32 >>> ((1 : Int32).toUInt32 &&& Int32.toUInt32 31)).toInt32) &&& 1431655765)) &&& 858993459) + ((((x0 - (((x0.toUInt32 >>> ((1 : Int32).toUInt32 &&& Int32.toUInt32 31)).toInt32) &&& 1431655765)).toUInt32 >>> ((2 : Int32).toUInt32 &&& Int32.toUInt32 31)).toInt32) &&& 858993459)) + (((((x0 - (((x0.toUInt32 >>> ((1 : Int32).toUInt32 &&& Int32.toUInt32 31)).toInt32) &&& 1431655765)) &&& 858993459) + ((((x0 - (((x0.toUInt32 >>> ((1 : Int32).toUInt32 &&& Int32.toUInt32 31)).toInt32) &&& 1431655765)).toUInt32 >>> ((2 : Int32).toUInt32 &&& Int32.toUInt32 31)).toInt32) &&& 858993459)).toUInt32 >>> ((4 : Int32).toUInt32 &&& Int32.toUInt32 31)).toInt32)) &&& 252645135) + (((((((x0 - (((x0.toUInt32 >>> ((1 : Int32).toUInt32 &&& Int32.toUInt32 31)).toInt32) &&& 1431655765)) &&& 858993459) + ((((x0 - (((x0.toUInt32 >>> ((1 : Int32).toUInt32 &&& Int32.toUInt32 31)).toInt32) &&& 1431655765)).toUInt32 >>> ((2 : Int32).toUInt32 &&& Int32.toUInt32 31)).toInt32) &&& 858993459)) + (((((x0 - (((x0.toUInt32 >>> ((1 : Int32).toUInt32 &&& Int32.toUInt32 31)).toInt32) &&& 1431655765)) &&& 858993459) + ((((x0 - (((x0.toUInt32 >>> ((1 : Int32).toUInt32 &&& Int32.toUInt32 31)).toInt32) &&& 1431655765)).toUInt32 >>> ((2 : Int32).toUInt32 &&& Int32.toUInt32 31)).toInt32) &&& 858993459)).toUInt32 >>> ((4 : Int32).toUInt32 &&& Int32.toUInt32 31)).toInt32)) &&& 252645135).toUInt32 >>> ((8 : Int32).toUInt32 &&& Int32.toUInt32 31)).toInt32)) + ((((((((x0 - (((x0.toUInt32 >>> ((1 : Int32).toUInt32 &&& Int32.toUInt32 31)).toInt32) &&& 1431655765)) &&& 858993459) + ((((x0 - (((x0.toUInt32 >>> ((1 : Int32).toUInt32 &&& Int32.toUInt32 31)).toInt32) &&& 1431655765)).toUInt32 >>> ((2 : Int32).toUInt32 &&& Int32.toUInt32 31)).toInt32) &&& 858993459)) + (((((x0 - (((x0.toUInt32 >>> ((1 : Int32).toUInt32 &&& Int32.toUInt32 31)).toInt32) &&& 1431655765)) &&& 858993459) + ((((x0 - (((x0.toUInt32 >>> ((1 : Int32).toUInt32 &&& Int32.toUInt32 31)).toInt32) &&& 1431655765)).toUInt32 >>> ((2 : Int32).toUInt32 &&& Int32.toUInt32 31)).toInt32) &&& 858993459)).toUInt32 >>> ((4 : Int32).toUInt32 &&& Int32.toUInt32 31)).toInt32)) &&& 252645135) + (((((((x0 - (((x0.toUInt32 >>> ((1 : Int32).toUInt32 &&& Int32.toUInt32 31)).toInt32) &&& 1431655765)) &&& 858993459) + ((((x0 - (((x0.toUInt32 >>> ((1 : Int32).toUInt32 &&& Int32.toUInt32 31)).toInt32) &&& 1431655765)).toUInt32 >>> ((2 : Int32).toUInt32 &&& Int32.toUInt32 31)).toInt32) &&& 858993459)) + (((((x0 - (((x0.toUInt32 >>> ((1 : Int32).toUInt32 &&& Int32.toUInt32 31)).toInt32) &&& 1431655765)) &&& 858993459) + ((((x0 - (((x0.toUInt32 >>> ((1 : Int32).toUInt32 &&& Int32.toUInt32 31)).toInt32) &&& 1431655765)).toUInt32 >>> ((2 : Int32).toUInt32 &&& Int32.toUInt32 31)).toInt32) &&& 858993459)).toUInt32 >>> ((4 : Int32).toUInt32 &&& Int32.toUInt32 31)).toInt32)) &&& 252645135).toUInt32 >>> ((8 : Int32).toUInt32 &&& Int32.toUInt32 31)).toInt32)).toUInt32 >>> ((16 : Int32).toUInt32 &&& Int32.toUInt32 31)).toInt32)) &&& 63)
theorem t_kji_bitCount {f D : Nat} {F : Nat → Nat → Int32} {A : Nat → List Int32} {L : Nat → List Int64} {Q : Option Value → sm_H → Prop} {x0 : Int32} (K : Q (some (.int (kji_bitCount x0))) (hz F A L)) : wl_M f D 72 [.int x0] (hz F A L) Q := by
  generalize hT : (kji_bitCount x0) = T at K
  have hE : T = ((((((((x0 - (((x0.toUInt32 >>> ((1 : Int32).toUInt32 &&& Int32.toUInt32 31)).toInt32) &&& 1431655765)) &&& 858993459) + ((((x0 - (((x0.toUInt32 >>> ((1 : Int32).toUInt32 &&& Int32.toUInt32 31)).toInt32) &&& 1431655765)).toUInt32 >>> ((2 : Int32).toUInt32 &&& Int32.toUInt32 31)).toInt32) &&& 858993459)) + (((((x0 - (((x0.toUInt32 >>> ((1 : Int32).toUInt32 &&& Int32.toUInt32 31)).toInt32) &&& 1431655765)) &&& 858993459) + ((((x0 - (((x0.toUInt32 >>> ((1 : Int32).toUInt32 &&& Int32.toUInt32 31)).toInt32) &&& 1431655765)).toUInt32 >>> ((2 : Int32).toUInt32 &&& Int32.toUInt32 31)).toInt32) &&& 858993459)).toUInt32 >>> ((4 : Int32).toUInt32 &&& Int32.toUInt32 31)).toInt32)) &&& 252645135) + (((((((x0 - (((x0.toUInt32 >>> ((1 : Int32).toUInt32 &&& Int32.toUInt32 31)).toInt32) &&& 1431655765)) &&& 858993459) + ((((x0 - (((x0.toUInt32 >>> ((1 : Int32).toUInt32 &&& Int32.toUInt32 31)).toInt32) &&& 1431655765)).toUInt32 >>> ((2 : Int32).toUInt32 &&& Int32.toUInt32 31)).toInt32) &&& 858993459)) + (((((x0 - (((x0.toUInt32 >>> ((1 : Int32).toUInt32 &&& Int32.toUInt32 31)).toInt32) &&& 1431655765)) &&& 858993459) + ((((x0 - (((x0.toUInt32 >>> ((1 : Int32).toUInt32 &&& Int32.toUInt32 31)).toInt32) &&& 1431655765)).toUInt32 >>> ((2 : Int32).toUInt32 &&& Int32.toUInt32 31)).toInt32) &&& 858993459)).toUInt32 >>> ((4 : Int32).toUInt32 &&& Int32.toUInt32 31)).toInt32)) &&& 252645135).toUInt32 >>> ((8 : Int32).toUInt32 &&& Int32.toUInt32 31)).toInt32)) + ((((((((x0 - (((x0.toUInt32 >>> ((1 : Int32).toUInt32 &&& Int32.toUInt32 31)).toInt32) &&& 1431655765)) &&& 858993459) + ((((x0 - (((x0.toUInt32 >>> ((1 : Int32).toUInt32 &&& Int32.toUInt32 31)).toInt32) &&& 1431655765)).toUInt32 >>> ((2 : Int32).toUInt32 &&& Int32.toUInt32 31)).toInt32) &&& 858993459)) + (((((x0 - (((x0.toUInt32 >>> ((1 : Int32).toUInt32 &&& Int32.toUInt32 31)).toInt32) &&& 1431655765)) &&& 858993459) + ((((x0 - (((x0.toUInt32 >>> ((1 : Int32).toUInt32 &&& Int32.toUInt32 31)).toInt32) &&& 1431655765)).toUInt32 >>> ((2 : Int32).toUInt32 &&& Int32.toUInt32 31)).toInt32) &&& 858993459)).toUInt32 >>> ((4 : Int32).toUInt32 &&& Int32.toUInt32 31)).toInt32)) &&& 252645135) + (((((((x0 - (((x0.toUInt32 >>> ((1 : Int32).toUInt32 &&& Int32.toUInt32 31)).toInt32) &&& 1431655765)) &&& 858993459) + ((((x0 - (((x0.toUInt32 >>> ((1 : Int32).toUInt32 &&& Int32.toUInt32 31)).toInt32) &&& 1431655765)).toUInt32 >>> ((2 : Int32).toUInt32 &&& Int32.toUInt32 31)).toInt32) &&& 858993459)) + (((((x0 - (((x0.toUInt32 >>> ((1 : Int32).toUInt32 &&& Int32.toUInt32 31)).toInt32) &&& 1431655765)) &&& 858993459) + ((((x0 - (((x0.toUInt32 >>> ((1 : Int32).toUInt32 &&& Int32.toUInt32 31)).toInt32) &&& 1431655765)).toUInt32 >>> ((2 : Int32).toUInt32 &&& Int32.toUInt32 31)).toInt32) &&& 858993459)).toUInt32 >>> ((4 : Int32).toUInt32 &&& Int32.toUInt32 31)).toInt32)) &&& 252645135).toUInt32 >>> ((8 : Int32).toUInt32 &&& Int32.toUInt32 31)).toInt32)).toUInt32 >>> ((16 : Int32).toUInt32 &&& Int32.toUInt32 31)).toInt32)) &&& 63) := hT.symm
  clear hT
  refine w_m (E := mm72) rfl ?_
  show wl_E f f (D - 1) mm72.2.2.2.2.2.2.2.2 0 [some (.int x0)] [] (hz F A L) Q
  refine w_n 41 (pc1 := 52) (ls1 := [some (.int (((((((x0 - (((x0.toUInt32 >>> ((1 : Int32).toUInt32 &&& Int32.toUInt32 31)).toInt32) &&& 1431655765)) &&& 858993459) + ((((x0 - (((x0.toUInt32 >>> ((1 : Int32).toUInt32 &&& Int32.toUInt32 31)).toInt32) &&& 1431655765)).toUInt32 >>> ((2 : Int32).toUInt32 &&& Int32.toUInt32 31)).toInt32) &&& 858993459)) + (((((x0 - (((x0.toUInt32 >>> ((1 : Int32).toUInt32 &&& Int32.toUInt32 31)).toInt32) &&& 1431655765)) &&& 858993459) + ((((x0 - (((x0.toUInt32 >>> ((1 : Int32).toUInt32 &&& Int32.toUInt32 31)).toInt32) &&& 1431655765)).toUInt32 >>> ((2 : Int32).toUInt32 &&& Int32.toUInt32 31)).toInt32) &&& 858993459)).toUInt32 >>> ((4 : Int32).toUInt32 &&& Int32.toUInt32 31)).toInt32)) &&& 252645135) + (((((((x0 - (((x0.toUInt32 >>> ((1 : Int32).toUInt32 &&& Int32.toUInt32 31)).toInt32) &&& 1431655765)) &&& 858993459) + ((((x0 - (((x0.toUInt32 >>> ((1 : Int32).toUInt32 &&& Int32.toUInt32 31)).toInt32) &&& 1431655765)).toUInt32 >>> ((2 : Int32).toUInt32 &&& Int32.toUInt32 31)).toInt32) &&& 858993459)) + (((((x0 - (((x0.toUInt32 >>> ((1 : Int32).toUInt32 &&& Int32.toUInt32 31)).toInt32) &&& 1431655765)) &&& 858993459) + ((((x0 - (((x0.toUInt32 >>> ((1 : Int32).toUInt32 &&& Int32.toUInt32 31)).toInt32) &&& 1431655765)).toUInt32 >>> ((2 : Int32).toUInt32 &&& Int32.toUInt32 31)).toInt32) &&& 858993459)).toUInt32 >>> ((4 : Int32).toUInt32 &&& Int32.toUInt32 31)).toInt32)) &&& 252645135).toUInt32 >>> ((8 : Int32).toUInt32 &&& Int32.toUInt32 31)).toInt32)) + ((((((((x0 - (((x0.toUInt32 >>> ((1 : Int32).toUInt32 &&& Int32.toUInt32 31)).toInt32) &&& 1431655765)) &&& 858993459) + ((((x0 - (((x0.toUInt32 >>> ((1 : Int32).toUInt32 &&& Int32.toUInt32 31)).toInt32) &&& 1431655765)).toUInt32 >>> ((2 : Int32).toUInt32 &&& Int32.toUInt32 31)).toInt32) &&& 858993459)) + (((((x0 - (((x0.toUInt32 >>> ((1 : Int32).toUInt32 &&& Int32.toUInt32 31)).toInt32) &&& 1431655765)) &&& 858993459) + ((((x0 - (((x0.toUInt32 >>> ((1 : Int32).toUInt32 &&& Int32.toUInt32 31)).toInt32) &&& 1431655765)).toUInt32 >>> ((2 : Int32).toUInt32 &&& Int32.toUInt32 31)).toInt32) &&& 858993459)).toUInt32 >>> ((4 : Int32).toUInt32 &&& Int32.toUInt32 31)).toInt32)) &&& 252645135) + (((((((x0 - (((x0.toUInt32 >>> ((1 : Int32).toUInt32 &&& Int32.toUInt32 31)).toInt32) &&& 1431655765)) &&& 858993459) + ((((x0 - (((x0.toUInt32 >>> ((1 : Int32).toUInt32 &&& Int32.toUInt32 31)).toInt32) &&& 1431655765)).toUInt32 >>> ((2 : Int32).toUInt32 &&& Int32.toUInt32 31)).toInt32) &&& 858993459)) + (((((x0 - (((x0.toUInt32 >>> ((1 : Int32).toUInt32 &&& Int32.toUInt32 31)).toInt32) &&& 1431655765)) &&& 858993459) + ((((x0 - (((x0.toUInt32 >>> ((1 : Int32).toUInt32 &&& Int32.toUInt32 31)).toInt32) &&& 1431655765)).toUInt32 >>> ((2 : Int32).toUInt32 &&& Int32.toUInt32 31)).toInt32) &&& 858993459)).toUInt32 >>> ((4 : Int32).toUInt32 &&& Int32.toUInt32 31)).toInt32)) &&& 252645135).toUInt32 >>> ((8 : Int32).toUInt32 &&& Int32.toUInt32 31)).toInt32)).toUInt32 >>> ((16 : Int32).toUInt32 &&& Int32.toUInt32 31)).toInt32)))]) (st1 := [.int ((((((((x0 - (((x0.toUInt32 >>> ((1 : Int32).toUInt32 &&& Int32.toUInt32 31)).toInt32) &&& 1431655765)) &&& 858993459) + ((((x0 - (((x0.toUInt32 >>> ((1 : Int32).toUInt32 &&& Int32.toUInt32 31)).toInt32) &&& 1431655765)).toUInt32 >>> ((2 : Int32).toUInt32 &&& Int32.toUInt32 31)).toInt32) &&& 858993459)) + (((((x0 - (((x0.toUInt32 >>> ((1 : Int32).toUInt32 &&& Int32.toUInt32 31)).toInt32) &&& 1431655765)) &&& 858993459) + ((((x0 - (((x0.toUInt32 >>> ((1 : Int32).toUInt32 &&& Int32.toUInt32 31)).toInt32) &&& 1431655765)).toUInt32 >>> ((2 : Int32).toUInt32 &&& Int32.toUInt32 31)).toInt32) &&& 858993459)).toUInt32 >>> ((4 : Int32).toUInt32 &&& Int32.toUInt32 31)).toInt32)) &&& 252645135) + (((((((x0 - (((x0.toUInt32 >>> ((1 : Int32).toUInt32 &&& Int32.toUInt32 31)).toInt32) &&& 1431655765)) &&& 858993459) + ((((x0 - (((x0.toUInt32 >>> ((1 : Int32).toUInt32 &&& Int32.toUInt32 31)).toInt32) &&& 1431655765)).toUInt32 >>> ((2 : Int32).toUInt32 &&& Int32.toUInt32 31)).toInt32) &&& 858993459)) + (((((x0 - (((x0.toUInt32 >>> ((1 : Int32).toUInt32 &&& Int32.toUInt32 31)).toInt32) &&& 1431655765)) &&& 858993459) + ((((x0 - (((x0.toUInt32 >>> ((1 : Int32).toUInt32 &&& Int32.toUInt32 31)).toInt32) &&& 1431655765)).toUInt32 >>> ((2 : Int32).toUInt32 &&& Int32.toUInt32 31)).toInt32) &&& 858993459)).toUInt32 >>> ((4 : Int32).toUInt32 &&& Int32.toUInt32 31)).toInt32)) &&& 252645135).toUInt32 >>> ((8 : Int32).toUInt32 &&& Int32.toUInt32 31)).toInt32)) + ((((((((x0 - (((x0.toUInt32 >>> ((1 : Int32).toUInt32 &&& Int32.toUInt32 31)).toInt32) &&& 1431655765)) &&& 858993459) + ((((x0 - (((x0.toUInt32 >>> ((1 : Int32).toUInt32 &&& Int32.toUInt32 31)).toInt32) &&& 1431655765)).toUInt32 >>> ((2 : Int32).toUInt32 &&& Int32.toUInt32 31)).toInt32) &&& 858993459)) + (((((x0 - (((x0.toUInt32 >>> ((1 : Int32).toUInt32 &&& Int32.toUInt32 31)).toInt32) &&& 1431655765)) &&& 858993459) + ((((x0 - (((x0.toUInt32 >>> ((1 : Int32).toUInt32 &&& Int32.toUInt32 31)).toInt32) &&& 1431655765)).toUInt32 >>> ((2 : Int32).toUInt32 &&& Int32.toUInt32 31)).toInt32) &&& 858993459)).toUInt32 >>> ((4 : Int32).toUInt32 &&& Int32.toUInt32 31)).toInt32)) &&& 252645135) + (((((((x0 - (((x0.toUInt32 >>> ((1 : Int32).toUInt32 &&& Int32.toUInt32 31)).toInt32) &&& 1431655765)) &&& 858993459) + ((((x0 - (((x0.toUInt32 >>> ((1 : Int32).toUInt32 &&& Int32.toUInt32 31)).toInt32) &&& 1431655765)).toUInt32 >>> ((2 : Int32).toUInt32 &&& Int32.toUInt32 31)).toInt32) &&& 858993459)) + (((((x0 - (((x0.toUInt32 >>> ((1 : Int32).toUInt32 &&& Int32.toUInt32 31)).toInt32) &&& 1431655765)) &&& 858993459) + ((((x0 - (((x0.toUInt32 >>> ((1 : Int32).toUInt32 &&& Int32.toUInt32 31)).toInt32) &&& 1431655765)).toUInt32 >>> ((2 : Int32).toUInt32 &&& Int32.toUInt32 31)).toInt32) &&& 858993459)).toUInt32 >>> ((4 : Int32).toUInt32 &&& Int32.toUInt32 31)).toInt32)) &&& 252645135).toUInt32 >>> ((8 : Int32).toUInt32 &&& Int32.toUInt32 31)).toInt32)).toUInt32 >>> ((16 : Int32).toUInt32 &&& Int32.toUInt32 31)).toInt32)) &&& 63)]) (hp1 := (hz F A L)) rfl ?_
  subst T
  exact w_ri rfl (cvQ rfl rfl rfl K)
def kv_beatsTheRest_14 (a33 : List Int32) (x1 : Int32) (x2 : Int32) : Nat → Int32 → Int32
  | 0, _ => 1
  | m + 1, y3 => (if ((x1 >>> (y3 &&& 31)) &&& 1) = 0 then (kv_beatsTheRest_14 a33 x1 x2 m (y3 + 1)) else (if (x2 &&& ((a33.getD y3.toInt.toNat 0) ^^^ (-1))) = 0 then (kv_beatsTheRest_14 a33 x1 x2 m (y3 + 1)) else 0))
theorem t_kv_beatsTheRest_14 {f : Nat} {Q : Option Value → sm_H → Prop} : ∀ (m : Nat) {B D : Nat} {F : Nat → Nat → Int32} {A : Nat → List Int32} {L : Nat → List Int64} {x1 : Int32} {x2 : Int32} {y3 : Int32}, m = ((F 3 0).toInt - y3.toInt).toNat → (Q (some (.int (kv_beatsTheRest_14 (A 33) x1 x2 m y3))) (hz F A L)) → wl_E f B D mm89.2.2.2.2.2.2.2.2 14 [some (.ref 30), some (.int x1), some (.int x2), some (.int y3)] [] (hz F A L) Q := by
  intro m
  induction m with
  | zero =>
    intro B D F A L x1 x2 y3 hm K
    generalize hT : (kv_beatsTheRest_14 (A 33) x1 x2 0 y3) = T at K
    have hE : T = 1 := hT.symm
    clear hT
    refine w_n 4 (pc1 := 22) (ls1 := [some (.ref 30), some (.int x1), some (.int x2), some (.int y3)]) (st1 := [.int (F 3 0), .int y3]) (hp1 := (hz F A L)) rfl ?_
    refine w_ge (p3 := 25) rfl rfl (fun hb => ?_) (fun h => False.elim (by have h : y3.toInt < (F 3 0).toInt := h; omega))
    refine w_n 1 (pc1 := 55) (ls1 := [some (.ref 30), some (.int x1), some (.int x2), some (.int y3)]) (st1 := [.int 1]) (hp1 := (hz F A L)) rfl ?_
    subst T
    exact w_ri rfl (cvQ rfl rfl rfl K)
  | succ m ih =>
    intro B D F A L x1 x2 y3 hm K
    generalize hT : (kv_beatsTheRest_14 (A 33) x1 x2 (m + 1) y3) = T at K
    have hE : T = (if ((x1 >>> (y3 &&& 31)) &&& 1) = 0 then (kv_beatsTheRest_14 (A 33) x1 x2 m (y3 + 1)) else (if (x2 &&& (((A 33).getD y3.toInt.toNat 0) ^^^ (-1))) = 0 then (kv_beatsTheRest_14 (A 33) x1 x2 m (y3 + 1)) else 0)) := hT.symm
    clear hT
    refine w_n 4 (pc1 := 22) (ls1 := [some (.ref 30), some (.int x1), some (.int x2), some (.int y3)]) (st1 := [.int (F 3 0), .int y3]) (hp1 := (hz F A L)) rfl ?_
    refine w_ge (p3 := 25) rfl rfl (fun h => False.elim (by have h : (F 3 0).toInt ≤ y3.toInt := h; omega)) (fun hb => ?_)
    refine w_n 5 (pc1 := 30) (ls1 := [some (.ref 30), some (.int x1), some (.int x2), some (.int y3)]) (st1 := [.int ((x1 >>> (y3 &&& 31)) &&& 1)]) (hp1 := (hz F A L)) rfl ?_
    refine w_zeq (p3 := 33) rfl rfl (fun h => ?_) (fun h => ?_)
    · have h1 : ((x1 >>> (y3 &&& 31)) &&& 1) = 0 := h
      rw [if_pos h1] at hE
      refine w_n 2 (pc1 := 14) (ls1 := [some (.ref 30), some (.int x1), some (.int x2), some (.int (y3 + 1))]) (st1 := []) (hp1 := (hz F A L)) rfl ?_
      subst T
      have hb2 := i_up (B := (F 3 0)) hb
      have hb3 : y3.toInt < (F 3 0).toInt := hb
      exact ih (show m = ((F 3 0).toInt - (y3 + 1).toInt).toNat by rw [hb2]; omega) (cvQ rfl rfl rfl K)
    · have h1 : ¬ ((x1 >>> (y3 &&& 31)) &&& 1) = 0 := h
      rw [if_neg h1] at hE
      refine w_n 4 (pc1 := 39) (ls1 := [some (.ref 30), some (.int x1), some (.int x2), some (.int y3)]) (st1 := [.int y3, .ref 33, .int x2]) (hp1 := (hz F A L)) rfl ?_
      refine w_al (k := 33) (l := (A 33)) rfl rfl rfl (fun ab => ?_)
      refine w_n 3 (pc1 := 43) (ls1 := [some (.ref 30), some (.int x1), some (.int x2), some (.int y3)]) (st1 := [.int (x2 &&& (((A 33).getD y3.toInt.toNat 0) ^^^ (-1)))]) (hp1 := (hz F A L)) rfl ?_
      refine w_zeq (p3 := 46) rfl rfl (fun h => ?_) (fun h => ?_)
      · have h2 : (x2 &&& (((A 33).getD y3.toInt.toNat 0) ^^^ (-1))) = 0 := h
        rw [if_pos h2] at hE
        refine w_n 2 (pc1 := 14) (ls1 := [some (.ref 30), some (.int x1), some (.int x2), some (.int (y3 + 1))]) (st1 := []) (hp1 := (hz F A L)) rfl ?_
        subst T
        have hb2 := i_up (B := (F 3 0)) hb
        have hb3 : y3.toInt < (F 3 0).toInt := hb
        exact ih (show m = ((F 3 0).toInt - (y3 + 1).toInt).toNat by rw [hb2]; omega) (cvQ rfl rfl rfl K)
      · have h2 : ¬ (x2 &&& (((A 33).getD y3.toInt.toNat 0) ^^^ (-1))) = 0 := h
        rw [if_neg h2] at hE
        refine w_n 1 (pc1 := 47) (ls1 := [some (.ref 30), some (.int x1), some (.int x2), some (.int y3)]) (st1 := [.int 0]) (hp1 := (hz F A L)) rfl ?_
        subst T
        exact w_ri rfl (cvQ rfl rfl rfl K)
def kv_beatsTheRest (f3_0 : Int32) (a33 : List Int32) (x1 : Int32) : Int32 := (kv_beatsTheRest_14 a33 x1 ((kt_allMeasures f3_0) &&& (x1 ^^^ (-1))) f3_0.toInt.toNat 0)
theorem t_kv_beatsTheRest {f D : Nat} {F : Nat → Nat → Int32} {A : Nat → List Int32} {L : Nat → List Int64} {Q : Option Value → sm_H → Prop} {x1 : Int32} (K : Q (some (.int (kv_beatsTheRest (F 3 0) (A 33) x1))) (hz F A L)) : wl_M f D 89 [.ref 30, .int x1] (hz F A L) Q := by
  generalize hT : (kv_beatsTheRest (F 3 0) (A 33) x1) = T at K
  have hE : T = (kv_beatsTheRest_14 (A 33) x1 ((kt_allMeasures (F 3 0)) &&& (x1 ^^^ (-1))) (F 3 0).toInt.toNat 0) := hT.symm
  clear hT
  refine w_m (E := mm89) rfl ?_
  show wl_E f f (D - 1) mm89.2.2.2.2.2.2.2.2 0 [some (.ref 30), some (.int x1), none, none] [] (hz F A L) Q
  refine w_n 2 (pc1 := 4) (ls1 := [some (.ref 30), some (.int x1), none, none]) (st1 := [.ref 3]) (hp1 := (hz F A L)) rfl ?_
  refine w_c rfl rfl (t_kt_allMeasures ?_)
  show wl_E f _ _ mm89.2.2.2.2.2.2.2.2 7 [some (.ref 30), some (.int x1), none, none] [.int (kt_allMeasures (F 3 0))] (hz F A L) _
  generalize hG271 : (kt_allMeasures (F 3 0)) = G271 at hE ⊢
  refine w_n 7 (pc1 := 14) (ls1 := [some (.ref 30), some (.int x1), some (.int (G271 &&& (x1 ^^^ (-1)))), some (.int 0)]) (st1 := []) (hp1 := (hz F A L)) rfl ?_
  subst T
  exact t_kv_beatsTheRest_14 _ (show (F 3 0).toInt.toNat = ((F 3 0).toInt - (0 : Int32).toInt).toNat by have e0 : (0 : Int32).toInt = 0 := rfl; first | rfl | omega) (cvQ rfl rfl rfl K)
def kv_leastBeatingSet_10 (f3_0 : Int32) (a33 : List Int32)  : Nat → Int32 → Int32 → Int32
  | 0, y1, _ => y1
  | m + 1, y1, y2 => (if (kji_bitCount y2).toInt < (kji_bitCount y1).toInt then (if (kv_beatsTheRest f3_0 a33 y2) = 0 then (kv_leastBeatingSet_10 f3_0 a33 m y1 (y2 + 1)) else (kv_leastBeatingSet_10 f3_0 a33 m y2 (y2 + 1))) else (kv_leastBeatingSet_10 f3_0 a33 m y1 (y2 + 1)))
theorem t_kv_leastBeatingSet_10 {f : Nat} {Q : Option Value → sm_H → Prop} : ∀ (m : Nat) {B D : Nat} {F : Nat → Nat → Int32} {A : Nat → List Int32} {L : Nat → List Int64} {y1 : Int32} {y2 : Int32}, m = ((kt_allMeasures (F 3 0)).toInt + 1 - y2.toInt).toNat → (_ : (kt_allMeasures (F 3 0)).toInt < 2147483647) → (∀ q2 : Int32, wl_E f B D mm88.2.2.2.2.2.2.2.2 48 [some (.ref 30), some (.int (kv_leastBeatingSet_10 (F 3 0) (A 33) m y1 y2)), some (.int q2)] [] (hz F A L) Q) → wl_E f B D mm88.2.2.2.2.2.2.2.2 10 [some (.ref 30), some (.int y1), some (.int y2)] [] (hz F A L) Q := by
  intro m
  induction m with
  | zero =>
    intro B D F A L y1 y2 hm hh0 K
    generalize hT : (kv_leastBeatingSet_10 (F 3 0) (A 33) 0 y1 y2) = T at K
    have hE : T = y1 := hT.symm
    clear hT
    refine w_n 3 (pc1 := 15) (ls1 := [some (.ref 30), some (.int y1), some (.int y2)]) (st1 := [.ref 3, .int y2]) (hp1 := (hz F A L)) rfl ?_
    refine w_c rfl rfl (t_kt_allMeasures ?_)
    show wl_E f _ _ mm88.2.2.2.2.2.2.2.2 18 [some (.ref 30), some (.int y1), some (.int y2)] [.int (kt_allMeasures (F 3 0)), .int y2] (hz F A L) _
    refine w_gt (p3 := 21) rfl rfl (fun hb => ?_) (fun h => False.elim (by have h : y2.toInt ≤ (kt_allMeasures (F 3 0)).toInt := h; omega))
    subst T
    exact cvE rfl rfl rfl (K _)
  | succ m ih =>
    intro B D F A L y1 y2 hm hh0 K
    generalize hT : (kv_leastBeatingSet_10 (F 3 0) (A 33) (m + 1) y1 y2) = T at K
    have hE : T = (if (kji_bitCount y2).toInt < (kji_bitCount y1).toInt then (if (kv_beatsTheRest (F 3 0) (A 33) y2) = 0 then (kv_leastBeatingSet_10 (F 3 0) (A 33) m y1 (y2 + 1)) else (kv_leastBeatingSet_10 (F 3 0) (A 33) m y2 (y2 + 1))) else (kv_leastBeatingSet_10 (F 3 0) (A 33) m y1 (y2 + 1))) := hT.symm
    clear hT
    refine w_n 3 (pc1 := 15) (ls1 := [some (.ref 30), some (.int y1), some (.int y2)]) (st1 := [.ref 3, .int y2]) (hp1 := (hz F A L)) rfl ?_
    refine w_c rfl rfl (t_kt_allMeasures ?_)
    show wl_E f _ _ mm88.2.2.2.2.2.2.2.2 18 [some (.ref 30), some (.int y1), some (.int y2)] [.int (kt_allMeasures (F 3 0)), .int y2] (hz F A L) _
    refine w_gt (p3 := 21) rfl rfl (fun h => False.elim (by have h : (kt_allMeasures (F 3 0)).toInt < y2.toInt := h; omega)) (fun hb => ?_)
    refine w_n 1 (pc1 := 22) (ls1 := [some (.ref 30), some (.int y1), some (.int y2)]) (st1 := [.int y2]) (hp1 := (hz F A L)) rfl ?_
    refine w_c rfl rfl (t_kji_bitCount ?_)
    show wl_E f _ _ mm88.2.2.2.2.2.2.2.2 25 [some (.ref 30), some (.int y1), some (.int y2)] [.int (kji_bitCount y2)] (hz F A L) _
    generalize hG269 : (kji_bitCount y2) = G269 at hE ⊢
    refine w_n 1 (pc1 := 26) (ls1 := [some (.ref 30), some (.int y1), some (.int y2)]) (st1 := [.int y1, .int G269]) (hp1 := (hz F A L)) rfl ?_
    refine w_c rfl rfl (t_kji_bitCount ?_)
    show wl_E f _ _ mm88.2.2.2.2.2.2.2.2 29 [some (.ref 30), some (.int y1), some (.int y2)] [.int (kji_bitCount y1), .int G269] (hz F A L) _
    generalize hG270 : (kji_bitCount y1) = G270 at hE ⊢
    refine w_ge (p3 := 32) rfl rfl (fun h => ?_) (fun h => ?_)
    · have h1 : G270.toInt ≤ G269.toInt := h
      rw [if_neg (Int.not_lt.mpr h1)] at hE
      refine w_n 2 (pc1 := 10) (ls1 := [some (.ref 30), some (.int y1), some (.int (y2 + 1))]) (st1 := []) (hp1 := (hz F A L)) rfl ?_
      subst T
      have hb2 := i_up2 (B := (kt_allMeasures (F 3 0))) hb (by first | decide | exact hB | assumption)
      have hb3 : y2.toInt ≤ (kt_allMeasures (F 3 0)).toInt := hb
      exact ih (show m = ((kt_allMeasures (F 3 0)).toInt + 1 - (y2 + 1).toInt).toNat by rw [hb2]; omega) hh0 (fun q2 => cvE rfl rfl rfl (K q2))
    · have h1 : G269.toInt < G270.toInt := h
      rw [if_pos h1] at hE
      refine w_n 2 (pc1 := 34) (ls1 := [some (.ref 30), some (.int y1), some (.int y2)]) (st1 := [.int y2, .ref 30]) (hp1 := (hz F A L)) rfl ?_
      refine w_c rfl rfl (t_kv_beatsTheRest ?_)
      show wl_E f _ _ mm88.2.2.2.2.2.2.2.2 37 [some (.ref 30), some (.int y1), some (.int y2)] [.int (kv_beatsTheRest (F 3 0) (A 33) y2)] (hz F A L) _
      generalize hG272 : (kv_beatsTheRest (F 3 0) (A 33) y2) = G272 at hE ⊢
      refine w_zeq (p3 := 40) rfl rfl (fun h => ?_) (fun h => ?_)
      · have h2 : G272 = 0 := h
        rw [if_pos h2] at hE
        refine w_n 2 (pc1 := 10) (ls1 := [some (.ref 30), some (.int y1), some (.int (y2 + 1))]) (st1 := []) (hp1 := (hz F A L)) rfl ?_
        subst T
        have hb2 := i_up2 (B := (kt_allMeasures (F 3 0))) hb (by first | decide | exact hB | assumption)
        have hb3 : y2.toInt ≤ (kt_allMeasures (F 3 0)).toInt := hb
        exact ih (show m = ((kt_allMeasures (F 3 0)).toInt + 1 - (y2 + 1).toInt).toNat by rw [hb2]; omega) hh0 (fun q2 => cvE rfl rfl rfl (K q2))
      · have h2 : ¬ G272 = 0 := h
        rw [if_neg h2] at hE
        refine w_n 4 (pc1 := 10) (ls1 := [some (.ref 30), some (.int y2), some (.int (y2 + 1))]) (st1 := []) (hp1 := (hz F A L)) rfl ?_
        subst T
        have hb2 := i_up2 (B := (kt_allMeasures (F 3 0))) hb (by first | decide | exact hB | assumption)
        have hb3 : y2.toInt ≤ (kt_allMeasures (F 3 0)).toInt := hb
        exact ih (show m = ((kt_allMeasures (F 3 0)).toInt + 1 - (y2 + 1).toInt).toNat by rw [hb2]; omega) hh0 (fun q2 => cvE rfl rfl rfl (K q2))
def kv_leastBeatingSet (f3_0 : Int32) (a33 : List Int32) : Int32 := (kv_leastBeatingSet_10 f3_0 a33 ((kt_allMeasures f3_0).toInt + 1 - 1).toNat (kt_allMeasures f3_0) 1)
theorem t_kv_leastBeatingSet {f D : Nat} {F : Nat → Nat → Int32} {A : Nat → List Int32} {L : Nat → List Int64} {Q : Option Value → sm_H → Prop} (hh0 : (kt_allMeasures (F 3 0)).toInt < 2147483647) (K : Q (some (.int (kv_leastBeatingSet (F 3 0) (A 33)))) (hz F A L)) : wl_M f D 88 [.ref 30] (hz F A L) Q := by
  generalize hT : (kv_leastBeatingSet (F 3 0) (A 33)) = T at K
  have hE : T = (kv_leastBeatingSet_10 (F 3 0) (A 33) ((kt_allMeasures (F 3 0)).toInt + 1 - 1).toNat (kt_allMeasures (F 3 0)) 1) := hT.symm
  clear hT
  refine w_m (E := mm88) rfl ?_
  show wl_E f f (D - 1) mm88.2.2.2.2.2.2.2.2 0 [some (.ref 30), none, none] [] (hz F A L) Q
  refine w_n 2 (pc1 := 4) (ls1 := [some (.ref 30), none, none]) (st1 := [.ref 3]) (hp1 := (hz F A L)) rfl ?_
  refine w_c rfl rfl (t_kt_allMeasures ?_)
  show wl_E f _ _ mm88.2.2.2.2.2.2.2.2 7 [some (.ref 30), none, none] [.int (kt_allMeasures (F 3 0))] (hz F A L) _
  generalize hG268 : (kt_allMeasures (F 3 0)) = G268 at hE ⊢
  refine w_n 3 (pc1 := 10) (ls1 := [some (.ref 30), some (.int G268), some (.int 1)]) (st1 := []) (hp1 := (hz F A L)) rfl ?_
  refine t_kv_leastBeatingSet_10 ((G268.toInt + 1 - 1).toNat) (show (G268.toInt + 1 - 1).toNat = ((kt_allMeasures (F 3 0)).toInt + 1 - (1 : Int32).toInt).toNat by rw [hG268]; have e0 : (1 : Int32).toInt = 1 := rfl; first | rfl | omega) hh0 ?_
  intro r1
  show wl_E f _ _ mm88.2.2.2.2.2.2.2.2 48 [some (.ref 30), some (.int (kv_leastBeatingSet_10 (F 3 0) (A 33) (G268.toInt + 1 - 1).toNat G268 1)), some (.int r1)] [] (hz F A L) _
  generalize hG273 : (kv_leastBeatingSet_10 (F 3 0) (A 33) (G268.toInt + 1 - 1).toNat G268 1) = G273 at hE ⊢
  refine w_n 1 (pc1 := 49) (ls1 := [some (.ref 30), some (.int G273), some (.int r1)]) (st1 := [.int G273]) (hp1 := (hz F A L)) rfl ?_
  subst T
  exact w_ri rfl (cvQ rfl rfl rfl K)
def kc_set (f3_0 : Int32) (f3_1 : Int32) (a6 : List Int32) (a32 : List Int32) (a33 : List Int32) (l11 : List Int64) : Int32 × List Int32 × List Int32 := ((kv_leastBeatingSet f3_0 (kv_weighPairs f3_0 f3_1 a6 a32 a33 l11).2), (kv_weighPairs f3_0 f3_1 a6 a32 a33 l11).1, (kv_weighPairs f3_0 f3_1 a6 a32 a33 l11).2)
theorem t_kc_set {f D : Nat} {F : Nat → Nat → Int32} {A : Nat → List Int32} {L : Nat → List Int64} {Q : Option Value → sm_H → Prop} (hh0 : (kt_allMeasures (F 3 0)).toInt < 2147483647) (K : Q (some (.int ((kc_set (F 3 0) (F 3 1) (A 6) (A 32) (A 33) (L 11)).1))) (hz F (uA (uA A 32 ((kc_set (F 3 0) (F 3 1) (A 6) (A 32) (A 33) (L 11)).2.1)) 33 ((kc_set (F 3 0) (F 3 1) (A 6) (A 32) (A 33) (L 11)).2.2)) L)) : wl_M f D 87 [.ref 0] (hz F A L) Q := by
  generalize hT : (kc_set (F 3 0) (F 3 1) (A 6) (A 32) (A 33) (L 11)) = T at K
  have hE : T = ((kv_leastBeatingSet (F 3 0) (kv_weighPairs (F 3 0) (F 3 1) (A 6) (A 32) (A 33) (L 11)).2), (kv_weighPairs (F 3 0) (F 3 1) (A 6) (A 32) (A 33) (L 11)).1, (kv_weighPairs (F 3 0) (F 3 1) (A 6) (A 32) (A 33) (L 11)).2) := hT.symm
  clear hT
  refine w_m (E := mm87) rfl ?_
  show wl_E f f (D - 1) mm87.2.2.2.2.2.2.2.2 0 [some (.ref 0)] [] (hz F A L) Q
  refine w_n 2 (pc1 := 4) (ls1 := [some (.ref 0)]) (st1 := [.ref 30]) (hp1 := (hz F A L)) rfl ?_
  refine w_c rfl rfl (t_kv_weighPairs ?_)
  show wl_E f _ _ mm87.2.2.2.2.2.2.2.2 7 [some (.ref 0)] [] (hz F (uA (uA A 32 (kv_weighPairs (F 3 0) (F 3 1) (A 6) (A 32) (A 33) (L 11)).1) 33 (kv_weighPairs (F 3 0) (F 3 1) (A 6) (A 32) (A 33) (L 11)).2) L) _
  generalize hG267 : (kv_weighPairs (F 3 0) (F 3 1) (A 6) (A 32) (A 33) (L 11)) = G267 at hE ⊢
  refine w_n 2 (pc1 := 11) (ls1 := [some (.ref 0)]) (st1 := [.ref 30]) (hp1 := (hz F (uA (uA A 32 G267.1) 33 G267.2) L)) rfl ?_
  refine w_c rfl rfl (t_kv_leastBeatingSet hh0 ?_)
  show wl_E f _ _ mm87.2.2.2.2.2.2.2.2 14 [some (.ref 0)] [.int (kv_leastBeatingSet (F 3 0) G267.2)] (hz F (uA (uA A 32 G267.1) 33 G267.2) L) _
  generalize hG274 : (kv_leastBeatingSet (F 3 0) G267.2) = G274 at hE ⊢
  subst T
  exact w_ri rfl (cvQ rfl rfl rfl K)
def km_bits_4  (x0 : Int32) : Nat → Int32 → Int32 → Int32
  | 0, y1, _ => y1
  | m + 1, y1, y2 => (km_bits_4 x0 m (y1 + ((x0 >>> (y2 &&& 31)) &&& 1)) (y2 + 1))
theorem t_km_bits_4 {f : Nat} {Q : Option Value → sm_H → Prop} : ∀ (m : Nat) {B D : Nat} {F : Nat → Nat → Int32} {A : Nat → List Int32} {L : Nat → List Int64} {x0 : Int32} {y1 : Int32} {y2 : Int32}, m = (12 - y2.toInt).toNat → (∀ q2 : Int32, wl_E f B D mm215.2.2.2.2.2.2.2.2 24 [some (.int x0), some (.int (km_bits_4 x0 m y1 y2)), some (.int q2)] [] (hz F A L) Q) → wl_E f B D mm215.2.2.2.2.2.2.2.2 4 [some (.int x0), some (.int y1), some (.int y2)] [] (hz F A L) Q := by
  intro m
  induction m with
  | zero =>
    intro B D F A L x0 y1 y2 hm K
    generalize hT : (km_bits_4 x0 0 y1 y2) = T at K
    have hE : T = y1 := hT.symm
    clear hT
    refine w_n 2 (pc1 := 7) (ls1 := [some (.int x0), some (.int y1), some (.int y2)]) (st1 := [.int 12, .int y2]) (hp1 := (hz F A L)) rfl ?_
    refine w_ge (p3 := 10) rfl rfl (fun hb => ?_) (fun h => False.elim (by have h : y2.toInt < 12 := h; omega))
    subst T
    exact cvE rfl rfl rfl (K _)
  | succ m ih =>
    intro B D F A L x0 y1 y2 hm K
    generalize hT : (km_bits_4 x0 (m + 1) y1 y2) = T at K
    have hE : T = (km_bits_4 x0 m (y1 + ((x0 >>> (y2 &&& 31)) &&& 1)) (y2 + 1)) := hT.symm
    clear hT
    refine w_n 2 (pc1 := 7) (ls1 := [some (.int x0), some (.int y1), some (.int y2)]) (st1 := [.int 12, .int y2]) (hp1 := (hz F A L)) rfl ?_
    refine w_ge (p3 := 10) rfl rfl (fun h => False.elim (by have h : 12 ≤ y2.toInt := h; omega)) (fun hb => ?_)
    refine w_n 10 (pc1 := 4) (ls1 := [some (.int x0), some (.int (y1 + ((x0 >>> (y2 &&& 31)) &&& 1))), some (.int (y2 + 1))]) (st1 := []) (hp1 := (hz F A L)) rfl ?_
    subst T
    have hb2 := i_up (B := (12 : Int32)) hb
    have hb3 : y2.toInt < 12 := hb
    exact ih (show m = (12 - (y2 + 1).toInt).toNat by rw [hb2]; omega) (fun q2 => cvE rfl rfl rfl (K q2))
def km_bits (x0 : Int32) : Int32 := (km_bits_4 x0 12 0 0)
theorem t_km_bits {f D : Nat} {F : Nat → Nat → Int32} {A : Nat → List Int32} {L : Nat → List Int64} {Q : Option Value → sm_H → Prop} {x0 : Int32} (K : Q (some (.int (km_bits x0))) (hz F A L)) : wl_M f D 215 [.int x0] (hz F A L) Q := by
  generalize hT : (km_bits x0) = T at K
  have hE : T = (km_bits_4 x0 12 0 0) := hT.symm
  clear hT
  refine w_m (E := mm215) rfl ?_
  show wl_E f f (D - 1) mm215.2.2.2.2.2.2.2.2 0 [some (.int x0), none, none] [] (hz F A L) Q
  refine w_n 4 (pc1 := 4) (ls1 := [some (.int x0), some (.int 0), some (.int 0)]) (st1 := []) (hp1 := (hz F A L)) rfl ?_
  refine t_km_bits_4 12 (show (12 : Nat) = (12 - (0 : Int32).toInt).toNat by have e0 : (0 : Int32).toInt = 0 := rfl; first | rfl | omega) ?_
  intro r1
  show wl_E f _ _ mm215.2.2.2.2.2.2.2.2 24 [some (.int x0), some (.int (km_bits_4 x0 12 0 0)), some (.int r1)] [] (hz F A L) _
  generalize hG276 : (km_bits_4 x0 12 0 0) = G276 at hE ⊢
  refine w_n 1 (pc1 := 25) (ls1 := [some (.int x0), some (.int G276), some (.int r1)]) (st1 := [.int G276]) (hp1 := (hz F A L)) rfl ?_
  subst T
  exact w_ri rfl (cvQ rfl rfl rfl K)
def km_isSet_2 (f67_3 : Int32) (a68 : List Int32) (x1 : Int32) : Nat → Int32 → Int32
  | 0, _ => 1
  | m + 1, y2 => (if (km_has x1 y2) = 0 then (km_isSet_2 f67_3 a68 x1 m (y2 + 1)) else (if (km_beatsAll f67_3 a68 y2 ((km_allMeasures f67_3) &&& (x1 ^^^ (-1)))) = 0 then 0 else (km_isSet_2 f67_3 a68 x1 m (y2 + 1))))
theorem t_km_isSet_2 {f : Nat} {Q : Option Value → sm_H → Prop} : ∀ (m : Nat) {B D : Nat} {F : Nat → Nat → Int32} {A : Nat → List Int32} {L : Nat → List Int64} {x1 : Int32} {y2 : Int32}, m = ((F 67 3).toInt - y2.toInt).toNat → (Q (some (.int (km_isSet_2 (F 67 3) (A 68) x1 m y2))) (hz F A L)) → wl_E f B D mm216.2.2.2.2.2.2.2.2 2 [some (.ref 67), some (.int x1), some (.int y2)] [] (hz F A L) Q := by
  intro m
  induction m with
  | zero =>
    intro B D F A L x1 y2 hm K
    generalize hT : (km_isSet_2 (F 67 3) (A 68) x1 0 y2) = T at K
    have hE : T = 1 := hT.symm
    clear hT
    refine w_n 3 (pc1 := 7) (ls1 := [some (.ref 67), some (.int x1), some (.int y2)]) (st1 := [.int (F 67 3), .int y2]) (hp1 := (hz F A L)) rfl ?_
    refine w_ge (p3 := 10) rfl rfl (fun hb => ?_) (fun h => False.elim (by have h : y2.toInt < (F 67 3).toInt := h; omega))
    refine w_n 1 (pc1 := 43) (ls1 := [some (.ref 67), some (.int x1), some (.int y2)]) (st1 := [.int 1]) (hp1 := (hz F A L)) rfl ?_
    subst T
    exact w_ri rfl (cvQ rfl rfl rfl K)
  | succ m ih =>
    intro B D F A L x1 y2 hm K
    generalize hT : (km_isSet_2 (F 67 3) (A 68) x1 (m + 1) y2) = T at K
    have hE : T = (if (km_has x1 y2) = 0 then (km_isSet_2 (F 67 3) (A 68) x1 m (y2 + 1)) else (if (km_beatsAll (F 67 3) (A 68) y2 ((km_allMeasures (F 67 3)) &&& (x1 ^^^ (-1)))) = 0 then 0 else (km_isSet_2 (F 67 3) (A 68) x1 m (y2 + 1)))) := hT.symm
    clear hT
    refine w_n 3 (pc1 := 7) (ls1 := [some (.ref 67), some (.int x1), some (.int y2)]) (st1 := [.int (F 67 3), .int y2]) (hp1 := (hz F A L)) rfl ?_
    refine w_ge (p3 := 10) rfl rfl (fun h => False.elim (by have h : (F 67 3).toInt ≤ y2.toInt := h; omega)) (fun hb => ?_)
    refine w_n 2 (pc1 := 12) (ls1 := [some (.ref 67), some (.int x1), some (.int y2)]) (st1 := [.int y2, .int x1]) (hp1 := (hz F A L)) rfl ?_
    refine w_c rfl rfl (t_km_has ?_)
    show wl_E f _ _ mm216.2.2.2.2.2.2.2.2 15 [some (.ref 67), some (.int x1), some (.int y2)] [.int (km_has x1 y2)] (hz F A L) _
    generalize hG279 : (km_has x1 y2) = G279 at hE ⊢
    refine w_zeq (p3 := 18) rfl rfl (fun h => ?_) (fun h => ?_)
    · have h1 : G279 = 0 := h
      rw [if_pos h1] at hE
      refine w_n 2 (pc1 := 2) (ls1 := [some (.ref 67), some (.int x1), some (.int (y2 + 1))]) (st1 := []) (hp1 := (hz F A L)) rfl ?_
      subst T
      have hb2 := i_up (B := (F 67 3)) hb
      have hb3 : y2.toInt < (F 67 3).toInt := hb
      exact ih (show m = ((F 67 3).toInt - (y2 + 1).toInt).toNat by rw [hb2]; omega) (cvQ rfl rfl rfl K)
    · have h1 : ¬ G279 = 0 := h
      rw [if_neg h1] at hE
      refine w_n 3 (pc1 := 21) (ls1 := [some (.ref 67), some (.int x1), some (.int y2)]) (st1 := [.ref 67, .int y2, .ref 67]) (hp1 := (hz F A L)) rfl ?_
      refine w_c rfl rfl (t_km_allMeasures ?_)
      show wl_E f _ _ mm216.2.2.2.2.2.2.2.2 24 [some (.ref 67), some (.int x1), some (.int y2)] [.int (km_allMeasures (F 67 3)), .int y2, .ref 67] (hz F A L) _
      generalize hG280 : (km_allMeasures (F 67 3)) = G280 at hE ⊢
      refine w_n 4 (pc1 := 28) (ls1 := [some (.ref 67), some (.int x1), some (.int y2)]) (st1 := [.int (G280 &&& (x1 ^^^ (-1))), .int y2, .ref 67]) (hp1 := (hz F A L)) rfl ?_
      refine w_c rfl rfl (t_km_beatsAll ?_)
      show wl_E f _ _ mm216.2.2.2.2.2.2.2.2 31 [some (.ref 67), some (.int x1), some (.int y2)] [.int (km_beatsAll (F 67 3) (A 68) y2 (G280 &&& (x1 ^^^ (-1))))] (hz F A L) _
      generalize hG281 : (km_beatsAll (F 67 3) (A 68) y2 (G280 &&& (x1 ^^^ (-1)))) = G281 at hE ⊢
      refine w_zne (p3 := 34) rfl rfl (fun h => ?_) (fun h => ?_)
      · have h2 : ¬ G281 = 0 := h
        rw [if_neg h2] at hE
        refine w_n 2 (pc1 := 2) (ls1 := [some (.ref 67), some (.int x1), some (.int (y2 + 1))]) (st1 := []) (hp1 := (hz F A L)) rfl ?_
        subst T
        have hb2 := i_up (B := (F 67 3)) hb
        have hb3 : y2.toInt < (F 67 3).toInt := hb
        exact ih (show m = ((F 67 3).toInt - (y2 + 1).toInt).toNat by rw [hb2]; omega) (cvQ rfl rfl rfl K)
      · have h2 : G281 = 0 := h
        rw [if_pos h2] at hE
        refine w_n 1 (pc1 := 35) (ls1 := [some (.ref 67), some (.int x1), some (.int y2)]) (st1 := [.int 0]) (hp1 := (hz F A L)) rfl ?_
        subst T
        exact w_ri rfl (cvQ rfl rfl rfl K)
def km_isSet (f67_3 : Int32) (a68 : List Int32) (x1 : Int32) : Int32 := (km_isSet_2 f67_3 a68 x1 f67_3.toInt.toNat 0)
theorem t_km_isSet {f D : Nat} {F : Nat → Nat → Int32} {A : Nat → List Int32} {L : Nat → List Int64} {Q : Option Value → sm_H → Prop} {x1 : Int32} (K : Q (some (.int (km_isSet (F 67 3) (A 68) x1))) (hz F A L)) : wl_M f D 216 [.ref 67, .int x1] (hz F A L) Q := by
  generalize hT : (km_isSet (F 67 3) (A 68) x1) = T at K
  have hE : T = (km_isSet_2 (F 67 3) (A 68) x1 (F 67 3).toInt.toNat 0) := hT.symm
  clear hT
  refine w_m (E := mm216) rfl ?_
  show wl_E f f (D - 1) mm216.2.2.2.2.2.2.2.2 0 [some (.ref 67), some (.int x1), none] [] (hz F A L) Q
  refine w_n 2 (pc1 := 2) (ls1 := [some (.ref 67), some (.int x1), some (.int 0)]) (st1 := []) (hp1 := (hz F A L)) rfl ?_
  subst T
  exact t_km_isSet_2 _ (show (F 67 3).toInt.toNat = ((F 67 3).toInt - (0 : Int32).toInt).toNat by have e0 : (0 : Int32).toInt = 0 := rfl; first | rfl | omega) (cvQ rfl rfl rfl K)
def km_set_7 (f67_3 : Int32) (a68 : List Int32)  : Nat → Int32 → Int32 → Int32
  | 0, y1, _ => y1
  | m + 1, y1, y2 => (if (km_bits y2).toInt < (km_bits y1).toInt then (if (km_isSet f67_3 a68 y2) = 0 then (km_set_7 f67_3 a68 m y1 (y2 + 1)) else (km_set_7 f67_3 a68 m y2 (y2 + 1))) else (km_set_7 f67_3 a68 m y1 (y2 + 1)))
theorem t_km_set_7 {f : Nat} {Q : Option Value → sm_H → Prop} : ∀ (m : Nat) {B D : Nat} {F : Nat → Nat → Int32} {A : Nat → List Int32} {L : Nat → List Int64} {y1 : Int32} {y2 : Int32}, m = ((km_allMeasures (F 67 3)).toInt - y2.toInt).toNat → (∀ q2 : Int32, wl_E f B D mm214.2.2.2.2.2.2.2.2 42 [some (.ref 67), some (.int (km_set_7 (F 67 3) (A 68) m y1 y2)), some (.int q2)] [] (hz F A L) Q) → wl_E f B D mm214.2.2.2.2.2.2.2.2 7 [some (.ref 67), some (.int y1), some (.int y2)] [] (hz F A L) Q := by
  intro m
  induction m with
  | zero =>
    intro B D F A L y1 y2 hm K
    generalize hT : (km_set_7 (F 67 3) (A 68) 0 y1 y2) = T at K
    have hE : T = y1 := hT.symm
    clear hT
    refine w_n 2 (pc1 := 9) (ls1 := [some (.ref 67), some (.int y1), some (.int y2)]) (st1 := [.ref 67, .int y2]) (hp1 := (hz F A L)) rfl ?_
    refine w_c rfl rfl (t_km_allMeasures ?_)
    show wl_E f _ _ mm214.2.2.2.2.2.2.2.2 12 [some (.ref 67), some (.int y1), some (.int y2)] [.int (km_allMeasures (F 67 3)), .int y2] (hz F A L) _
    refine w_ge (p3 := 15) rfl rfl (fun hb => ?_) (fun h => False.elim (by have h : y2.toInt < (km_allMeasures (F 67 3)).toInt := h; omega))
    subst T
    exact cvE rfl rfl rfl (K _)
  | succ m ih =>
    intro B D F A L y1 y2 hm K
    generalize hT : (km_set_7 (F 67 3) (A 68) (m + 1) y1 y2) = T at K
    have hE : T = (if (km_bits y2).toInt < (km_bits y1).toInt then (if (km_isSet (F 67 3) (A 68) y2) = 0 then (km_set_7 (F 67 3) (A 68) m y1 (y2 + 1)) else (km_set_7 (F 67 3) (A 68) m y2 (y2 + 1))) else (km_set_7 (F 67 3) (A 68) m y1 (y2 + 1))) := hT.symm
    clear hT
    refine w_n 2 (pc1 := 9) (ls1 := [some (.ref 67), some (.int y1), some (.int y2)]) (st1 := [.ref 67, .int y2]) (hp1 := (hz F A L)) rfl ?_
    refine w_c rfl rfl (t_km_allMeasures ?_)
    show wl_E f _ _ mm214.2.2.2.2.2.2.2.2 12 [some (.ref 67), some (.int y1), some (.int y2)] [.int (km_allMeasures (F 67 3)), .int y2] (hz F A L) _
    refine w_ge (p3 := 15) rfl rfl (fun h => False.elim (by have h : (km_allMeasures (F 67 3)).toInt ≤ y2.toInt := h; omega)) (fun hb => ?_)
    refine w_n 1 (pc1 := 16) (ls1 := [some (.ref 67), some (.int y1), some (.int y2)]) (st1 := [.int y2]) (hp1 := (hz F A L)) rfl ?_
    refine w_c rfl rfl (t_km_bits ?_)
    show wl_E f _ _ mm214.2.2.2.2.2.2.2.2 19 [some (.ref 67), some (.int y1), some (.int y2)] [.int (km_bits y2)] (hz F A L) _
    generalize hG277 : (km_bits y2) = G277 at hE ⊢
    refine w_n 1 (pc1 := 20) (ls1 := [some (.ref 67), some (.int y1), some (.int y2)]) (st1 := [.int y1, .int G277]) (hp1 := (hz F A L)) rfl ?_
    refine w_c rfl rfl (t_km_bits ?_)
    show wl_E f _ _ mm214.2.2.2.2.2.2.2.2 23 [some (.ref 67), some (.int y1), some (.int y2)] [.int (km_bits y1), .int G277] (hz F A L) _
    generalize hG278 : (km_bits y1) = G278 at hE ⊢
    refine w_ge (p3 := 26) rfl rfl (fun h => ?_) (fun h => ?_)
    · have h1 : G278.toInt ≤ G277.toInt := h
      rw [if_neg (Int.not_lt.mpr h1)] at hE
      refine w_n 2 (pc1 := 7) (ls1 := [some (.ref 67), some (.int y1), some (.int (y2 + 1))]) (st1 := []) (hp1 := (hz F A L)) rfl ?_
      subst T
      have hb2 := i_up (B := (km_allMeasures (F 67 3))) hb
      have hb3 : y2.toInt < (km_allMeasures (F 67 3)).toInt := hb
      exact ih (show m = ((km_allMeasures (F 67 3)).toInt - (y2 + 1).toInt).toNat by rw [hb2]; omega) (fun q2 => cvE rfl rfl rfl (K q2))
    · have h1 : G277.toInt < G278.toInt := h
      rw [if_pos h1] at hE
      refine w_n 2 (pc1 := 28) (ls1 := [some (.ref 67), some (.int y1), some (.int y2)]) (st1 := [.int y2, .ref 67]) (hp1 := (hz F A L)) rfl ?_
      refine w_c rfl rfl (t_km_isSet ?_)
      show wl_E f _ _ mm214.2.2.2.2.2.2.2.2 31 [some (.ref 67), some (.int y1), some (.int y2)] [.int (km_isSet (F 67 3) (A 68) y2)] (hz F A L) _
      generalize hG282 : (km_isSet (F 67 3) (A 68) y2) = G282 at hE ⊢
      refine w_zeq (p3 := 34) rfl rfl (fun h => ?_) (fun h => ?_)
      · have h2 : G282 = 0 := h
        rw [if_pos h2] at hE
        refine w_n 2 (pc1 := 7) (ls1 := [some (.ref 67), some (.int y1), some (.int (y2 + 1))]) (st1 := []) (hp1 := (hz F A L)) rfl ?_
        subst T
        have hb2 := i_up (B := (km_allMeasures (F 67 3))) hb
        have hb3 : y2.toInt < (km_allMeasures (F 67 3)).toInt := hb
        exact ih (show m = ((km_allMeasures (F 67 3)).toInt - (y2 + 1).toInt).toNat by rw [hb2]; omega) (fun q2 => cvE rfl rfl rfl (K q2))
      · have h2 : ¬ G282 = 0 := h
        rw [if_neg h2] at hE
        refine w_n 4 (pc1 := 7) (ls1 := [some (.ref 67), some (.int y2), some (.int (y2 + 1))]) (st1 := []) (hp1 := (hz F A L)) rfl ?_
        subst T
        have hb2 := i_up (B := (km_allMeasures (F 67 3))) hb
        have hb3 : y2.toInt < (km_allMeasures (F 67 3)).toInt := hb
        exact ih (show m = ((km_allMeasures (F 67 3)).toInt - (y2 + 1).toInt).toNat by rw [hb2]; omega) (fun q2 => cvE rfl rfl rfl (K q2))
def km_set (f67_3 : Int32) (a68 : List Int32) : Int32 := (km_set_7 f67_3 a68 ((km_allMeasures f67_3).toInt - 1).toNat (km_allMeasures f67_3) 1)
theorem t_km_set {f D : Nat} {F : Nat → Nat → Int32} {A : Nat → List Int32} {L : Nat → List Int64} {Q : Option Value → sm_H → Prop} (K : Q (some (.int (km_set (F 67 3) (A 68)))) (hz F A L)) : wl_M f D 214 [.ref 67] (hz F A L) Q := by
  generalize hT : (km_set (F 67 3) (A 68)) = T at K
  have hE : T = (km_set_7 (F 67 3) (A 68) ((km_allMeasures (F 67 3)).toInt - 1).toNat (km_allMeasures (F 67 3)) 1) := hT.symm
  clear hT
  refine w_m (E := mm214) rfl ?_
  show wl_E f f (D - 1) mm214.2.2.2.2.2.2.2.2 0 [some (.ref 67), none, none] [] (hz F A L) Q
  refine w_n 1 (pc1 := 1) (ls1 := [some (.ref 67), none, none]) (st1 := [.ref 67]) (hp1 := (hz F A L)) rfl ?_
  refine w_c rfl rfl (t_km_allMeasures ?_)
  show wl_E f _ _ mm214.2.2.2.2.2.2.2.2 4 [some (.ref 67), none, none] [.int (km_allMeasures (F 67 3))] (hz F A L) _
  generalize hG275 : (km_allMeasures (F 67 3)) = G275 at hE ⊢
  refine w_n 3 (pc1 := 7) (ls1 := [some (.ref 67), some (.int G275), some (.int 1)]) (st1 := []) (hp1 := (hz F A L)) rfl ?_
  refine t_km_set_7 ((G275.toInt - 1).toNat) (show (G275.toInt - 1).toNat = ((km_allMeasures (F 67 3)).toInt - (1 : Int32).toInt).toNat by rw [hG275]; have e0 : (1 : Int32).toInt = 1 := rfl; first | rfl | omega) ?_
  intro r1
  show wl_E f _ _ mm214.2.2.2.2.2.2.2.2 42 [some (.ref 67), some (.int (km_set_7 (F 67 3) (A 68) (G275.toInt - 1).toNat G275 1)), some (.int r1)] [] (hz F A L) _
  generalize hG283 : (km_set_7 (F 67 3) (A 68) (G275.toInt - 1).toNat G275 1) = G283 at hE ⊢
  refine w_n 1 (pc1 := 43) (ls1 := [some (.ref 67), some (.int G283), some (.int r1)]) (st1 := [.int G283]) (hp1 := (hz F A L)) rfl ?_
  subst T
  exact w_ri rfl (cvQ rfl rfl rfl K)
def kv_widenPaths_17 (a32 : List Int32) (a33 : List Int32) (x2 : Int32) : Nat → Int32 → List Int32 → List Int32
  | 0, _, a34 => a34
  | m + 1, y3, a34 => (if (((a33.getD x2.toInt.toNat 0) >>> (y3 &&& 31)) &&& 1) = 0 then (kv_widenPaths_17 a32 a33 x2 m (y3 + 1) (a34.set ((x2 * 6) + y3).toInt.toNat 0)) else (kv_widenPaths_17 a32 a33 x2 m (y3 + 1) (a34.set ((x2 * 6) + y3).toInt.toNat (a32.getD ((x2 * 6) + y3).toInt.toNat 0))))
theorem t_kv_widenPaths_17 {f : Nat} {Q : Option Value → sm_H → Prop} : ∀ (m : Nat) {B D : Nat} {F : Nat → Nat → Int32} {A : Nat → List Int32} {L : Nat → List Int64} {x1 : Int32} {x2 : Int32} {y3 : Int32} {o4 : Option Value}, m = (x1.toInt - y3.toInt).toNat → (∀ q3 : Int32, ∀ q4 : Option Value, wl_E f B D mm91.2.2.2.2.2.2.2.2 67 [some (.ref 30), some (.int x1), some (.int x2), some (.int q3), q4] [] (hz F (uA A 34 (kv_widenPaths_17 (A 32) (A 33) x2 m y3 (A 34))) L) Q) → wl_E f B D mm91.2.2.2.2.2.2.2.2 17 [some (.ref 30), some (.int x1), some (.int x2), some (.int y3), o4] [] (hz F A L) Q := by
  intro m
  induction m with
  | zero =>
    intro B D F A L x1 x2 y3 o4 hm K
    generalize hT : (kv_widenPaths_17 (A 32) (A 33) x2 0 y3 (A 34)) = T at K
    have hE : T = (A 34) := hT.symm
    clear hT
    refine w_n 2 (pc1 := 19) (ls1 := [some (.ref 30), some (.int x1), some (.int x2), some (.int y3), o4]) (st1 := [.int x1, .int y3]) (hp1 := (hz F A L)) rfl ?_
    refine w_ge (p3 := 22) rfl rfl (fun hb => ?_) (fun h => False.elim (by have h : y3.toInt < x1.toInt := h; omega))
    subst T
    exact cvE rfl (funext fun q => if k0 : q = 34 then by subst k0; exact Eq.trans (b := (A 34)) rfl rfl else by unfold uA; simp only [nb1 k0, cond_false]) rfl (K _ _)
  | succ m ih =>
    intro B D F A L x1 x2 y3 o4 hm K
    generalize hT : (kv_widenPaths_17 (A 32) (A 33) x2 (m + 1) y3 (A 34)) = T at K
    have hE : T = (if ((((A 33).getD x2.toInt.toNat 0) >>> (y3 &&& 31)) &&& 1) = 0 then (kv_widenPaths_17 (A 32) (A 33) x2 m (y3 + 1) ((A 34).set ((x2 * 6) + y3).toInt.toNat 0)) else (kv_widenPaths_17 (A 32) (A 33) x2 m (y3 + 1) ((A 34).set ((x2 * 6) + y3).toInt.toNat ((A 32).getD ((x2 * 6) + y3).toInt.toNat 0)))) := hT.symm
    clear hT
    refine w_n 2 (pc1 := 19) (ls1 := [some (.ref 30), some (.int x1), some (.int x2), some (.int y3), o4]) (st1 := [.int x1, .int y3]) (hp1 := (hz F A L)) rfl ?_
    refine w_ge (p3 := 22) rfl rfl (fun h => False.elim (by have h : x1.toInt ≤ y3.toInt := h; omega)) (fun hb => ?_)
    refine w_n 12 (pc1 := 41) (ls1 := [some (.ref 30), some (.int x1), some (.int x2), some (.int y3), some (.int ((x2 * 6) + y3))]) (st1 := [.int x2, .ref 33, .int ((x2 * 6) + y3), .ref 34]) (hp1 := (hz F A L)) rfl ?_
    refine w_al (k := 33) (l := (A 33)) rfl rfl rfl (fun _ => ?_)
    refine w_n 4 (pc1 := 46) (ls1 := [some (.ref 30), some (.int x1), some (.int x2), some (.int y3), some (.int ((x2 * 6) + y3))]) (st1 := [.int ((((A 33).getD x2.toInt.toNat 0) >>> (y3 &&& 31)) &&& 1), .int ((x2 * 6) + y3), .ref 34]) (hp1 := (hz F A L)) rfl ?_
    refine w_zeq (p3 := 49) rfl rfl (fun h => ?_) (fun h => ?_)
    · have h1 : ((((A 33).getD x2.toInt.toNat 0) >>> (y3 &&& 31)) &&& 1) = 0 := h
      rw [if_pos h1] at hE
      refine w_n 1 (pc1 := 60) (ls1 := [some (.ref 30), some (.int x1), some (.int x2), some (.int y3), some (.int ((x2 * 6) + y3))]) (st1 := [.int 0, .int ((x2 * 6) + y3), .ref 34]) (hp1 := (hz F A L)) rfl ?_
      refine w_as (k := 34) (l := (A 34)) (hp1 := (hz F (uA A 34 ((A 34).set ((x2 * 6) + y3).toInt.toNat 0)) L)) rfl rfl rfl (hz_s34 _) (fun _ => ?_)
      refine w_n 2 (pc1 := 17) (ls1 := [some (.ref 30), some (.int x1), some (.int x2), some (.int (y3 + 1)), some (.int ((x2 * 6) + y3))]) (st1 := []) (hp1 := (hz F (uA A 34 ((A 34).set ((x2 * 6) + y3).toInt.toNat 0)) L)) rfl ?_
      subst T
      have hb2 := i_up (B := x1) hb
      have hb3 : y3.toInt < x1.toInt := hb
      exact ih (show m = (x1.toInt - (y3 + 1).toInt).toNat by rw [hb2]; omega) (fun q3 q4 => cvE rfl (funext fun q => if k0 : q = 34 then by subst k0; exact Eq.trans (b := (kv_widenPaths_17 (A 32) (A 33) x2 m (y3 + 1) ((A 34).set ((x2 * 6) + y3).toInt.toNat 0))) rfl rfl else by unfold uA; simp only [nb1 k0, cond_false]) rfl (K q3 q4))
    · have h1 : ¬ ((((A 33).getD x2.toInt.toNat 0) >>> (y3 &&& 31)) &&& 1) = 0 := h
      rw [if_neg h1] at hE
      refine w_n 3 (pc1 := 55) (ls1 := [some (.ref 30), some (.int x1), some (.int x2), some (.int y3), some (.int ((x2 * 6) + y3))]) (st1 := [.int ((x2 * 6) + y3), .ref 32, .int ((x2 * 6) + y3), .ref 34]) (hp1 := (hz F A L)) rfl ?_
      refine w_al (k := 32) (l := (A 32)) rfl rfl rfl (fun _ => ?_)
      refine w_n 1 (pc1 := 60) (ls1 := [some (.ref 30), some (.int x1), some (.int x2), some (.int y3), some (.int ((x2 * 6) + y3))]) (st1 := [.int ((A 32).getD ((x2 * 6) + y3).toInt.toNat 0), .int ((x2 * 6) + y3), .ref 34]) (hp1 := (hz F A L)) rfl ?_
      refine w_as (k := 34) (l := (A 34)) (hp1 := (hz F (uA A 34 ((A 34).set ((x2 * 6) + y3).toInt.toNat ((A 32).getD ((x2 * 6) + y3).toInt.toNat 0))) L)) rfl rfl rfl (hz_s34 _) (fun _ => ?_)
      refine w_n 2 (pc1 := 17) (ls1 := [some (.ref 30), some (.int x1), some (.int x2), some (.int (y3 + 1)), some (.int ((x2 * 6) + y3))]) (st1 := []) (hp1 := (hz F (uA A 34 ((A 34).set ((x2 * 6) + y3).toInt.toNat ((A 32).getD ((x2 * 6) + y3).toInt.toNat 0))) L)) rfl ?_
      subst T
      have hb2 := i_up (B := x1) hb
      have hb3 : y3.toInt < x1.toInt := hb
      exact ih (show m = (x1.toInt - (y3 + 1).toInt).toNat by rw [hb2]; omega) (fun q3 q4 => cvE rfl (funext fun q => if k0 : q = 34 then by subst k0; exact Eq.trans (b := (kv_widenPaths_17 (A 32) (A 33) x2 m (y3 + 1) ((A 34).set ((x2 * 6) + y3).toInt.toNat ((A 32).getD ((x2 * 6) + y3).toInt.toNat 0)))) rfl rfl else by unfold uA; simp only [nb1 k0, cond_false]) rfl (K q3 q4))
def kv_widenPaths_10 (a32 : List Int32) (a33 : List Int32) (x1 : Int32) : Nat → Int32 → List Int32 → List Int32
  | 0, _, a34 => a34
  | m + 1, y2, a34 => (kv_widenPaths_10 a32 a33 x1 m (y2 + 1) (kv_widenPaths_17 a32 a33 y2 x1.toInt.toNat 0 a34))
theorem t_kv_widenPaths_10 {f : Nat} {Q : Option Value → sm_H → Prop} : ∀ (m : Nat) {B D : Nat} {F : Nat → Nat → Int32} {A : Nat → List Int32} {L : Nat → List Int64} {x1 : Int32} {y2 : Int32} {o3 : Option Value} {o4 : Option Value}, m = (x1.toInt - y2.toInt).toNat → (∀ q2 : Int32, ∀ q3 : Option Value, ∀ q4 : Option Value, wl_E f B D mm91.2.2.2.2.2.2.2.2 73 [some (.ref 30), some (.int x1), some (.int q2), q3, q4] [] (hz F (uA A 34 (kv_widenPaths_10 (A 32) (A 33) x1 m y2 (A 34))) L) Q) → wl_E f B D mm91.2.2.2.2.2.2.2.2 10 [some (.ref 30), some (.int x1), some (.int y2), o3, o4] [] (hz F A L) Q := by
  intro m
  induction m with
  | zero =>
    intro B D F A L x1 y2 o3 o4 hm K
    generalize hT : (kv_widenPaths_10 (A 32) (A 33) x1 0 y2 (A 34)) = T at K
    have hE : T = (A 34) := hT.symm
    clear hT
    refine w_n 2 (pc1 := 12) (ls1 := [some (.ref 30), some (.int x1), some (.int y2), o3, o4]) (st1 := [.int x1, .int y2]) (hp1 := (hz F A L)) rfl ?_
    refine w_ge (p3 := 15) rfl rfl (fun hb => ?_) (fun h => False.elim (by have h : y2.toInt < x1.toInt := h; omega))
    subst T
    exact cvE rfl (funext fun q => if k0 : q = 34 then by subst k0; exact Eq.trans (b := (A 34)) rfl rfl else by unfold uA; simp only [nb1 k0, cond_false]) rfl (K _ _ _)
  | succ m ih =>
    intro B D F A L x1 y2 o3 o4 hm K
    generalize hT : (kv_widenPaths_10 (A 32) (A 33) x1 (m + 1) y2 (A 34)) = T at K
    have hE : T = (kv_widenPaths_10 (A 32) (A 33) x1 m (y2 + 1) (kv_widenPaths_17 (A 32) (A 33) y2 x1.toInt.toNat 0 (A 34))) := hT.symm
    clear hT
    refine w_n 2 (pc1 := 12) (ls1 := [some (.ref 30), some (.int x1), some (.int y2), o3, o4]) (st1 := [.int x1, .int y2]) (hp1 := (hz F A L)) rfl ?_
    refine w_ge (p3 := 15) rfl rfl (fun h => False.elim (by have h : x1.toInt ≤ y2.toInt := h; omega)) (fun hb => ?_)
    refine w_n 2 (pc1 := 17) (ls1 := [some (.ref 30), some (.int x1), some (.int y2), some (.int 0), o4]) (st1 := []) (hp1 := (hz F A L)) rfl ?_
    refine t_kv_widenPaths_17 x1.toInt.toNat (show x1.toInt.toNat = (x1.toInt - (0 : Int32).toInt).toNat by have e0 : (0 : Int32).toInt = 0 := rfl; first | rfl | omega) ?_
    intro r1 r2
    show wl_E f _ _ mm91.2.2.2.2.2.2.2.2 67 [some (.ref 30), some (.int x1), some (.int y2), some (.int r1), r2] [] (hz F (uA A 34 (kv_widenPaths_17 (A 32) (A 33) y2 x1.toInt.toNat 0 (A 34))) L) _
    generalize hG287 : (kv_widenPaths_17 (A 32) (A 33) y2 x1.toInt.toNat 0 (A 34)) = G287 at hE ⊢
    refine w_n 2 (pc1 := 10) (ls1 := [some (.ref 30), some (.int x1), some (.int (y2 + 1)), some (.int r1), r2]) (st1 := []) (hp1 := (hz F (uA A 34 G287) L)) rfl ?_
    subst T
    have hb2 := i_up (B := x1) hb
    have hb3 : y2.toInt < x1.toInt := hb
    exact ih (show m = (x1.toInt - (y2 + 1).toInt).toNat by rw [hb2]; omega) (fun q2 q3 q4 => cvE rfl (funext fun q => if k0 : q = 34 then by subst k0; exact Eq.trans (b := (kv_widenPaths_10 (A 32) (A 33) x1 m (y2 + 1) G287)) rfl rfl else by unfold uA; simp only [nb1 k0, cond_false]) rfl (K q2 q3 q4))
def kjm_min (x0 : Int32) (x1 : Int32) : Int32 := (if x1.toInt < x0.toInt then x1 else x0)
theorem t_kjm_min {f D : Nat} {F : Nat → Nat → Int32} {A : Nat → List Int32} {L : Nat → List Int64} {Q : Option Value → sm_H → Prop} {x0 : Int32} {x1 : Int32} (K : Q (some (.int (kjm_min x0 x1))) (hz F A L)) : wl_M f D 34 [.int x0, .int x1] (hz F A L) Q := by
  generalize hT : (kjm_min x0 x1) = T at K
  have hE : T = (if x1.toInt < x0.toInt then x1 else x0) := hT.symm
  clear hT
  refine w_m (E := mm34) rfl ?_
  show wl_E f f (D - 1) mm34.2.2.2.2.2.2.2.2 0 [some (.int x0), some (.int x1)] [] (hz F A L) Q
  refine w_n 2 (pc1 := 2) (ls1 := [some (.int x0), some (.int x1)]) (st1 := [.int x1, .int x0]) (hp1 := (hz F A L)) rfl ?_
  refine w_gt (p3 := 5) rfl rfl (fun h => ?_) (fun h => ?_)
  · have h1 : x1.toInt < x0.toInt := h
    rw [if_pos h1] at hE
    refine w_n 1 (pc1 := 10) (ls1 := [some (.int x0), some (.int x1)]) (st1 := [.int x1]) (hp1 := (hz F A L)) rfl ?_
    subst T
    exact w_ri rfl (cvQ rfl rfl rfl K)
  · have h1 : x0.toInt ≤ x1.toInt := h
    rw [if_neg (Int.not_lt.mpr h1)] at hE
    refine w_n 2 (pc1 := 10) (ls1 := [some (.int x0), some (.int x1)]) (st1 := [.int x0]) (hp1 := (hz F A L)) rfl ?_
    subst T
    exact w_ri rfl (cvQ rfl rfl rfl K)
def kjm_max (x0 : Int32) (x1 : Int32) : Int32 := (if x0.toInt < x1.toInt then x1 else x0)
theorem t_kjm_max {f D : Nat} {F : Nat → Nat → Int32} {A : Nat → List Int32} {L : Nat → List Int64} {Q : Option Value → sm_H → Prop} {x0 : Int32} {x1 : Int32} (K : Q (some (.int (kjm_max x0 x1))) (hz F A L)) : wl_M f D 33 [.int x0, .int x1] (hz F A L) Q := by
  generalize hT : (kjm_max x0 x1) = T at K
  have hE : T = (if x0.toInt < x1.toInt then x1 else x0) := hT.symm
  clear hT
  refine w_m (E := mm33) rfl ?_
  show wl_E f f (D - 1) mm33.2.2.2.2.2.2.2.2 0 [some (.int x0), some (.int x1)] [] (hz F A L) Q
  refine w_n 2 (pc1 := 2) (ls1 := [some (.int x0), some (.int x1)]) (st1 := [.int x1, .int x0]) (hp1 := (hz F A L)) rfl ?_
  refine w_lt (p3 := 5) rfl rfl (fun h => ?_) (fun h => ?_)
  · have h1 : x0.toInt < x1.toInt := h
    rw [if_pos h1] at hE
    refine w_n 1 (pc1 := 10) (ls1 := [some (.int x0), some (.int x1)]) (st1 := [.int x1]) (hp1 := (hz F A L)) rfl ?_
    subst T
    exact w_ri rfl (cvQ rfl rfl rfl K)
  · have h1 : x1.toInt ≤ x0.toInt := h
    rw [if_neg (Int.not_lt.mpr h1)] at hE
    refine w_n 2 (pc1 := 10) (ls1 := [some (.int x0), some (.int x1)]) (st1 := [.int x0]) (hp1 := (hz F A L)) rfl ?_
    subst T
    exact w_ri rfl (cvQ rfl rfl rfl K)
def kv_widen (a34 : List Int32) (x1 : Int32) (x2 : Int32) (x3 : Int32) : List Int32 := (a34.set ((x1 * 6) + x3).toInt.toNat (kjm_max (a34.getD ((x1 * 6) + x3).toInt.toNat 0) (kjm_min (a34.getD ((x1 * 6) + x2).toInt.toNat 0) (a34.getD ((x2 * 6) + x3).toInt.toNat 0))))
theorem t_kv_widen {f D : Nat} {F : Nat → Nat → Int32} {A : Nat → List Int32} {L : Nat → List Int64} {Q : Option Value → sm_H → Prop} {x1 : Int32} {x2 : Int32} {x3 : Int32} (K : Q none (hz F (uA A 34 (kv_widen (A 34) x1 x2 x3)) L)) : wl_M f D 92 [.ref 30, .int x1, .int x2, .int x3] (hz F A L) Q := by
  generalize hT : (kv_widen (A 34) x1 x2 x3) = T at K
  have hE : T = ((A 34).set ((x1 * 6) + x3).toInt.toNat (kjm_max ((A 34).getD ((x1 * 6) + x3).toInt.toNat 0) (kjm_min ((A 34).getD ((x1 * 6) + x2).toInt.toNat 0) ((A 34).getD ((x2 * 6) + x3).toInt.toNat 0)))) := hT.symm
  clear hT
  refine w_m (E := mm92) rfl ?_
  show wl_E f f (D - 1) mm92.2.2.2.2.2.2.2.2 0 [some (.ref 30), some (.int x1), some (.int x2), some (.int x3), none, none] [] (hz F A L) Q
  refine w_n 13 (pc1 := 18) (ls1 := [some (.ref 30), some (.int x1), some (.int x2), some (.int x3), some (.int ((x1 * 6) + x3)), none]) (st1 := [.int ((x1 * 6) + x2), .ref 34]) (hp1 := (hz F A L)) rfl ?_
  refine w_al (k := 34) (l := (A 34)) rfl rfl rfl (fun _ => ?_)
  refine w_n 7 (pc1 := 29) (ls1 := [some (.ref 30), some (.int x1), some (.int x2), some (.int x3), some (.int ((x1 * 6) + x3)), none]) (st1 := [.int ((x2 * 6) + x3), .ref 34, .int ((A 34).getD ((x1 * 6) + x2).toInt.toNat 0)]) (hp1 := (hz F A L)) rfl ?_
  refine w_al (k := 34) (l := (A 34)) rfl rfl rfl (fun _ => ?_)
  refine w_c rfl rfl (t_kjm_min ?_)
  show wl_E f _ _ mm92.2.2.2.2.2.2.2.2 33 [some (.ref 30), some (.int x1), some (.int x2), some (.int x3), some (.int ((x1 * 6) + x3)), none] [.int (kjm_min ((A 34).getD ((x1 * 6) + x2).toInt.toNat 0) ((A 34).getD ((x2 * 6) + x3).toInt.toNat 0))] (hz F A L) _
  generalize hG289 : (kjm_min ((A 34).getD ((x1 * 6) + x2).toInt.toNat 0) ((A 34).getD ((x2 * 6) + x3).toInt.toNat 0)) = G289 at hE ⊢
  refine w_n 7 (pc1 := 47) (ls1 := [some (.ref 30), some (.int x1), some (.int x2), some (.int x3), some (.int ((x1 * 6) + x3)), some (.int G289)]) (st1 := [.int ((x1 * 6) + x3), .ref 34, .int ((x1 * 6) + x3), .ref 34]) (hp1 := (hz F A L)) rfl ?_
  refine w_al (k := 34) (l := (A 34)) rfl rfl rfl (fun _ => ?_)
  refine w_n 1 (pc1 := 50) (ls1 := [some (.ref 30), some (.int x1), some (.int x2), some (.int x3), some (.int ((x1 * 6) + x3)), some (.int G289)]) (st1 := [.int G289, .int ((A 34).getD ((x1 * 6) + x3).toInt.toNat 0), .int ((x1 * 6) + x3), .ref 34]) (hp1 := (hz F A L)) rfl ?_
  refine w_c rfl rfl (t_kjm_max ?_)
  show wl_E f _ _ mm92.2.2.2.2.2.2.2.2 53 [some (.ref 30), some (.int x1), some (.int x2), some (.int x3), some (.int ((x1 * 6) + x3)), some (.int G289)] [.int (kjm_max ((A 34).getD ((x1 * 6) + x3).toInt.toNat 0) G289), .int ((x1 * 6) + x3), .ref 34] (hz F A L) _
  generalize hG290 : (kjm_max ((A 34).getD ((x1 * 6) + x3).toInt.toNat 0) G289) = G290 at hE ⊢
  refine w_as (k := 34) (l := (A 34)) (hp1 := (hz F (uA A 34 ((A 34).set ((x1 * 6) + x3).toInt.toNat G290)) L)) rfl rfl rfl (hz_s34 _) (fun _ => ?_)
  subst T
  exact w_r rfl rfl (cvQ rfl rfl rfl K)
def kv_widenPaths_90  (x2 : Int32) (x3 : Int32) : Nat → Int32 → List Int32 → List Int32
  | 0, _, a34 => a34
  | m + 1, y4, a34 => (kv_widenPaths_90 x2 x3 m (y4 + 1) (kv_widen a34 x3 x2 y4))
theorem t_kv_widenPaths_90 {f : Nat} {Q : Option Value → sm_H → Prop} : ∀ (m : Nat) {B D : Nat} {F : Nat → Nat → Int32} {A : Nat → List Int32} {L : Nat → List Int64} {x1 : Int32} {x2 : Int32} {x3 : Int32} {y4 : Int32}, m = (x1.toInt - y4.toInt).toNat → (∀ q4 : Int32, wl_E f B D mm91.2.2.2.2.2.2.2.2 110 [some (.ref 30), some (.int x1), some (.int x2), some (.int x3), some (.int q4)] [] (hz F (uA A 34 (kv_widenPaths_90 x2 x3 m y4 (A 34))) L) Q) → wl_E f B D mm91.2.2.2.2.2.2.2.2 90 [some (.ref 30), some (.int x1), some (.int x2), some (.int x3), some (.int y4)] [] (hz F A L) Q := by
  intro m
  induction m with
  | zero =>
    intro B D F A L x1 x2 x3 y4 hm K
    generalize hT : (kv_widenPaths_90 x2 x3 0 y4 (A 34)) = T at K
    have hE : T = (A 34) := hT.symm
    clear hT
    refine w_n 2 (pc1 := 93) (ls1 := [some (.ref 30), some (.int x1), some (.int x2), some (.int x3), some (.int y4)]) (st1 := [.int x1, .int y4]) (hp1 := (hz F A L)) rfl ?_
    refine w_ge (p3 := 96) rfl rfl (fun hb => ?_) (fun h => False.elim (by have h : y4.toInt < x1.toInt := h; omega))
    subst T
    exact cvE rfl (funext fun q => if k0 : q = 34 then by subst k0; exact Eq.trans (b := (A 34)) rfl rfl else by unfold uA; simp only [nb1 k0, cond_false]) rfl (K _)
  | succ m ih =>
    intro B D F A L x1 x2 x3 y4 hm K
    generalize hT : (kv_widenPaths_90 x2 x3 (m + 1) y4 (A 34)) = T at K
    have hE : T = (kv_widenPaths_90 x2 x3 m (y4 + 1) (kv_widen (A 34) x3 x2 y4)) := hT.symm
    clear hT
    refine w_n 2 (pc1 := 93) (ls1 := [some (.ref 30), some (.int x1), some (.int x2), some (.int x3), some (.int y4)]) (st1 := [.int x1, .int y4]) (hp1 := (hz F A L)) rfl ?_
    refine w_ge (p3 := 96) rfl rfl (fun h => False.elim (by have h : x1.toInt ≤ y4.toInt := h; omega)) (fun hb => ?_)
    refine w_n 4 (pc1 := 101) (ls1 := [some (.ref 30), some (.int x1), some (.int x2), some (.int x3), some (.int y4)]) (st1 := [.int y4, .int x2, .int x3, .ref 30]) (hp1 := (hz F A L)) rfl ?_
    refine w_c rfl rfl (t_kv_widen ?_)
    show wl_E f _ _ mm91.2.2.2.2.2.2.2.2 104 [some (.ref 30), some (.int x1), some (.int x2), some (.int x3), some (.int y4)] [] (hz F (uA A 34 (kv_widen (A 34) x3 x2 y4)) L) _
    generalize hG291 : (kv_widen (A 34) x3 x2 y4) = G291 at hE ⊢
    refine w_n 2 (pc1 := 90) (ls1 := [some (.ref 30), some (.int x1), some (.int x2), some (.int x3), some (.int (y4 + 1))]) (st1 := []) (hp1 := (hz F (uA A 34 G291) L)) rfl ?_
    subst T
    have hb2 := i_up (B := x1) hb
    have hb3 : y4.toInt < x1.toInt := hb
    exact ih (show m = (x1.toInt - (y4 + 1).toInt).toNat by rw [hb2]; omega) (fun q4 => cvE rfl (funext fun q => if k0 : q = 34 then by subst k0; exact Eq.trans (b := (kv_widenPaths_90 x2 x3 m (y4 + 1) G291)) rfl rfl else by unfold uA; simp only [nb1 k0, cond_false]) rfl (K q4))
def kv_widenPaths_82  (x1 : Int32) (x2 : Int32) : Nat → Int32 → List Int32 → List Int32
  | 0, _, a34 => a34
  | m + 1, y3, a34 => (kv_widenPaths_82 x1 x2 m (y3 + 1) (kv_widenPaths_90 x2 y3 x1.toInt.toNat 0 a34))
theorem t_kv_widenPaths_82 {f : Nat} {Q : Option Value → sm_H → Prop} : ∀ (m : Nat) {B D : Nat} {F : Nat → Nat → Int32} {A : Nat → List Int32} {L : Nat → List Int64} {x1 : Int32} {x2 : Int32} {y3 : Int32} {o4 : Option Value}, m = (x1.toInt - y3.toInt).toNat → (∀ q3 : Int32, ∀ q4 : Option Value, wl_E f B D mm91.2.2.2.2.2.2.2.2 116 [some (.ref 30), some (.int x1), some (.int x2), some (.int q3), q4] [] (hz F (uA A 34 (kv_widenPaths_82 x1 x2 m y3 (A 34))) L) Q) → wl_E f B D mm91.2.2.2.2.2.2.2.2 82 [some (.ref 30), some (.int x1), some (.int x2), some (.int y3), o4] [] (hz F A L) Q := by
  intro m
  induction m with
  | zero =>
    intro B D F A L x1 x2 y3 o4 hm K
    generalize hT : (kv_widenPaths_82 x1 x2 0 y3 (A 34)) = T at K
    have hE : T = (A 34) := hT.symm
    clear hT
    refine w_n 2 (pc1 := 84) (ls1 := [some (.ref 30), some (.int x1), some (.int x2), some (.int y3), o4]) (st1 := [.int x1, .int y3]) (hp1 := (hz F A L)) rfl ?_
    refine w_ge (p3 := 87) rfl rfl (fun hb => ?_) (fun h => False.elim (by have h : y3.toInt < x1.toInt := h; omega))
    subst T
    exact cvE rfl (funext fun q => if k0 : q = 34 then by subst k0; exact Eq.trans (b := (A 34)) rfl rfl else by unfold uA; simp only [nb1 k0, cond_false]) rfl (K _ _)
  | succ m ih =>
    intro B D F A L x1 x2 y3 o4 hm K
    generalize hT : (kv_widenPaths_82 x1 x2 (m + 1) y3 (A 34)) = T at K
    have hE : T = (kv_widenPaths_82 x1 x2 m (y3 + 1) (kv_widenPaths_90 x2 y3 x1.toInt.toNat 0 (A 34))) := hT.symm
    clear hT
    refine w_n 2 (pc1 := 84) (ls1 := [some (.ref 30), some (.int x1), some (.int x2), some (.int y3), o4]) (st1 := [.int x1, .int y3]) (hp1 := (hz F A L)) rfl ?_
    refine w_ge (p3 := 87) rfl rfl (fun h => False.elim (by have h : x1.toInt ≤ y3.toInt := h; omega)) (fun hb => ?_)
    refine w_n 2 (pc1 := 90) (ls1 := [some (.ref 30), some (.int x1), some (.int x2), some (.int y3), some (.int 0)]) (st1 := []) (hp1 := (hz F A L)) rfl ?_
    refine t_kv_widenPaths_90 x1.toInt.toNat (show x1.toInt.toNat = (x1.toInt - (0 : Int32).toInt).toNat by have e0 : (0 : Int32).toInt = 0 := rfl; first | rfl | omega) ?_
    intro r1
    show wl_E f _ _ mm91.2.2.2.2.2.2.2.2 110 [some (.ref 30), some (.int x1), some (.int x2), some (.int y3), some (.int r1)] [] (hz F (uA A 34 (kv_widenPaths_90 x2 y3 x1.toInt.toNat 0 (A 34))) L) _
    generalize hG292 : (kv_widenPaths_90 x2 y3 x1.toInt.toNat 0 (A 34)) = G292 at hE ⊢
    refine w_n 2 (pc1 := 82) (ls1 := [some (.ref 30), some (.int x1), some (.int x2), some (.int (y3 + 1)), some (.int r1)]) (st1 := []) (hp1 := (hz F (uA A 34 G292) L)) rfl ?_
    subst T
    have hb2 := i_up (B := x1) hb
    have hb3 : y3.toInt < x1.toInt := hb
    exact ih (show m = (x1.toInt - (y3 + 1).toInt).toNat by rw [hb2]; omega) (fun q3 q4 => cvE rfl (funext fun q => if k0 : q = 34 then by subst k0; exact Eq.trans (b := (kv_widenPaths_82 x1 x2 m (y3 + 1) G292)) rfl rfl else by unfold uA; simp only [nb1 k0, cond_false]) rfl (K q3 q4))
def kv_widenPaths_75  (x1 : Int32) : Nat → Int32 → List Int32 → List Int32
  | 0, _, a34 => a34
  | m + 1, y2, a34 => (kv_widenPaths_75 x1 m (y2 + 1) (kv_widenPaths_82 x1 y2 x1.toInt.toNat 0 a34))
theorem t_kv_widenPaths_75 {f : Nat} {Q : Option Value → sm_H → Prop} : ∀ (m : Nat) {B D : Nat} {F : Nat → Nat → Int32} {A : Nat → List Int32} {L : Nat → List Int64} {x1 : Int32} {y2 : Int32} {o3 : Option Value} {o4 : Option Value}, m = (x1.toInt - y2.toInt).toNat → (∀ q2 : Int32, ∀ q3 : Option Value, ∀ q4 : Option Value, wl_E f B D mm91.2.2.2.2.2.2.2.2 122 [some (.ref 30), some (.int x1), some (.int q2), q3, q4] [] (hz F (uA A 34 (kv_widenPaths_75 x1 m y2 (A 34))) L) Q) → wl_E f B D mm91.2.2.2.2.2.2.2.2 75 [some (.ref 30), some (.int x1), some (.int y2), o3, o4] [] (hz F A L) Q := by
  intro m
  induction m with
  | zero =>
    intro B D F A L x1 y2 o3 o4 hm K
    generalize hT : (kv_widenPaths_75 x1 0 y2 (A 34)) = T at K
    have hE : T = (A 34) := hT.symm
    clear hT
    refine w_n 2 (pc1 := 77) (ls1 := [some (.ref 30), some (.int x1), some (.int y2), o3, o4]) (st1 := [.int x1, .int y2]) (hp1 := (hz F A L)) rfl ?_
    refine w_ge (p3 := 80) rfl rfl (fun hb => ?_) (fun h => False.elim (by have h : y2.toInt < x1.toInt := h; omega))
    subst T
    exact cvE rfl (funext fun q => if k0 : q = 34 then by subst k0; exact Eq.trans (b := (A 34)) rfl rfl else by unfold uA; simp only [nb1 k0, cond_false]) rfl (K _ _ _)
  | succ m ih =>
    intro B D F A L x1 y2 o3 o4 hm K
    generalize hT : (kv_widenPaths_75 x1 (m + 1) y2 (A 34)) = T at K
    have hE : T = (kv_widenPaths_75 x1 m (y2 + 1) (kv_widenPaths_82 x1 y2 x1.toInt.toNat 0 (A 34))) := hT.symm
    clear hT
    refine w_n 2 (pc1 := 77) (ls1 := [some (.ref 30), some (.int x1), some (.int y2), o3, o4]) (st1 := [.int x1, .int y2]) (hp1 := (hz F A L)) rfl ?_
    refine w_ge (p3 := 80) rfl rfl (fun h => False.elim (by have h : x1.toInt ≤ y2.toInt := h; omega)) (fun hb => ?_)
    refine w_n 2 (pc1 := 82) (ls1 := [some (.ref 30), some (.int x1), some (.int y2), some (.int 0), o4]) (st1 := []) (hp1 := (hz F A L)) rfl ?_
    refine t_kv_widenPaths_82 x1.toInt.toNat (show x1.toInt.toNat = (x1.toInt - (0 : Int32).toInt).toNat by have e0 : (0 : Int32).toInt = 0 := rfl; first | rfl | omega) ?_
    intro r1 r2
    show wl_E f _ _ mm91.2.2.2.2.2.2.2.2 116 [some (.ref 30), some (.int x1), some (.int y2), some (.int r1), r2] [] (hz F (uA A 34 (kv_widenPaths_82 x1 y2 x1.toInt.toNat 0 (A 34))) L) _
    generalize hG293 : (kv_widenPaths_82 x1 y2 x1.toInt.toNat 0 (A 34)) = G293 at hE ⊢
    refine w_n 2 (pc1 := 75) (ls1 := [some (.ref 30), some (.int x1), some (.int (y2 + 1)), some (.int r1), r2]) (st1 := []) (hp1 := (hz F (uA A 34 G293) L)) rfl ?_
    subst T
    have hb2 := i_up (B := x1) hb
    have hb3 : y2.toInt < x1.toInt := hb
    exact ih (show m = (x1.toInt - (y2 + 1).toInt).toNat by rw [hb2]; omega) (fun q2 q3 q4 => cvE rfl (funext fun q => if k0 : q = 34 then by subst k0; exact Eq.trans (b := (kv_widenPaths_75 x1 m (y2 + 1) G293)) rfl rfl else by unfold uA; simp only [nb1 k0, cond_false]) rfl (K q2 q3 q4))
def kv_widenPaths (f3_0 : Int32) (a32 : List Int32) (a33 : List Int32) (a34 : List Int32) : List Int32 := (kv_widenPaths_75 f3_0 f3_0.toInt.toNat 0 (kv_widenPaths_10 a32 a33 f3_0 f3_0.toInt.toNat 0 a34))
theorem t_kv_widenPaths {f D : Nat} {F : Nat → Nat → Int32} {A : Nat → List Int32} {L : Nat → List Int64} {Q : Option Value → sm_H → Prop} (K : Q none (hz F (uA A 34 (kv_widenPaths (F 3 0) (A 32) (A 33) (A 34))) L)) : wl_M f D 91 [.ref 30] (hz F A L) Q := by
  generalize hT : (kv_widenPaths (F 3 0) (A 32) (A 33) (A 34)) = T at K
  have hE : T = (kv_widenPaths_75 (F 3 0) (F 3 0).toInt.toNat 0 (kv_widenPaths_10 (A 32) (A 33) (F 3 0) (F 3 0).toInt.toNat 0 (A 34))) := hT.symm
  clear hT
  refine w_m (E := mm91) rfl ?_
  show wl_E f f (D - 1) mm91.2.2.2.2.2.2.2.2 0 [some (.ref 30), none, none, none, none] [] (hz F A L) Q
  refine w_n 6 (pc1 := 10) (ls1 := [some (.ref 30), some (.int (F 3 0)), some (.int 0), none, none]) (st1 := []) (hp1 := (hz F A L)) rfl ?_
  refine t_kv_widenPaths_10 (F 3 0).toInt.toNat (show (F 3 0).toInt.toNat = ((F 3 0).toInt - (0 : Int32).toInt).toNat by have e0 : (0 : Int32).toInt = 0 := rfl; first | rfl | omega) ?_
  intro r1 r2 r3
  show wl_E f _ _ mm91.2.2.2.2.2.2.2.2 73 [some (.ref 30), some (.int (F 3 0)), some (.int r1), r2, r3] [] (hz F (uA A 34 (kv_widenPaths_10 (A 32) (A 33) (F 3 0) (F 3 0).toInt.toNat 0 (A 34))) L) _
  generalize hG288 : (kv_widenPaths_10 (A 32) (A 33) (F 3 0) (F 3 0).toInt.toNat 0 (A 34)) = G288 at hE ⊢
  refine w_n 2 (pc1 := 75) (ls1 := [some (.ref 30), some (.int (F 3 0)), some (.int 0), r2, r3]) (st1 := []) (hp1 := (hz F (uA A 34 G288) L)) rfl ?_
  refine t_kv_widenPaths_75 (F 3 0).toInt.toNat (show (F 3 0).toInt.toNat = ((F 3 0).toInt - (0 : Int32).toInt).toNat by have e0 : (0 : Int32).toInt = 0 := rfl; first | rfl | omega) ?_
  intro r4 r5 r6
  show wl_E f _ _ mm91.2.2.2.2.2.2.2.2 122 [some (.ref 30), some (.int (F 3 0)), some (.int r4), r5, r6] [] (hz F (uA (uA A 34 G288) 34 (kv_widenPaths_75 (F 3 0) (F 3 0).toInt.toNat 0 G288)) L) _
  generalize hG294 : (kv_widenPaths_75 (F 3 0) (F 3 0).toInt.toNat 0 G288) = G294 at hE ⊢
  subst T
  exact w_r rfl rfl (cvQ rfl (funext fun q => if k0 : q = 34 then by subst k0; exact Eq.trans (b := G294) rfl rfl else by unfold uA; simp only [nb1 k0, cond_false]) rfl K)
def kc_widest (f3_0 : Int32) (f3_1 : Int32) (a6 : List Int32) (a32 : List Int32) (a33 : List Int32) (a34 : List Int32) (l11 : List Int64) (x1 : Int32) (x2 : Int32) : Int32 × List Int32 × List Int32 × List Int32 := (if (kt_isMeasure f3_0 x1) = 0 then ((-1), a32, a33, a34) else (if (kt_isMeasure f3_0 x2) = 0 then ((-1), a32, a33, a34) else (if x1 = x2 then ((-1), a32, a33, a34) else (((kv_widenPaths f3_0 (kv_weighPairs f3_0 f3_1 a6 a32 a33 l11).1 (kv_weighPairs f3_0 f3_1 a6 a32 a33 l11).2 a34).getD ((x1 * 6) + x2).toInt.toNat 0), (kv_weighPairs f3_0 f3_1 a6 a32 a33 l11).1, (kv_weighPairs f3_0 f3_1 a6 a32 a33 l11).2, (kv_widenPaths f3_0 (kv_weighPairs f3_0 f3_1 a6 a32 a33 l11).1 (kv_weighPairs f3_0 f3_1 a6 a32 a33 l11).2 a34)))))
theorem t_kc_widest {f D : Nat} {F : Nat → Nat → Int32} {A : Nat → List Int32} {L : Nat → List Int64} {Q : Option Value → sm_H → Prop} {x1 : Int32} {x2 : Int32} (K : Q (some (.int ((kc_widest (F 3 0) (F 3 1) (A 6) (A 32) (A 33) (A 34) (L 11) x1 x2).1))) (hz F (uA (uA (uA A 32 ((kc_widest (F 3 0) (F 3 1) (A 6) (A 32) (A 33) (A 34) (L 11) x1 x2).2.1)) 33 ((kc_widest (F 3 0) (F 3 1) (A 6) (A 32) (A 33) (A 34) (L 11) x1 x2).2.2.1)) 34 ((kc_widest (F 3 0) (F 3 1) (A 6) (A 32) (A 33) (A 34) (L 11) x1 x2).2.2.2)) L)) : wl_M f D 90 [.ref 0, .int x1, .int x2] (hz F A L) Q := by
  generalize hT : (kc_widest (F 3 0) (F 3 1) (A 6) (A 32) (A 33) (A 34) (L 11) x1 x2) = T at K
  have hE : T = (if (kt_isMeasure (F 3 0) x1) = 0 then ((-1), (A 32), (A 33), (A 34)) else (if (kt_isMeasure (F 3 0) x2) = 0 then ((-1), (A 32), (A 33), (A 34)) else (if x1 = x2 then ((-1), (A 32), (A 33), (A 34)) else (((kv_widenPaths (F 3 0) (kv_weighPairs (F 3 0) (F 3 1) (A 6) (A 32) (A 33) (L 11)).1 (kv_weighPairs (F 3 0) (F 3 1) (A 6) (A 32) (A 33) (L 11)).2 (A 34)).getD ((x1 * 6) + x2).toInt.toNat 0), (kv_weighPairs (F 3 0) (F 3 1) (A 6) (A 32) (A 33) (L 11)).1, (kv_weighPairs (F 3 0) (F 3 1) (A 6) (A 32) (A 33) (L 11)).2, (kv_widenPaths (F 3 0) (kv_weighPairs (F 3 0) (F 3 1) (A 6) (A 32) (A 33) (L 11)).1 (kv_weighPairs (F 3 0) (F 3 1) (A 6) (A 32) (A 33) (L 11)).2 (A 34)))))) := hT.symm
  clear hT
  refine w_m (E := mm90) rfl ?_
  show wl_E f f (D - 1) mm90.2.2.2.2.2.2.2.2 0 [some (.ref 0), some (.int x1), some (.int x2)] [] (hz F A L) Q
  refine w_n 3 (pc1 := 5) (ls1 := [some (.ref 0), some (.int x1), some (.int x2)]) (st1 := [.int x1, .ref 3]) (hp1 := (hz F A L)) rfl ?_
  refine w_c rfl rfl (t_kt_isMeasure ?_)
  show wl_E f _ _ mm90.2.2.2.2.2.2.2.2 8 [some (.ref 0), some (.int x1), some (.int x2)] [.int (kt_isMeasure (F 3 0) x1)] (hz F A L) _
  generalize hG284 : (kt_isMeasure (F 3 0) x1) = G284 at hE ⊢
  refine w_zeq (p3 := 11) rfl rfl (fun h => ?_) (fun h => ?_)
  · have h1 : G284 = 0 := h
    rw [if_pos h1] at hE
    refine w_n 1 (pc1 := 28) (ls1 := [some (.ref 0), some (.int x1), some (.int x2)]) (st1 := [.int (-1)]) (hp1 := (hz F A L)) rfl ?_
    subst T
    exact w_ri rfl (cvQ rfl (funext fun q => if k0 : q = 32 then by subst k0; exact Eq.trans (b := (A 32)) rfl rfl else if k1 : q = 33 then by subst k1; exact Eq.trans (b := (A 33)) rfl rfl else if k2 : q = 34 then by subst k2; exact Eq.trans (b := (A 34)) rfl rfl else by unfold uA; simp only [nb1 k0, nb1 k1, nb1 k2, cond_false]) rfl K)
  · have h1 : ¬ G284 = 0 := h
    rw [if_neg h1] at hE
    refine w_n 3 (pc1 := 16) (ls1 := [some (.ref 0), some (.int x1), some (.int x2)]) (st1 := [.int x2, .ref 3]) (hp1 := (hz F A L)) rfl ?_
    refine w_c rfl rfl (t_kt_isMeasure ?_)
    show wl_E f _ _ mm90.2.2.2.2.2.2.2.2 19 [some (.ref 0), some (.int x1), some (.int x2)] [.int (kt_isMeasure (F 3 0) x2)] (hz F A L) _
    generalize hG285 : (kt_isMeasure (F 3 0) x2) = G285 at hE ⊢
    refine w_zeq (p3 := 22) rfl rfl (fun h => ?_) (fun h => ?_)
    · have h2 : G285 = 0 := h
      rw [if_pos h2] at hE
      refine w_n 1 (pc1 := 28) (ls1 := [some (.ref 0), some (.int x1), some (.int x2)]) (st1 := [.int (-1)]) (hp1 := (hz F A L)) rfl ?_
      subst T
      exact w_ri rfl (cvQ rfl (funext fun q => if k0 : q = 32 then by subst k0; exact Eq.trans (b := (A 32)) rfl rfl else if k1 : q = 33 then by subst k1; exact Eq.trans (b := (A 33)) rfl rfl else if k2 : q = 34 then by subst k2; exact Eq.trans (b := (A 34)) rfl rfl else by unfold uA; simp only [nb1 k0, nb1 k1, nb1 k2, cond_false]) rfl K)
    · have h2 : ¬ G285 = 0 := h
      rw [if_neg h2] at hE
      refine w_n 2 (pc1 := 24) (ls1 := [some (.ref 0), some (.int x1), some (.int x2)]) (st1 := [.int x2, .int x1]) (hp1 := (hz F A L)) rfl ?_
      refine w_ne (p3 := 27) rfl rfl (fun h => ?_) (fun h => ?_)
      · have h3 : ¬ x1 = x2 := h
        rw [if_neg h3] at hE
        refine w_n 2 (pc1 := 33) (ls1 := [some (.ref 0), some (.int x1), some (.int x2)]) (st1 := [.ref 30]) (hp1 := (hz F A L)) rfl ?_
        refine w_c rfl rfl (t_kv_weighPairs ?_)
        show wl_E f _ _ mm90.2.2.2.2.2.2.2.2 36 [some (.ref 0), some (.int x1), some (.int x2)] [] (hz F (uA (uA A 32 (kv_weighPairs (F 3 0) (F 3 1) (A 6) (A 32) (A 33) (L 11)).1) 33 (kv_weighPairs (F 3 0) (F 3 1) (A 6) (A 32) (A 33) (L 11)).2) L) _
        generalize hG286 : (kv_weighPairs (F 3 0) (F 3 1) (A 6) (A 32) (A 33) (L 11)) = G286 at hE ⊢
        refine w_n 2 (pc1 := 40) (ls1 := [some (.ref 0), some (.int x1), some (.int x2)]) (st1 := [.ref 30]) (hp1 := (hz F (uA (uA A 32 G286.1) 33 G286.2) L)) rfl ?_
        refine w_c rfl rfl (t_kv_widenPaths ?_)
        show wl_E f _ _ mm90.2.2.2.2.2.2.2.2 43 [some (.ref 0), some (.int x1), some (.int x2)] [] (hz F (uA (uA (uA A 32 G286.1) 33 G286.2) 34 (kv_widenPaths (F 3 0) G286.1 G286.2 (A 34))) L) _
        generalize hG295 : (kv_widenPaths (F 3 0) G286.1 G286.2 (A 34)) = G295 at hE ⊢
        refine w_n 8 (pc1 := 56) (ls1 := [some (.ref 0), some (.int x1), some (.int x2)]) (st1 := [.int ((x1 * 6) + x2), .ref 34]) (hp1 := (hz F (uA (uA (uA A 32 G286.1) 33 G286.2) 34 G295) L)) rfl ?_
        refine w_al (k := 34) (l := G295) rfl rfl rfl (fun _ => ?_)
        subst T
        exact w_ri rfl (cvQ rfl rfl rfl K)
      · have h3 : x1 = x2 := h
        rw [if_pos h3] at hE
        refine w_n 1 (pc1 := 28) (ls1 := [some (.ref 0), some (.int x1), some (.int x2)]) (st1 := [.int (-1)]) (hp1 := (hz F A L)) rfl ?_
        subst T
        exact w_ri rfl (cvQ rfl (funext fun q => if k0 : q = 32 then by subst k0; exact Eq.trans (b := (A 32)) rfl rfl else if k1 : q = 33 then by subst k1; exact Eq.trans (b := (A 33)) rfl rfl else if k2 : q = 34 then by subst k2; exact Eq.trans (b := (A 34)) rfl rfl else by unfold uA; simp only [nb1 k0, nb1 k1, nb1 k2, cond_false]) rfl K)
def km_laysWide_12 (a68 : List Int32) (x1 : Int32) : Nat → Int32 → List Int32 → List Int32
  | 0, _, a90 => a90
  | m + 1, y2, a90 => (if x1 = y2 then (km_laysWide_12 a68 x1 m (y2 + 1) (a90.set ((6 * x1) + y2).toInt.toNat 0)) else (if (km_beats a68 x1 y2) = 0 then (km_laysWide_12 a68 x1 m (y2 + 1) (a90.set ((6 * x1) + y2).toInt.toNat 0)) else (km_laysWide_12 a68 x1 m (y2 + 1) (a90.set ((6 * x1) + y2).toInt.toNat (km_pairOf a68 x1 y2)))))
theorem t_km_laysWide_12 {f : Nat} {Q : Option Value → sm_H → Prop} : ∀ (m : Nat) {B D : Nat} {F : Nat → Nat → Int32} {A : Nat → List Int32} {L : Nat → List Int64} {x1 : Int32} {y2 : Int32} {o3 : Option Value}, m = ((F 67 3).toInt - y2.toInt).toNat → (∀ q2 : Int32, wl_E f B D mm218.2.2.2.2.2.2.2.2 61 [some (.ref 67), some (.int x1), some (.int q2), o3] [] (hz F (uA A 90 (km_laysWide_12 (A 68) x1 m y2 (A 90))) L) Q) → wl_E f B D mm218.2.2.2.2.2.2.2.2 12 [some (.ref 67), some (.int x1), some (.int y2), o3] [] (hz F A L) Q := by
  intro m
  induction m with
  | zero =>
    intro B D F A L x1 y2 o3 hm K
    generalize hT : (km_laysWide_12 (A 68) x1 0 y2 (A 90)) = T at K
    have hE : T = (A 90) := hT.symm
    clear hT
    refine w_n 3 (pc1 := 17) (ls1 := [some (.ref 67), some (.int x1), some (.int y2), o3]) (st1 := [.int (F 67 3), .int y2]) (hp1 := (hz F A L)) rfl ?_
    refine w_ge (p3 := 20) rfl rfl (fun hb => ?_) (fun h => False.elim (by have h : y2.toInt < (F 67 3).toInt := h; omega))
    subst T
    exact cvE rfl (funext fun q => if k0 : q = 90 then by subst k0; exact Eq.trans (b := (A 90)) rfl rfl else by unfold uA; simp only [nb1 k0, cond_false]) rfl (K _)
  | succ m ih =>
    intro B D F A L x1 y2 o3 hm K
    generalize hT : (km_laysWide_12 (A 68) x1 (m + 1) y2 (A 90)) = T at K
    have hE : T = (if x1 = y2 then (km_laysWide_12 (A 68) x1 m (y2 + 1) ((A 90).set ((6 * x1) + y2).toInt.toNat 0)) else (if (km_beats (A 68) x1 y2) = 0 then (km_laysWide_12 (A 68) x1 m (y2 + 1) ((A 90).set ((6 * x1) + y2).toInt.toNat 0)) else (km_laysWide_12 (A 68) x1 m (y2 + 1) ((A 90).set ((6 * x1) + y2).toInt.toNat (km_pairOf (A 68) x1 y2))))) := hT.symm
    clear hT
    refine w_n 3 (pc1 := 17) (ls1 := [some (.ref 67), some (.int x1), some (.int y2), o3]) (st1 := [.int (F 67 3), .int y2]) (hp1 := (hz F A L)) rfl ?_
    refine w_ge (p3 := 20) rfl rfl (fun h => False.elim (by have h : (F 67 3).toInt ≤ y2.toInt := h; omega)) (fun hb => ?_)
    refine w_n 9 (pc1 := 32) (ls1 := [some (.ref 67), some (.int x1), some (.int y2), o3]) (st1 := [.int y2, .int x1, .int ((6 * x1) + y2), .ref 90]) (hp1 := (hz F A L)) rfl ?_
    refine w_eq (p3 := 35) rfl rfl (fun h => ?_) (fun h => ?_)
    · have h1 : x1 = y2 := h
      rw [if_pos h1] at hE
      refine w_n 1 (pc1 := 54) (ls1 := [some (.ref 67), some (.int x1), some (.int y2), o3]) (st1 := [.int 0, .int ((6 * x1) + y2), .ref 90]) (hp1 := (hz F A L)) rfl ?_
      refine w_as (k := 90) (l := (A 90)) (hp1 := (hz F (uA A 90 ((A 90).set ((6 * x1) + y2).toInt.toNat 0)) L)) rfl rfl rfl (hz_s90 _) (fun _ => ?_)
      refine w_n 2 (pc1 := 12) (ls1 := [some (.ref 67), some (.int x1), some (.int (y2 + 1)), o3]) (st1 := []) (hp1 := (hz F (uA A 90 ((A 90).set ((6 * x1) + y2).toInt.toNat 0)) L)) rfl ?_
      subst T
      have hb2 := i_up (B := (F 67 3)) hb
      have hb3 : y2.toInt < (F 67 3).toInt := hb
      exact ih (show m = ((F 67 3).toInt - (y2 + 1).toInt).toNat by rw [hb2]; omega) (fun q2 => cvE rfl (funext fun q => if k0 : q = 90 then by subst k0; exact Eq.trans (b := (km_laysWide_12 (A 68) x1 m (y2 + 1) ((A 90).set ((6 * x1) + y2).toInt.toNat 0))) rfl rfl else by unfold uA; simp only [nb1 k0, cond_false]) rfl (K q2))
    · have h1 : ¬ x1 = y2 := h
      rw [if_neg h1] at hE
      refine w_n 3 (pc1 := 38) (ls1 := [some (.ref 67), some (.int x1), some (.int y2), o3]) (st1 := [.int y2, .int x1, .ref 67, .int ((6 * x1) + y2), .ref 90]) (hp1 := (hz F A L)) rfl ?_
      refine w_c rfl rfl (t_km_beats ?_)
      show wl_E f _ _ mm218.2.2.2.2.2.2.2.2 41 [some (.ref 67), some (.int x1), some (.int y2), o3] [.int (km_beats (A 68) x1 y2), .int ((6 * x1) + y2), .ref 90] (hz F A L) _
      generalize hG298 : (km_beats (A 68) x1 y2) = G298 at hE ⊢
      refine w_zeq (p3 := 44) rfl rfl (fun h => ?_) (fun h => ?_)
      · have h2 : G298 = 0 := h
        rw [if_pos h2] at hE
        refine w_n 1 (pc1 := 54) (ls1 := [some (.ref 67), some (.int x1), some (.int y2), o3]) (st1 := [.int 0, .int ((6 * x1) + y2), .ref 90]) (hp1 := (hz F A L)) rfl ?_
        refine w_as (k := 90) (l := (A 90)) (hp1 := (hz F (uA A 90 ((A 90).set ((6 * x1) + y2).toInt.toNat 0)) L)) rfl rfl rfl (hz_s90 _) (fun _ => ?_)
        refine w_n 2 (pc1 := 12) (ls1 := [some (.ref 67), some (.int x1), some (.int (y2 + 1)), o3]) (st1 := []) (hp1 := (hz F (uA A 90 ((A 90).set ((6 * x1) + y2).toInt.toNat 0)) L)) rfl ?_
        subst T
        have hb2 := i_up (B := (F 67 3)) hb
        have hb3 : y2.toInt < (F 67 3).toInt := hb
        exact ih (show m = ((F 67 3).toInt - (y2 + 1).toInt).toNat by rw [hb2]; omega) (fun q2 => cvE rfl (funext fun q => if k0 : q = 90 then by subst k0; exact Eq.trans (b := (km_laysWide_12 (A 68) x1 m (y2 + 1) ((A 90).set ((6 * x1) + y2).toInt.toNat 0))) rfl rfl else by unfold uA; simp only [nb1 k0, cond_false]) rfl (K q2))
      · have h2 : ¬ G298 = 0 := h
        rw [if_neg h2] at hE
        refine w_n 3 (pc1 := 47) (ls1 := [some (.ref 67), some (.int x1), some (.int y2), o3]) (st1 := [.int y2, .int x1, .ref 67, .int ((6 * x1) + y2), .ref 90]) (hp1 := (hz F A L)) rfl ?_
        refine w_c rfl rfl (t_km_pairOf ?_)
        show wl_E f _ _ mm218.2.2.2.2.2.2.2.2 50 [some (.ref 67), some (.int x1), some (.int y2), o3] [.int (km_pairOf (A 68) x1 y2), .int ((6 * x1) + y2), .ref 90] (hz F A L) _
        generalize hG299 : (km_pairOf (A 68) x1 y2) = G299 at hE ⊢
        refine w_n 1 (pc1 := 54) (ls1 := [some (.ref 67), some (.int x1), some (.int y2), o3]) (st1 := [.int G299, .int ((6 * x1) + y2), .ref 90]) (hp1 := (hz F A L)) rfl ?_
        refine w_as (k := 90) (l := (A 90)) (hp1 := (hz F (uA A 90 ((A 90).set ((6 * x1) + y2).toInt.toNat G299)) L)) rfl rfl rfl (hz_s90 _) (fun _ => ?_)
        refine w_n 2 (pc1 := 12) (ls1 := [some (.ref 67), some (.int x1), some (.int (y2 + 1)), o3]) (st1 := []) (hp1 := (hz F (uA A 90 ((A 90).set ((6 * x1) + y2).toInt.toNat G299)) L)) rfl ?_
        subst T
        have hb2 := i_up (B := (F 67 3)) hb
        have hb3 : y2.toInt < (F 67 3).toInt := hb
        exact ih (show m = ((F 67 3).toInt - (y2 + 1).toInt).toNat by rw [hb2]; omega) (fun q2 => cvE rfl (funext fun q => if k0 : q = 90 then by subst k0; exact Eq.trans (b := (km_laysWide_12 (A 68) x1 m (y2 + 1) ((A 90).set ((6 * x1) + y2).toInt.toNat G299))) rfl rfl else by unfold uA; simp only [nb1 k0, cond_false]) rfl (K q2))
def km_laysWide_2 (f67_3 : Int32) (a68 : List Int32)  : Nat → Int32 → List Int32 → List Int32
  | 0, _, a90 => a90
  | m + 1, y1, a90 => (km_laysWide_2 f67_3 a68 m (y1 + 1) (km_laysWide_12 a68 y1 f67_3.toInt.toNat 0 a90))
theorem t_km_laysWide_2 {f : Nat} {Q : Option Value → sm_H → Prop} : ∀ (m : Nat) {B D : Nat} {F : Nat → Nat → Int32} {A : Nat → List Int32} {L : Nat → List Int64} {y1 : Int32} {o2 : Option Value} {o3 : Option Value}, m = ((F 67 3).toInt - y1.toInt).toNat → (∀ q1 : Int32, ∀ q2 : Option Value, wl_E f B D mm218.2.2.2.2.2.2.2.2 67 [some (.ref 67), some (.int q1), q2, o3] [] (hz F (uA A 90 (km_laysWide_2 (F 67 3) (A 68) m y1 (A 90))) L) Q) → wl_E f B D mm218.2.2.2.2.2.2.2.2 2 [some (.ref 67), some (.int y1), o2, o3] [] (hz F A L) Q := by
  intro m
  induction m with
  | zero =>
    intro B D F A L y1 o2 o3 hm K
    generalize hT : (km_laysWide_2 (F 67 3) (A 68) 0 y1 (A 90)) = T at K
    have hE : T = (A 90) := hT.symm
    clear hT
    refine w_n 3 (pc1 := 7) (ls1 := [some (.ref 67), some (.int y1), o2, o3]) (st1 := [.int (F 67 3), .int y1]) (hp1 := (hz F A L)) rfl ?_
    refine w_ge (p3 := 10) rfl rfl (fun hb => ?_) (fun h => False.elim (by have h : y1.toInt < (F 67 3).toInt := h; omega))
    subst T
    exact cvE rfl (funext fun q => if k0 : q = 90 then by subst k0; exact Eq.trans (b := (A 90)) rfl rfl else by unfold uA; simp only [nb1 k0, cond_false]) rfl (K _ _)
  | succ m ih =>
    intro B D F A L y1 o2 o3 hm K
    generalize hT : (km_laysWide_2 (F 67 3) (A 68) (m + 1) y1 (A 90)) = T at K
    have hE : T = (km_laysWide_2 (F 67 3) (A 68) m (y1 + 1) (km_laysWide_12 (A 68) y1 (F 67 3).toInt.toNat 0 (A 90))) := hT.symm
    clear hT
    refine w_n 3 (pc1 := 7) (ls1 := [some (.ref 67), some (.int y1), o2, o3]) (st1 := [.int (F 67 3), .int y1]) (hp1 := (hz F A L)) rfl ?_
    refine w_ge (p3 := 10) rfl rfl (fun h => False.elim (by have h : (F 67 3).toInt ≤ y1.toInt := h; omega)) (fun hb => ?_)
    refine w_n 2 (pc1 := 12) (ls1 := [some (.ref 67), some (.int y1), some (.int 0), o3]) (st1 := []) (hp1 := (hz F A L)) rfl ?_
    refine t_km_laysWide_12 (F 67 3).toInt.toNat (show (F 67 3).toInt.toNat = ((F 67 3).toInt - (0 : Int32).toInt).toNat by have e0 : (0 : Int32).toInt = 0 := rfl; first | rfl | omega) ?_
    intro r1
    show wl_E f _ _ mm218.2.2.2.2.2.2.2.2 61 [some (.ref 67), some (.int y1), some (.int r1), o3] [] (hz F (uA A 90 (km_laysWide_12 (A 68) y1 (F 67 3).toInt.toNat 0 (A 90))) L) _
    generalize hG300 : (km_laysWide_12 (A 68) y1 (F 67 3).toInt.toNat 0 (A 90)) = G300 at hE ⊢
    refine w_n 2 (pc1 := 2) (ls1 := [some (.ref 67), some (.int (y1 + 1)), some (.int r1), o3]) (st1 := []) (hp1 := (hz F (uA A 90 G300) L)) rfl ?_
    subst T
    have hb2 := i_up (B := (F 67 3)) hb
    have hb3 : y1.toInt < (F 67 3).toInt := hb
    exact ih (show m = ((F 67 3).toInt - (y1 + 1).toInt).toNat by rw [hb2]; omega) (fun q1 q2 => cvE rfl (funext fun q => if k0 : q = 90 then by subst k0; exact Eq.trans (b := (km_laysWide_2 (F 67 3) (A 68) m (y1 + 1) G300)) rfl rfl else by unfold uA; simp only [nb1 k0, cond_false]) rfl (K q1 q2))
def km_min (x0 : Int32) (x1 : Int32) : Int32 := (if x0.toInt < x1.toInt then x0 else x1)
theorem t_km_min {f D : Nat} {F : Nat → Nat → Int32} {A : Nat → List Int32} {L : Nat → List Int64} {Q : Option Value → sm_H → Prop} {x0 : Int32} {x1 : Int32} (K : Q (some (.int (km_min x0 x1))) (hz F A L)) : wl_M f D 219 [.int x0, .int x1] (hz F A L) Q := by
  generalize hT : (km_min x0 x1) = T at K
  have hE : T = (if x0.toInt < x1.toInt then x0 else x1) := hT.symm
  clear hT
  refine w_m (E := mm219) rfl ?_
  show wl_E f f (D - 1) mm219.2.2.2.2.2.2.2.2 0 [some (.int x0), some (.int x1)] [] (hz F A L) Q
  refine w_n 2 (pc1 := 2) (ls1 := [some (.int x0), some (.int x1)]) (st1 := [.int x1, .int x0]) (hp1 := (hz F A L)) rfl ?_
  refine w_ge (p3 := 5) rfl rfl (fun h => ?_) (fun h => ?_)
  · have h1 : x1.toInt ≤ x0.toInt := h
    rw [if_neg (Int.not_lt.mpr h1)] at hE
    refine w_n 1 (pc1 := 10) (ls1 := [some (.int x0), some (.int x1)]) (st1 := [.int x1]) (hp1 := (hz F A L)) rfl ?_
    subst T
    exact w_ri rfl (cvQ rfl rfl rfl K)
  · have h1 : x0.toInt < x1.toInt := h
    rw [if_pos h1] at hE
    refine w_n 2 (pc1 := 10) (ls1 := [some (.int x0), some (.int x1)]) (st1 := [.int x0]) (hp1 := (hz F A L)) rfl ?_
    subst T
    exact w_ri rfl (cvQ rfl rfl rfl K)
def km_max (x0 : Int32) (x1 : Int32) : Int32 := (if x1.toInt < x0.toInt then x0 else x1)
theorem t_km_max {f D : Nat} {F : Nat → Nat → Int32} {A : Nat → List Int32} {L : Nat → List Int64} {Q : Option Value → sm_H → Prop} {x0 : Int32} {x1 : Int32} (K : Q (some (.int (km_max x0 x1))) (hz F A L)) : wl_M f D 187 [.int x0, .int x1] (hz F A L) Q := by
  generalize hT : (km_max x0 x1) = T at K
  have hE : T = (if x1.toInt < x0.toInt then x0 else x1) := hT.symm
  clear hT
  refine w_m (E := mm187) rfl ?_
  show wl_E f f (D - 1) mm187.2.2.2.2.2.2.2.2 0 [some (.int x0), some (.int x1)] [] (hz F A L) Q
  refine w_n 2 (pc1 := 2) (ls1 := [some (.int x0), some (.int x1)]) (st1 := [.int x1, .int x0]) (hp1 := (hz F A L)) rfl ?_
  refine w_le (p3 := 5) rfl rfl (fun h => ?_) (fun h => ?_)
  · have h1 : x0.toInt ≤ x1.toInt := h
    rw [if_neg (Int.not_lt.mpr h1)] at hE
    refine w_n 1 (pc1 := 10) (ls1 := [some (.int x0), some (.int x1)]) (st1 := [.int x1]) (hp1 := (hz F A L)) rfl ?_
    subst T
    exact w_ri rfl (cvQ rfl rfl rfl K)
  · have h1 : x1.toInt < x0.toInt := h
    rw [if_pos h1] at hE
    refine w_n 2 (pc1 := 10) (ls1 := [some (.int x0), some (.int x1)]) (st1 := [.int x0]) (hp1 := (hz F A L)) rfl ?_
    subst T
    exact w_ri rfl (cvQ rfl rfl rfl K)
def km_laysWide_89  (x1 : Int32) (x2 : Int32) : Nat → Int32 → List Int32 → List Int32
  | 0, _, a90 => a90
  | m + 1, y3, a90 => (km_laysWide_89 x1 x2 m (y3 + 1) (a90.set ((6 * x2) + y3).toInt.toNat (km_max (a90.getD ((6 * x2) + y3).toInt.toNat 0) (km_min (a90.getD ((6 * x2) + x1).toInt.toNat 0) (a90.getD ((6 * x1) + y3).toInt.toNat 0)))))
theorem t_km_laysWide_89 {f : Nat} {Q : Option Value → sm_H → Prop} : ∀ (m : Nat) {B D : Nat} {F : Nat → Nat → Int32} {A : Nat → List Int32} {L : Nat → List Int64} {x1 : Int32} {x2 : Int32} {y3 : Int32}, m = ((F 67 3).toInt - y3.toInt).toNat → (∀ q3 : Int32, wl_E f B D mm218.2.2.2.2.2.2.2.2 153 [some (.ref 67), some (.int x1), some (.int x2), some (.int q3)] [] (hz F (uA A 90 (km_laysWide_89 x1 x2 m y3 (A 90))) L) Q) → wl_E f B D mm218.2.2.2.2.2.2.2.2 89 [some (.ref 67), some (.int x1), some (.int x2), some (.int y3)] [] (hz F A L) Q := by
  intro m
  induction m with
  | zero =>
    intro B D F A L x1 x2 y3 hm K
    generalize hT : (km_laysWide_89 x1 x2 0 y3 (A 90)) = T at K
    have hE : T = (A 90) := hT.symm
    clear hT
    refine w_n 3 (pc1 := 94) (ls1 := [some (.ref 67), some (.int x1), some (.int x2), some (.int y3)]) (st1 := [.int (F 67 3), .int y3]) (hp1 := (hz F A L)) rfl ?_
    refine w_ge (p3 := 97) rfl rfl (fun hb => ?_) (fun h => False.elim (by have h : y3.toInt < (F 67 3).toInt := h; omega))
    subst T
    exact cvE rfl (funext fun q => if k0 : q = 90 then by subst k0; exact Eq.trans (b := (A 90)) rfl rfl else by unfold uA; simp only [nb1 k0, cond_false]) rfl (K _)
  | succ m ih =>
    intro B D F A L x1 x2 y3 hm K
    generalize hT : (km_laysWide_89 x1 x2 (m + 1) y3 (A 90)) = T at K
    have hE : T = (km_laysWide_89 x1 x2 m (y3 + 1) ((A 90).set ((6 * x2) + y3).toInt.toNat (km_max ((A 90).getD ((6 * x2) + y3).toInt.toNat 0) (km_min ((A 90).getD ((6 * x2) + x1).toInt.toNat 0) ((A 90).getD ((6 * x1) + y3).toInt.toNat 0))))) := hT.symm
    clear hT
    refine w_n 3 (pc1 := 94) (ls1 := [some (.ref 67), some (.int x1), some (.int x2), some (.int y3)]) (st1 := [.int (F 67 3), .int y3]) (hp1 := (hz F A L)) rfl ?_
    refine w_ge (p3 := 97) rfl rfl (fun h => False.elim (by have h : (F 67 3).toInt ≤ y3.toInt := h; omega)) (fun hb => ?_)
    refine w_n 14 (pc1 := 117) (ls1 := [some (.ref 67), some (.int x1), some (.int x2), some (.int y3)]) (st1 := [.int ((6 * x2) + y3), .ref 90, .int ((6 * x2) + y3), .ref 90]) (hp1 := (hz F A L)) rfl ?_
    refine w_al (k := 90) (l := (A 90)) rfl rfl rfl (fun _ => ?_)
    refine w_n 7 (pc1 := 128) (ls1 := [some (.ref 67), some (.int x1), some (.int x2), some (.int y3)]) (st1 := [.int ((6 * x2) + x1), .ref 90, .int ((A 90).getD ((6 * x2) + y3).toInt.toNat 0), .int ((6 * x2) + y3), .ref 90]) (hp1 := (hz F A L)) rfl ?_
    refine w_al (k := 90) (l := (A 90)) rfl rfl rfl (fun _ => ?_)
    refine w_n 7 (pc1 := 139) (ls1 := [some (.ref 67), some (.int x1), some (.int x2), some (.int y3)]) (st1 := [.int ((6 * x1) + y3), .ref 90, .int ((A 90).getD ((6 * x2) + x1).toInt.toNat 0), .int ((A 90).getD ((6 * x2) + y3).toInt.toNat 0), .int ((6 * x2) + y3), .ref 90]) (hp1 := (hz F A L)) rfl ?_
    refine w_al (k := 90) (l := (A 90)) rfl rfl rfl (fun _ => ?_)
    refine w_c rfl rfl (t_km_min ?_)
    show wl_E f _ _ mm218.2.2.2.2.2.2.2.2 143 [some (.ref 67), some (.int x1), some (.int x2), some (.int y3)] [.int (km_min ((A 90).getD ((6 * x2) + x1).toInt.toNat 0) ((A 90).getD ((6 * x1) + y3).toInt.toNat 0)), .int ((A 90).getD ((6 * x2) + y3).toInt.toNat 0), .int ((6 * x2) + y3), .ref 90] (hz F A L) _
    generalize hG302 : (km_min ((A 90).getD ((6 * x2) + x1).toInt.toNat 0) ((A 90).getD ((6 * x1) + y3).toInt.toNat 0)) = G302 at hE ⊢
    refine w_c rfl rfl (t_km_max ?_)
    show wl_E f _ _ mm218.2.2.2.2.2.2.2.2 146 [some (.ref 67), some (.int x1), some (.int x2), some (.int y3)] [.int (km_max ((A 90).getD ((6 * x2) + y3).toInt.toNat 0) G302), .int ((6 * x2) + y3), .ref 90] (hz F A L) _
    generalize hG303 : (km_max ((A 90).getD ((6 * x2) + y3).toInt.toNat 0) G302) = G303 at hE ⊢
    refine w_as (k := 90) (l := (A 90)) (hp1 := (hz F (uA A 90 ((A 90).set ((6 * x2) + y3).toInt.toNat G303)) L)) rfl rfl rfl (hz_s90 _) (fun _ => ?_)
    refine w_n 2 (pc1 := 89) (ls1 := [some (.ref 67), some (.int x1), some (.int x2), some (.int (y3 + 1))]) (st1 := []) (hp1 := (hz F (uA A 90 ((A 90).set ((6 * x2) + y3).toInt.toNat G303)) L)) rfl ?_
    subst T
    have hb2 := i_up (B := (F 67 3)) hb
    have hb3 : y3.toInt < (F 67 3).toInt := hb
    exact ih (show m = ((F 67 3).toInt - (y3 + 1).toInt).toNat by rw [hb2]; omega) (fun q3 => cvE rfl (funext fun q => if k0 : q = 90 then by subst k0; exact Eq.trans (b := (km_laysWide_89 x1 x2 m (y3 + 1) ((A 90).set ((6 * x2) + y3).toInt.toNat G303))) rfl rfl else by unfold uA; simp only [nb1 k0, cond_false]) rfl (K q3))
