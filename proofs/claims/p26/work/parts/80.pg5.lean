/-! codes at work, piece by piece -/
theorem g_ct0 {d : Nat} {F : Nat → Nat → Int32} {A : Nat → List Int32} {L : Nat → List Int64} {Q : Option Value → sm_H → Prop} {x y : Int32} (K : (wp_E (d + 1) mm181.2.2.2.2.2.2.2.2 16 [some (.ref 67), some (.int x), some (.int y), some (.int 0), some (.int (260 * (x / 260))), some (.int x), none, none] [] (hz F A L) Q)) : wp_E (d + 1) mm181.2.2.2.2.2.2.2.2 0 [some (.ref 67), some (.int x), some (.int y), none, none, none, none, none] [] (hz F A L) Q := by
  refine q_n 5 (pc1 := 9) (ls1 := [some (.ref 67), some (.int x), some (.int y), some (.int 0), none, none, none, none]) (st1 := [.int 260, .int x, .int 260]) (hp1 := (hz F A L)) rfl ?_
  refine q_dv (p1 := 10) rfl rfl (by decide) ?_
  refine q_n 4 (pc1 := 16) (ls1 := [some (.ref 67), some (.int x), some (.int y), some (.int 0), some (.int (260 * (x / 260))), some (.int x), none, none]) (st1 := []) (hp1 := (hz F A L)) rfl ?_
  exact K
theorem g_ct1 {d : Nat} {F : Nat → Nat → Int32} {A : Nat → List Int32} {L : Nat → List Int64} {Q : Option Value → sm_H → Prop} {x y n z k : Int32} {u v : Option Value} (K : ((y.toInt ≤ k.toInt → ((0 ≤ (0 : Int32).toInt ∧ (0 : Int32).toInt < ((A 83).length : Int)) ∧ (Q (some (.int ((A 83).getD (0 : Int32).toInt.toNat 0))) (hz F A L)))) ∧ (k.toInt < y.toInt → ((0 ≤ k.toInt ∧ k.toInt < ((A 78).length : Int)) ∧ ((0 ≤ k.toInt ∧ k.toInt < ((A 78).length : Int)) ∧ (wp_E (d + 1) mm181.2.2.2.2.2.2.2.2 52 [some (.ref 67), some (.int x), some (.int y), some (.int n), some (.int z), some (.int (k + 1)), some (.int (((A 78).getD k.toInt.toNat 0) / 1048576)), some (.int (((A 78).getD k.toInt.toNat 0) - ((A 78).getD k.toInt.toNat 0) / 1048576 * 1048576))] [] (hz F A L) Q)))))) : wp_E (d + 1) mm181.2.2.2.2.2.2.2.2 16 [some (.ref 67), some (.int x), some (.int y), some (.int n), some (.int z), some (.int k), u, v] [] (hz F A L) Q := by
  refine q_n 2 (pc1 := 19) (ls1 := [some (.ref 67), some (.int x), some (.int y), some (.int n), some (.int z), some (.int k), u, v]) (st1 := [.int y, .int k]) (hp1 := (hz F A L)) rfl ?_
  refine q_ge (p3 := 22) rfl rfl (fun h => ?_) (fun h => ?_)
  · have K := K.1 h
    refine q_n 3 (pc1 := 238) (ls1 := [some (.ref 67), some (.int x), some (.int y), some (.int n), some (.int z), some (.int k), u, v]) (st1 := [.int 0, .ref 83]) (hp1 := (hz F A L)) rfl ?_
    refine q_al (k := 83) (l := (A 83)) (p1 := 239) rfl rfl rfl K.1 ?_
    have K := K.2
    exact q_ri rfl K
  · have K := K.2 h
    refine q_n 3 (pc1 := 28) (ls1 := [some (.ref 67), some (.int x), some (.int y), some (.int n), some (.int z), some (.int k), u, v]) (st1 := [.int k, .ref 78]) (hp1 := (hz F A L)) rfl ?_
    refine q_al (k := 78) (l := (A 78)) (p1 := 29) rfl rfl rfl K.1 ?_
    have K := K.2
    refine q_n 1 (pc1 := 31) (ls1 := [some (.ref 67), some (.int x), some (.int y), some (.int n), some (.int z), some (.int k), u, v]) (st1 := [.int 1048576, .int ((A 78).getD k.toInt.toNat 0)]) (hp1 := (hz F A L)) rfl ?_
    refine q_dv (p1 := 32) rfl rfl (by decide) ?_
    refine q_n 4 (pc1 := 40) (ls1 := [some (.ref 67), some (.int x), some (.int y), some (.int n), some (.int z), some (.int k), some (.int (((A 78).getD k.toInt.toNat 0) / 1048576)), v]) (st1 := [.int k, .ref 78]) (hp1 := (hz F A L)) rfl ?_
    refine q_al (k := 78) (l := (A 78)) (p1 := 41) rfl rfl rfl K.1 ?_
    have K := K.2
    refine q_n 1 (pc1 := 43) (ls1 := [some (.ref 67), some (.int x), some (.int y), some (.int n), some (.int z), some (.int k), some (.int (((A 78).getD k.toInt.toNat 0) / 1048576)), v]) (st1 := [.int 1048576, .int ((A 78).getD k.toInt.toNat 0)]) (hp1 := (hz F A L)) rfl ?_
    refine q_rm (p1 := 44) rfl rfl (by decide) ?_
    refine q_n 5 (pc1 := 52) (ls1 := [some (.ref 67), some (.int x), some (.int y), some (.int n), some (.int z), some (.int (k + 1)), some (.int (((A 78).getD k.toInt.toNat 0) / 1048576)), some (.int (((A 78).getD k.toInt.toNat 0) - ((A 78).getD k.toInt.toNat 0) / 1048576 * 1048576))]) (st1 := []) (hp1 := (hz F A L)) rfl ?_
    exact K
theorem g_ct3 {d : Nat} {F : Nat → Nat → Int32} {A : Nat → List Int32} {L : Nat → List Int64} {Q : Option Value → sm_H → Prop} {x y n z k o v : Int32} (K : ((o = 0 → ((¬ o = 0 → ((0 ≤ v.toInt ∧ v.toInt < ((A 84).length : Int)) ∧ ((0 ≤ n.toInt ∧ n.toInt < ((A 83).length : Int)) ∧ (wp_E (d + 1) mm181.2.2.2.2.2.2.2.2 16 [some (.ref 67), some (.int x), some (.int y), some (.int (n + 1)), some (.int z), some (.int k), some (.int o), some (.int v)] [] (hz F (uA A 83 ((A 83).set n.toInt.toNat ((A 84).getD v.toInt.toNat 0))) L) Q)))) ∧ (o = 0 → ((0 ≤ n.toInt ∧ n.toInt < ((A 83).length : Int)) ∧ (wp_E (d + 1) mm181.2.2.2.2.2.2.2.2 16 [some (.ref 67), some (.int x), some (.int y), some (.int (n + 1)), some (.int z), some (.int k), some (.int o), some (.int v)] [] (hz F (uA A 83 ((A 83).set n.toInt.toNat v)) L) Q))))) ∧ (¬ o = 0 → ((¬ o = 1 → ((¬ o = 10 → ((o = 11 → ((0 ≤ (n - 1).toInt ∧ (n - 1).toInt < ((A 83).length : Int)) ∧ ((¬ o = 12 → ((¬ ((A 83).getD (n - 1).toInt.toNat 0) = 0 → (wp_E (d + 1) mm181.2.2.2.2.2.2.2.2 16 [some (.ref 67), some (.int x), some (.int y), some (.int (n - 1)), some (.int z), some (.int k), some (.int o), some (.int v)] [] (hz F A L) Q)) ∧ (((A 83).getD (n - 1).toInt.toNat 0) = 0 → (wp_E (d + 1) mm181.2.2.2.2.2.2.2.2 16 [some (.ref 67), some (.int x), some (.int y), some (.int n), some (.int z), some (.int (z + v)), some (.int o), some (.int v)] [] (hz F A L) Q)))) ∧ (o = 12 → ((¬ ((A 83).getD (n - 1).toInt.toNat 0) = 1 → (wp_E (d + 1) mm181.2.2.2.2.2.2.2.2 16 [some (.ref 67), some (.int x), some (.int y), some (.int (n - 1)), some (.int z), some (.int k), some (.int o), some (.int v)] [] (hz F A L) Q)) ∧ (((A 83).getD (n - 1).toInt.toNat 0) = 1 → (wp_E (d + 1) mm181.2.2.2.2.2.2.2.2 16 [some (.ref 67), some (.int x), some (.int y), some (.int n), some (.int z), some (.int (z + v)), some (.int o), some (.int v)] [] (hz F A L) Q))))))) ∧ (¬ o = 11 → ((¬ o = 12 → ((o = 5 → ((0 ≤ (n - 1).toInt ∧ (n - 1).toInt < ((A 83).length : Int)) ∧ ((¬ ((A 83).getD (n - 1).toInt.toNat 0) = 0 → ((0 ≤ ((n - 1) - 1).toInt ∧ ((n - 1) - 1).toInt < ((A 83).length : Int)) ∧ ((0 ≤ (n - 1).toInt ∧ (n - 1).toInt < ((A 83).length : Int)) ∧ (wp_M (d + 1) 182 [.int o, .int ((A 83).getD ((n - 1) - 1).toInt.toNat 0), .int ((A 83).getD (n - 1).toInt.toNat 0)] (hz F A L) (fun w hp1 => wp_E (d + 1) mm181.2.2.2.2.2.2.2.2 229 [some (.ref 67), some (.int x), some (.int y), some (.int (n - 1)), some (.int z), some (.int k), some (.int o), some (.int v)] (w.toList ++ [.int ((n - 1) - 1), .ref 83]) hp1 Q))))) ∧ (((A 83).getD (n - 1).toInt.toNat 0) = 0 → (Q (some (.int 0)) (hz F A L)))))) ∧ (¬ o = 5 → ((¬ o = 6 → ((0 ≤ ((n - 1) - 1).toInt ∧ ((n - 1) - 1).toInt < ((A 83).length : Int)) ∧ ((0 ≤ (n - 1).toInt ∧ (n - 1).toInt < ((A 83).length : Int)) ∧ (wp_M (d + 1) 182 [.int o, .int ((A 83).getD ((n - 1) - 1).toInt.toNat 0), .int ((A 83).getD (n - 1).toInt.toNat 0)] (hz F A L) (fun w hp1 => wp_E (d + 1) mm181.2.2.2.2.2.2.2.2 229 [some (.ref 67), some (.int x), some (.int y), some (.int (n - 1)), some (.int z), some (.int k), some (.int o), some (.int v)] (w.toList ++ [.int ((n - 1) - 1), .ref 83]) hp1 Q))))) ∧ (o = 6 → ((0 ≤ (n - 1).toInt ∧ (n - 1).toInt < ((A 83).length : Int)) ∧ ((¬ ((A 83).getD (n - 1).toInt.toNat 0) = 0 → ((0 ≤ ((n - 1) - 1).toInt ∧ ((n - 1) - 1).toInt < ((A 83).length : Int)) ∧ ((0 ≤ (n - 1).toInt ∧ (n - 1).toInt < ((A 83).length : Int)) ∧ (wp_M (d + 1) 182 [.int o, .int ((A 83).getD ((n - 1) - 1).toInt.toNat 0), .int ((A 83).getD (n - 1).toInt.toNat 0)] (hz F A L) (fun w hp1 => wp_E (d + 1) mm181.2.2.2.2.2.2.2.2 229 [some (.ref 67), some (.int x), some (.int y), some (.int (n - 1)), some (.int z), some (.int k), some (.int o), some (.int v)] (w.toList ++ [.int ((n - 1) - 1), .ref 83]) hp1 Q))))) ∧ (((A 83).getD (n - 1).toInt.toNat 0) = 0 → (Q (some (.int 0)) (hz F A L)))))))))) ∧ (o = 12 → ((0 ≤ (n - 1).toInt ∧ (n - 1).toInt < ((A 83).length : Int)) ∧ ((¬ o = 12 → ((¬ ((A 83).getD (n - 1).toInt.toNat 0) = 0 → (wp_E (d + 1) mm181.2.2.2.2.2.2.2.2 16 [some (.ref 67), some (.int x), some (.int y), some (.int (n - 1)), some (.int z), some (.int k), some (.int o), some (.int v)] [] (hz F A L) Q)) ∧ (((A 83).getD (n - 1).toInt.toNat 0) = 0 → (wp_E (d + 1) mm181.2.2.2.2.2.2.2.2 16 [some (.ref 67), some (.int x), some (.int y), some (.int n), some (.int z), some (.int (z + v)), some (.int o), some (.int v)] [] (hz F A L) Q)))) ∧ (o = 12 → ((¬ ((A 83).getD (n - 1).toInt.toNat 0) = 1 → (wp_E (d + 1) mm181.2.2.2.2.2.2.2.2 16 [some (.ref 67), some (.int x), some (.int y), some (.int (n - 1)), some (.int z), some (.int k), some (.int o), some (.int v)] [] (hz F A L) Q)) ∧ (((A 83).getD (n - 1).toInt.toNat 0) = 1 → (wp_E (d + 1) mm181.2.2.2.2.2.2.2.2 16 [some (.ref 67), some (.int x), some (.int y), some (.int n), some (.int z), some (.int (z + v)), some (.int o), some (.int v)] [] (hz F A L) Q))))))))))) ∧ (o = 10 → ((0 ≤ (n - 1).toInt ∧ (n - 1).toInt < ((A 83).length : Int)) ∧ ((0 ≤ (n - 1).toInt ∧ (n - 1).toInt < ((A 83).length : Int)) ∧ (wp_E (d + 1) mm181.2.2.2.2.2.2.2.2 16 [some (.ref 67), some (.int x), some (.int y), some (.int n), some (.int z), some (.int k), some (.int o), some (.int v)] [] (hz F (uA A 83 ((A 83).set (n - 1).toInt.toNat (1 - ((A 83).getD (n - 1).toInt.toNat 0)))) L) Q)))))) ∧ (o = 1 → ((¬ o = 0 → ((0 ≤ v.toInt ∧ v.toInt < ((A 84).length : Int)) ∧ ((0 ≤ n.toInt ∧ n.toInt < ((A 83).length : Int)) ∧ (wp_E (d + 1) mm181.2.2.2.2.2.2.2.2 16 [some (.ref 67), some (.int x), some (.int y), some (.int (n + 1)), some (.int z), some (.int k), some (.int o), some (.int v)] [] (hz F (uA A 83 ((A 83).set n.toInt.toNat ((A 84).getD v.toInt.toNat 0))) L) Q)))) ∧ (o = 0 → ((0 ≤ n.toInt ∧ n.toInt < ((A 83).length : Int)) ∧ (wp_E (d + 1) mm181.2.2.2.2.2.2.2.2 16 [some (.ref 67), some (.int x), some (.int y), some (.int (n + 1)), some (.int z), some (.int k), some (.int o), some (.int v)] [] (hz F (uA A 83 ((A 83).set n.toInt.toNat v)) L) Q))))))))) : wp_E (d + 1) mm181.2.2.2.2.2.2.2.2 52 [some (.ref 67), some (.int x), some (.int y), some (.int n), some (.int z), some (.int k), some (.int o), some (.int v)] [] (hz F A L) Q := by
  refine q_n 1 (pc1 := 54) (ls1 := [some (.ref 67), some (.int x), some (.int y), some (.int n), some (.int z), some (.int k), some (.int o), some (.int v)]) (st1 := [.int o]) (hp1 := (hz F A L)) rfl ?_
  refine q_zeq (p3 := 57) rfl rfl (fun h => ?_) (fun h => ?_)
  · have K := K.1 h
    refine q_n 4 (pc1 := 70) (ls1 := [some (.ref 67), some (.int x), some (.int y), some (.int n), some (.int z), some (.int k), some (.int o), some (.int v)]) (st1 := [.int o, .int n, .ref 83]) (hp1 := (hz F A L)) rfl ?_
    refine q_zne (p3 := 73) rfl rfl (fun h => ?_) (fun h => ?_)
    · have K := K.1 h
      refine q_n 3 (pc1 := 84) (ls1 := [some (.ref 67), some (.int x), some (.int y), some (.int n), some (.int z), some (.int k), some (.int o), some (.int v)]) (st1 := [.int v, .ref 84, .int n, .ref 83]) (hp1 := (hz F A L)) rfl ?_
      refine q_al (k := 84) (l := (A 84)) (p1 := 85) rfl rfl rfl K.1 ?_
      have K := K.2
      refine q_as (k := 83) (l := (A 83)) (p1 := 86) rfl rfl rfl K.1 (hz_s83 _) ?_
      have K := K.2
      refine q_n 6 (pc1 := 16) (ls1 := [some (.ref 67), some (.int x), some (.int y), some (.int (n + 1)), some (.int z), some (.int k), some (.int o), some (.int v)]) (st1 := []) (hp1 := (hz F (uA A 83 ((A 83).set n.toInt.toNat ((A 84).getD v.toInt.toNat 0))) L)) rfl ?_
      exact K
    · have K := K.2 h
      refine q_n 2 (pc1 := 85) (ls1 := [some (.ref 67), some (.int x), some (.int y), some (.int n), some (.int z), some (.int k), some (.int o), some (.int v)]) (st1 := [.int v, .int n, .ref 83]) (hp1 := (hz F A L)) rfl ?_
      refine q_as (k := 83) (l := (A 83)) (p1 := 86) rfl rfl rfl K.1 (hz_s83 _) ?_
      have K := K.2
      refine q_n 6 (pc1 := 16) (ls1 := [some (.ref 67), some (.int x), some (.int y), some (.int (n + 1)), some (.int z), some (.int k), some (.int o), some (.int v)]) (st1 := []) (hp1 := (hz F (uA A 83 ((A 83).set n.toInt.toNat v)) L)) rfl ?_
      exact K
  · have K := K.2 h
    refine q_n 2 (pc1 := 60) (ls1 := [some (.ref 67), some (.int x), some (.int y), some (.int n), some (.int z), some (.int k), some (.int o), some (.int v)]) (st1 := [.int 1, .int o]) (hp1 := (hz F A L)) rfl ?_
    refine q_ne (p3 := 63) rfl rfl (fun h => ?_) (fun h => ?_)
    · have K := K.1 h
      refine q_n 2 (pc1 := 97) (ls1 := [some (.ref 67), some (.int x), some (.int y), some (.int n), some (.int z), some (.int k), some (.int o), some (.int v)]) (st1 := [.int 10, .int o]) (hp1 := (hz F A L)) rfl ?_
      refine q_ne (p3 := 100) rfl rfl (fun h => ?_) (fun h => ?_)
      · have K := K.1 h
        refine q_n 2 (pc1 := 125) (ls1 := [some (.ref 67), some (.int x), some (.int y), some (.int n), some (.int z), some (.int k), some (.int o), some (.int v)]) (st1 := [.int 11, .int o]) (hp1 := (hz F A L)) rfl ?_
        refine q_eq (p3 := 128) rfl rfl (fun h => ?_) (fun h => ?_)
        · have K := K.1 h
          refine q_n 5 (pc1 := 142) (ls1 := [some (.ref 67), some (.int x), some (.int y), some (.int n), some (.int z), some (.int k), some (.int o), some (.int v)]) (st1 := [.int (n - 1), .ref 83]) (hp1 := (hz F A L)) rfl ?_
          refine q_al (k := 83) (l := (A 83)) (p1 := 143) rfl rfl rfl K.1 ?_
          have K := K.2
          refine q_n 2 (pc1 := 147) (ls1 := [some (.ref 67), some (.int x), some (.int y), some (.int n), some (.int z), some (.int k), some (.int o), some (.int v)]) (st1 := [.int 12, .int o, .int ((A 83).getD (n - 1).toInt.toNat 0)]) (hp1 := (hz F A L)) rfl ?_
          refine q_ne (p3 := 150) rfl rfl (fun h => ?_) (fun h => ?_)
          · have K := K.1 h
            refine q_n 1 (pc1 := 155) (ls1 := [some (.ref 67), some (.int x), some (.int y), some (.int n), some (.int z), some (.int k), some (.int o), some (.int v)]) (st1 := [.int 0, .int ((A 83).getD (n - 1).toInt.toNat 0)]) (hp1 := (hz F A L)) rfl ?_
            refine q_ne (p3 := 158) rfl rfl (fun h => ?_) (fun h => ?_)
            · have K := K.1 h
              refine q_n 6 (pc1 := 16) (ls1 := [some (.ref 67), some (.int x), some (.int y), some (.int (n - 1)), some (.int z), some (.int k), some (.int o), some (.int v)]) (st1 := []) (hp1 := (hz F A L)) rfl ?_
              exact K
            · have K := K.2 h
              refine q_n 6 (pc1 := 16) (ls1 := [some (.ref 67), some (.int x), some (.int y), some (.int n), some (.int z), some (.int (z + v)), some (.int o), some (.int v)]) (st1 := []) (hp1 := (hz F A L)) rfl ?_
              exact K
          · have K := K.2 h
            refine q_n 2 (pc1 := 155) (ls1 := [some (.ref 67), some (.int x), some (.int y), some (.int n), some (.int z), some (.int k), some (.int o), some (.int v)]) (st1 := [.int 1, .int ((A 83).getD (n - 1).toInt.toNat 0)]) (hp1 := (hz F A L)) rfl ?_
            refine q_ne (p3 := 158) rfl rfl (fun h => ?_) (fun h => ?_)
            · have K := K.1 h
              refine q_n 6 (pc1 := 16) (ls1 := [some (.ref 67), some (.int x), some (.int y), some (.int (n - 1)), some (.int z), some (.int k), some (.int o), some (.int v)]) (st1 := []) (hp1 := (hz F A L)) rfl ?_
              exact K
            · have K := K.2 h
              refine q_n 6 (pc1 := 16) (ls1 := [some (.ref 67), some (.int x), some (.int y), some (.int n), some (.int z), some (.int (z + v)), some (.int o), some (.int v)]) (st1 := []) (hp1 := (hz F A L)) rfl ?_
              exact K
        · have K := K.2 h
          refine q_n 2 (pc1 := 132) (ls1 := [some (.ref 67), some (.int x), some (.int y), some (.int n), some (.int z), some (.int k), some (.int o), some (.int v)]) (st1 := [.int 12, .int o]) (hp1 := (hz F A L)) rfl ?_
          refine q_ne (p3 := 135) rfl rfl (fun h => ?_) (fun h => ?_)
          · have K := K.1 h
            refine q_n 6 (pc1 := 182) (ls1 := [some (.ref 67), some (.int x), some (.int y), some (.int (n - 1)), some (.int z), some (.int k), some (.int o), some (.int v)]) (st1 := [.int 5, .int o]) (hp1 := (hz F A L)) rfl ?_
            refine q_eq (p3 := 185) rfl rfl (fun h => ?_) (fun h => ?_)
            · have K := K.1 h
              refine q_n 3 (pc1 := 197) (ls1 := [some (.ref 67), some (.int x), some (.int y), some (.int (n - 1)), some (.int z), some (.int k), some (.int o), some (.int v)]) (st1 := [.int (n - 1), .ref 83]) (hp1 := (hz F A L)) rfl ?_
              refine q_al (k := 83) (l := (A 83)) (p1 := 198) rfl rfl rfl K.1 ?_
              have K := K.2
              refine q_zne (p3 := 201) rfl rfl (fun h => ?_) (fun h => ?_)
              · have K := K.1 h
                refine q_n 11 (pc1 := 219) (ls1 := [some (.ref 67), some (.int x), some (.int y), some (.int (n - 1)), some (.int z), some (.int k), some (.int o), some (.int v)]) (st1 := [.int ((n - 1) - 1), .ref 83, .int o, .int ((n - 1) - 1), .ref 83]) (hp1 := (hz F A L)) rfl ?_
                refine q_al (k := 83) (l := (A 83)) (p1 := 220) rfl rfl rfl K.1 ?_
                have K := K.2
                refine q_n 3 (pc1 := 225) (ls1 := [some (.ref 67), some (.int x), some (.int y), some (.int (n - 1)), some (.int z), some (.int k), some (.int o), some (.int v)]) (st1 := [.int (n - 1), .ref 83, .int ((A 83).getD ((n - 1) - 1).toInt.toNat 0), .int o, .int ((n - 1) - 1), .ref 83]) (hp1 := (hz F A L)) rfl ?_
                refine q_al (k := 83) (l := (A 83)) (p1 := 226) rfl rfl rfl K.1 ?_
                have K := K.2
                exact q_c rfl rfl K
              · have K := K.2 h
                refine q_n 1 (pc1 := 202) (ls1 := [some (.ref 67), some (.int x), some (.int y), some (.int (n - 1)), some (.int z), some (.int k), some (.int o), some (.int v)]) (st1 := [.int 0]) (hp1 := (hz F A L)) rfl ?_
                exact q_ri rfl K
            · have K := K.2 h
              refine q_n 2 (pc1 := 189) (ls1 := [some (.ref 67), some (.int x), some (.int y), some (.int (n - 1)), some (.int z), some (.int k), some (.int o), some (.int v)]) (st1 := [.int 6, .int o]) (hp1 := (hz F A L)) rfl ?_
              refine q_ne (p3 := 192) rfl rfl (fun h => ?_) (fun h => ?_)
              · have K := K.1 h
                refine q_n 11 (pc1 := 219) (ls1 := [some (.ref 67), some (.int x), some (.int y), some (.int (n - 1)), some (.int z), some (.int k), some (.int o), some (.int v)]) (st1 := [.int ((n - 1) - 1), .ref 83, .int o, .int ((n - 1) - 1), .ref 83]) (hp1 := (hz F A L)) rfl ?_
                refine q_al (k := 83) (l := (A 83)) (p1 := 220) rfl rfl rfl K.1 ?_
                have K := K.2
                refine q_n 3 (pc1 := 225) (ls1 := [some (.ref 67), some (.int x), some (.int y), some (.int (n - 1)), some (.int z), some (.int k), some (.int o), some (.int v)]) (st1 := [.int (n - 1), .ref 83, .int ((A 83).getD ((n - 1) - 1).toInt.toNat 0), .int o, .int ((n - 1) - 1), .ref 83]) (hp1 := (hz F A L)) rfl ?_
                refine q_al (k := 83) (l := (A 83)) (p1 := 226) rfl rfl rfl K.1 ?_
                have K := K.2
                exact q_c rfl rfl K
              · have K := K.2 h
                refine q_n 3 (pc1 := 197) (ls1 := [some (.ref 67), some (.int x), some (.int y), some (.int (n - 1)), some (.int z), some (.int k), some (.int o), some (.int v)]) (st1 := [.int (n - 1), .ref 83]) (hp1 := (hz F A L)) rfl ?_
                refine q_al (k := 83) (l := (A 83)) (p1 := 198) rfl rfl rfl K.1 ?_
                have K := K.2
                refine q_zne (p3 := 201) rfl rfl (fun h => ?_) (fun h => ?_)
                · have K := K.1 h
                  refine q_n 11 (pc1 := 219) (ls1 := [some (.ref 67), some (.int x), some (.int y), some (.int (n - 1)), some (.int z), some (.int k), some (.int o), some (.int v)]) (st1 := [.int ((n - 1) - 1), .ref 83, .int o, .int ((n - 1) - 1), .ref 83]) (hp1 := (hz F A L)) rfl ?_
                  refine q_al (k := 83) (l := (A 83)) (p1 := 220) rfl rfl rfl K.1 ?_
                  have K := K.2
                  refine q_n 3 (pc1 := 225) (ls1 := [some (.ref 67), some (.int x), some (.int y), some (.int (n - 1)), some (.int z), some (.int k), some (.int o), some (.int v)]) (st1 := [.int (n - 1), .ref 83, .int ((A 83).getD ((n - 1) - 1).toInt.toNat 0), .int o, .int ((n - 1) - 1), .ref 83]) (hp1 := (hz F A L)) rfl ?_
                  refine q_al (k := 83) (l := (A 83)) (p1 := 226) rfl rfl rfl K.1 ?_
                  have K := K.2
                  exact q_c rfl rfl K
                · have K := K.2 h
                  refine q_n 1 (pc1 := 202) (ls1 := [some (.ref 67), some (.int x), some (.int y), some (.int (n - 1)), some (.int z), some (.int k), some (.int o), some (.int v)]) (st1 := [.int 0]) (hp1 := (hz F A L)) rfl ?_
                  exact q_ri rfl K
          · have K := K.2 h
            refine q_n 5 (pc1 := 142) (ls1 := [some (.ref 67), some (.int x), some (.int y), some (.int n), some (.int z), some (.int k), some (.int o), some (.int v)]) (st1 := [.int (n - 1), .ref 83]) (hp1 := (hz F A L)) rfl ?_
            refine q_al (k := 83) (l := (A 83)) (p1 := 143) rfl rfl rfl K.1 ?_
            have K := K.2
            refine q_n 2 (pc1 := 147) (ls1 := [some (.ref 67), some (.int x), some (.int y), some (.int n), some (.int z), some (.int k), some (.int o), some (.int v)]) (st1 := [.int 12, .int o, .int ((A 83).getD (n - 1).toInt.toNat 0)]) (hp1 := (hz F A L)) rfl ?_
            refine q_ne (p3 := 150) rfl rfl (fun h => ?_) (fun h => ?_)
            · have K := K.1 h
              refine q_n 1 (pc1 := 155) (ls1 := [some (.ref 67), some (.int x), some (.int y), some (.int n), some (.int z), some (.int k), some (.int o), some (.int v)]) (st1 := [.int 0, .int ((A 83).getD (n - 1).toInt.toNat 0)]) (hp1 := (hz F A L)) rfl ?_
              refine q_ne (p3 := 158) rfl rfl (fun h => ?_) (fun h => ?_)
              · have K := K.1 h
                refine q_n 6 (pc1 := 16) (ls1 := [some (.ref 67), some (.int x), some (.int y), some (.int (n - 1)), some (.int z), some (.int k), some (.int o), some (.int v)]) (st1 := []) (hp1 := (hz F A L)) rfl ?_
                exact K
              · have K := K.2 h
                refine q_n 6 (pc1 := 16) (ls1 := [some (.ref 67), some (.int x), some (.int y), some (.int n), some (.int z), some (.int (z + v)), some (.int o), some (.int v)]) (st1 := []) (hp1 := (hz F A L)) rfl ?_
                exact K
            · have K := K.2 h
              refine q_n 2 (pc1 := 155) (ls1 := [some (.ref 67), some (.int x), some (.int y), some (.int n), some (.int z), some (.int k), some (.int o), some (.int v)]) (st1 := [.int 1, .int ((A 83).getD (n - 1).toInt.toNat 0)]) (hp1 := (hz F A L)) rfl ?_
              refine q_ne (p3 := 158) rfl rfl (fun h => ?_) (fun h => ?_)
              · have K := K.1 h
                refine q_n 6 (pc1 := 16) (ls1 := [some (.ref 67), some (.int x), some (.int y), some (.int (n - 1)), some (.int z), some (.int k), some (.int o), some (.int v)]) (st1 := []) (hp1 := (hz F A L)) rfl ?_
                exact K
              · have K := K.2 h
                refine q_n 6 (pc1 := 16) (ls1 := [some (.ref 67), some (.int x), some (.int y), some (.int n), some (.int z), some (.int (z + v)), some (.int o), some (.int v)]) (st1 := []) (hp1 := (hz F A L)) rfl ?_
                exact K
      · have K := K.2 h
        refine q_n 11 (pc1 := 115) (ls1 := [some (.ref 67), some (.int x), some (.int y), some (.int n), some (.int z), some (.int k), some (.int o), some (.int v)]) (st1 := [.int (n - 1), .ref 83, .int 1, .int (n - 1), .ref 83]) (hp1 := (hz F A L)) rfl ?_
        refine q_al (k := 83) (l := (A 83)) (p1 := 116) rfl rfl rfl K.1 ?_
        have K := K.2
        refine q_n 1 (pc1 := 117) (ls1 := [some (.ref 67), some (.int x), some (.int y), some (.int n), some (.int z), some (.int k), some (.int o), some (.int v)]) (st1 := [.int (1 - ((A 83).getD (n - 1).toInt.toNat 0)), .int (n - 1), .ref 83]) (hp1 := (hz F A L)) rfl ?_
        refine q_as (k := 83) (l := (A 83)) (p1 := 118) rfl rfl rfl K.1 (hz_s83 _) ?_
        have K := K.2
        refine q_n 2 (pc1 := 16) (ls1 := [some (.ref 67), some (.int x), some (.int y), some (.int n), some (.int z), some (.int k), some (.int o), some (.int v)]) (st1 := []) (hp1 := (hz F (uA A 83 ((A 83).set (n - 1).toInt.toNat (1 - ((A 83).getD (n - 1).toInt.toNat 0)))) L)) rfl ?_
        exact K
    · have K := K.2 h
      refine q_n 4 (pc1 := 70) (ls1 := [some (.ref 67), some (.int x), some (.int y), some (.int n), some (.int z), some (.int k), some (.int o), some (.int v)]) (st1 := [.int o, .int n, .ref 83]) (hp1 := (hz F A L)) rfl ?_
      refine q_zne (p3 := 73) rfl rfl (fun h => ?_) (fun h => ?_)
      · have K := K.1 h
        refine q_n 3 (pc1 := 84) (ls1 := [some (.ref 67), some (.int x), some (.int y), some (.int n), some (.int z), some (.int k), some (.int o), some (.int v)]) (st1 := [.int v, .ref 84, .int n, .ref 83]) (hp1 := (hz F A L)) rfl ?_
        refine q_al (k := 84) (l := (A 84)) (p1 := 85) rfl rfl rfl K.1 ?_
        have K := K.2
        refine q_as (k := 83) (l := (A 83)) (p1 := 86) rfl rfl rfl K.1 (hz_s83 _) ?_
        have K := K.2
        refine q_n 6 (pc1 := 16) (ls1 := [some (.ref 67), some (.int x), some (.int y), some (.int (n + 1)), some (.int z), some (.int k), some (.int o), some (.int v)]) (st1 := []) (hp1 := (hz F (uA A 83 ((A 83).set n.toInt.toNat ((A 84).getD v.toInt.toNat 0))) L)) rfl ?_
        exact K
      · have K := K.2 h
        refine q_n 2 (pc1 := 85) (ls1 := [some (.ref 67), some (.int x), some (.int y), some (.int n), some (.int z), some (.int k), some (.int o), some (.int v)]) (st1 := [.int v, .int n, .ref 83]) (hp1 := (hz F A L)) rfl ?_
        refine q_as (k := 83) (l := (A 83)) (p1 := 86) rfl rfl rfl K.1 (hz_s83 _) ?_
        have K := K.2
        refine q_n 6 (pc1 := 16) (ls1 := [some (.ref 67), some (.int x), some (.int y), some (.int (n + 1)), some (.int z), some (.int k), some (.int o), some (.int v)]) (st1 := []) (hp1 := (hz F (uA A 83 ((A 83).set n.toInt.toNat v)) L)) rfl ?_
        exact K
theorem g_ct2 {d : Nat} {F : Nat → Nat → Int32} {A : Nat → List Int32} {L : Nat → List Int64} {Q : Option Value → sm_H → Prop} {x y n z k o v i r : Int32} (K : ((0 ≤ i.toInt ∧ i.toInt < ((A 83).length : Int)) ∧ (wp_E (d + 1) mm181.2.2.2.2.2.2.2.2 16 [some (.ref 67), some (.int x), some (.int y), some (.int n), some (.int z), some (.int k), some (.int o), some (.int v)] [] (hz F (uA A 83 ((A 83).set i.toInt.toNat r)) L) Q))) : wp_E (d + 1) mm181.2.2.2.2.2.2.2.2 229 [some (.ref 67), some (.int x), some (.int y), some (.int n), some (.int z), some (.int k), some (.int o), some (.int v)] [.int r, .int i, .ref 83] (hz F A L) Q := by
  refine q_as (k := 83) (l := (A 83)) (p1 := 230) rfl rfl rfl K.1 (hz_s83 _) ?_
  have K := K.2
  refine q_n 1 (pc1 := 16) (ls1 := [some (.ref 67), some (.int x), some (.int y), some (.int n), some (.int z), some (.int k), some (.int o), some (.int v)]) (st1 := []) (hp1 := (hz F (uA A 83 ((A 83).set i.toInt.toNat r)) L)) rfl ?_
  exact K
