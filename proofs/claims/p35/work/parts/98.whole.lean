theorem rK_keep {as : List Int32} {hp hp1 hp2 : sm_H} {r1 r2 : Int32} (hl : as.length = 0) (hW : an_WF hp) (hI : ivH IV hp) (m1 : EM 400 135 (.ref 0 :: as.map Value.int) hp (some (.int r1)) hp1) (hW1 : an_WF hp1) (hI1 : ivH IV hp1) (m2 : EM 400 247 (.ref 67 :: as.map Value.int) hp1 (some (.int r2)) hp2) : rK hp2 := by
  have g2 := (fr_use fr_m247 hl hW1 hI1 m2).1 0 11 (by decide)
  match as, hl with
  | [], _ =>
    have c1 := (em_cH (xs := []) cz_o68 iv_c135 hW hI trivial m1).2.1
    have c2 := (em_cH (xs := []) (mz_o68 mz_KH_ok) iv_m247 hW1 hI1 trivial m2).2.1
    unfold rK
    rw [g2]
    exact i32_eq (cH_M c1 (a := 0) (b := 11) (bd := (1, 1)) rfl hI rfl) (cH_M c2 (a := 67) (b := 6) (bd := (1, 1)) rfl hI1 rfl)
  | _ :: _, h => cases h
theorem rK_undo {as : List Int32} {hp hp1 hp2 : sm_H} {r1 r2 : Int32} (hl : as.length = 0) (hW : an_WF hp) (hI : ivH IV hp) (hK : rK hp) (m1 : EM 400 136 (.ref 0 :: as.map Value.int) hp (some (.int r1)) hp1) (hW1 : an_WF hp1) (hI1 : ivH IV hp1) (m2 : EM 400 248 (.ref 67 :: as.map Value.int) hp1 (some (.int r2)) hp2) : r1 = r2 ∧ rK hp2 := by
  refine ⟨?_, opK_f fr_c136 fr_m248 (by decide) hl hW hI hK m1 hW1 hI1 m2⟩
  have g1 := (fr_use fr_c136 hl hW hI m1).1 67 6 (by decide)
  have b1 := iv_fb (k := 0) (j := 11) (b := (0, 1)) hI rfl
  match as, hl with
  | [], _ =>
    have hx : (exF hp 0 11).toInt = 0 ∨ (exF hp 0 11).toInt = 1 := by
      have := b1.1
      have := b1.2
      dsimp only at *
      omega
    have e2 : exF hp1 67 6 = exF hp 0 11 := g1.trans hK.symm
    rcases hx with h | h
    · have c1 := (em_cH (xs := []) cz_o3000 vk_c136_0 hW (iv_nar_ok 0 IV hp hI ⟨by show (0 : Int) ≤ _; omega, by show _ ≤ (0 : Int); omega⟩) trivial m1).1
      have c2 := (em_cH (xs := []) mz_o3002 vk_m248_0 hW1 (iv_nar_ok 67 IV hp1 hI1 (by rw [e2]; exact ⟨by show (0 : Int) ≤ _; omega, by show _ ≤ (0 : Int); omega⟩)) trivial m2).1
      exact i32_eq (v := 0) (rs_c c1) (rs_c c2)
    · have c1 := (em_cH (xs := []) cz_o3001 vk_c136_1 hW (iv_nar_ok 0 IV hp hI ⟨by show (1 : Int) ≤ _; omega, by show _ ≤ (1 : Int); omega⟩) trivial m1).1
      have c2 := (em_cH (xs := []) mz_o3003 vk_m248_1 hW1 (iv_nar_ok 67 IV hp1 hI1 (by rw [e2]; exact ⟨by show (1 : Int) ≤ _; omega, by show _ ≤ (1 : Int); omega⟩)) trivial m2).1
      exact i32_eq (v := 1) (rs_c c1) (rs_c c2)
  | _ :: _, h => cases h
set_option maxRecDepth 100000 in
theorem opK_all : ∀ q ∈ lw_ops, opK q := (al_c (fun as hp hp1 hp2 r1 r2 hl hW hI hK m1 hW1 hI1 m2 hW2 hI2 => ⟨(fun z => by cases z), rK_measures hl hW hI hK m1 hW1 hI1 m2⟩) (al_c (opK_n fr_c12 fr_m143 rfl (by decide +kernel)) (al_c (opK_n fr_c15 fr_m147 rfl (by decide +kernel)) (al_c (opK_n fr_c16 fr_m148 rfl (by decide +kernel)) (al_c (opK_n fr_c17 fr_m149 rfl (by decide +kernel)) (al_c (opK_n fr_c19 fr_m151 rfl (by decide +kernel)) (al_c (opK_n fr_c42 fr_m172 rfl (by decide +kernel)) (al_c (opK_n fr_c47 fr_m175 rfl (by decide +kernel)) (al_c (opK_n fr_c68 fr_m198 rfl (by decide +kernel)) (al_c (opK_n fr_c71 fr_m200 rfl (by decide +kernel)) (al_c (opK_n fr_c73 fr_m201 rfl (by decide +kernel)) (al_c (opK_n fr_c74 fr_m202 rfl (by decide +kernel)) (al_c (opK_n fr_c76 fr_m204 rfl (by decide +kernel)) (al_c (opK_n fr_c80 fr_m208 rfl (by decide +kernel)) (al_c (opK_n fr_c82 fr_m209 rfl (by decide +kernel)) (al_c (opK_n fr_c85 fr_m211 rfl (by decide +kernel)) (al_c (opK_n fr_c87 fr_m214 rfl (by decide +kernel)) (al_c (opK_n fr_c90 fr_m217 rfl (by decide +kernel)) (al_c (opK_n fr_c93 fr_m220 rfl (by decide +kernel)) (al_c (opK_n fr_c95 fr_m221 rfl (by decide +kernel)) (al_c (opK_n fr_c99 fr_m223 rfl (by decide +kernel)) (al_c (opK_n fr_c103 fr_m228 rfl (by decide +kernel)) (al_c (opK_n fr_c111 fr_m232 rfl (by decide +kernel)) (al_c (opK_n fr_c114 fr_m234 rfl (by decide +kernel)) (al_c (opK_n fr_c120 fr_m235 rfl (by decide +kernel)) (al_c (opK_n fr_c122 fr_m236 rfl (by decide +kernel)) (al_c (opK_n fr_c124 fr_m237 rfl (by decide +kernel)) (al_c (opK_n fr_c126 fr_m238 rfl (by decide +kernel)) (al_c (opK_n fr_c127 fr_m239 rfl (by decide +kernel)) (al_c (opK_n fr_c128 fr_m240 rfl (by decide +kernel)) (al_c (opK_n fr_c131 fr_m243 rfl (by decide +kernel)) (al_c (opK_n fr_c134 fr_m246 rfl (by decide +kernel)) (al_c (fun as hp hp1 hp2 r1 r2 hl hW hI hK m1 hW1 hI1 m2 hW2 hI2 => ⟨(fun z => by cases z), rK_keep hl hW hI m1 hW1 hI1 m2⟩) (al_c (fun as hp hp1 hp2 r1 r2 hl hW hI hK m1 hW1 hI1 m2 hW2 hI2 => ⟨fun _ => (rK_undo hl hW hI hK m1 hW1 hI1 m2).1, (rK_undo hl hW hI hK m1 hW1 hI1 m2).2⟩) (al_c (opK_n fr_c137 fr_m249 rfl (by decide +kernel)) (al_c (opK_n fr_c138 fr_m250 rfl (by decide +kernel)) al_n))))))))))))))))))))))))))))))))))))
theorem whole_start {p : Program} {e : Env} {s : State} {m : MethodId} {below : List Frame} {meth : Method} {c : Code} (l : Launch) {b L : Nat} {xs : Nat → Int32} (hL : L ≤ 3072) (C0 : lw_At p s m meth c b L xs) : W p l e room_1 s m #[Value.ref b] below meth c s.heap [] 0 0 (lw_Z below #[Value.ref b] s) (entryFrame m ([Value.ref b] : List Value).toArray 4) := by
  refine lw_from l (D := 400) hL (by decide) (fun _ hp => an_WF hp ∧ ivH IV hp ∧ rK hp) ⟨wf_0, iv_0, rfl⟩ (fun k hp hk hI => ⟨fun q hq as hl => ?_, hI⟩) C0
  obtain ⟨g1, g2⟩ := rt_all q hq
  refine good_of hl g1 g2 hI.1 hI.2.1 (fun r1 r2 hp1 hp2 m1 w1 i1 m2 w2 i2 => ?_)
  obtain ⟨a1, a2⟩ := opK_all q hq as hp hp1 hp2 r1 r2 hl hI.1 hI.2.1 hI.2.2 m1 w1 i1 m2 w2 i2
  exact ⟨a1, w2, i2, a2⟩
