/-! law empties both tapes; the relation of table and tape together -/
section R2LB
variable {d : Nat} {F : Nat → Nat → Int32} {A : Nat → List Int32} {L : Nat → List Int64} {Q : Option Value → sm_H → Prop}
/-- r_law with what a refusal means -/
theorem r_lawB {x : Int32} (hl : lens A) (h2 : len2 A) (hQ1 : ¬ ((1 ≤ x.toInt ∧ x.toInt ≤ 240) ∧ x.toInt ≤ (F 67 8).toInt) → Q (some (.int (-1))) (hz F A L)) (hQ0 : ((1 ≤ x.toInt ∧ x.toInt ≤ 240) ∧ x.toInt ≤ (F 67 8).toInt) → ∀ (r : Int32) (F' : Nat → Nat → Int32) (A' : Nat → List Int32), lawP F A F' A' L → Q (some (.int r)) (hz F' A' L)) : wp_M (d + 9) 151 [.ref 67, .int x] (hz F A L) Q := by
  refine q_m (E := mm151) rfl ⟨Nat.le_of_ble_eq_true rfl, Nat.le_of_ble_eq_true rfl⟩ ?_
  have e240 : (240 : Int32).toInt = 240 := rfl
  refine g_law0 ⟨fun z => hQ1 (fun y => by rw [e1'] at z; omega), fun h1 => ⟨fun z => hQ1 (fun y => by rw [e240] at z; omega), fun h240 => ⟨fun h8 => ?_, fun z => hQ1 (fun y => by omega)⟩⟩⟩
  rw [e1'] at h1
  rw [e240] at h240
  have hQ := hQ0 ⟨⟨h1, h240⟩, h8⟩
  have hI : lawI F A (uF (uF (uF (uF F 67 9 0) 67 10 x) 67 14 0) 67 16 0) A := ⟨frF_u (frF_u (frF_u (frF_u frF_rf (by decide)) (by decide)) (by decide)) (by decide), frA_rf, by show 0 ≤ (0 : Int32).toInt; decide, by show (0 : Int32).toInt ≤ x.toInt; rw [e0]; omega, h240, hl⟩
  refine r_rul (k := 0) (q := 0) hI.2.2.1 hI.2.2.2.1 h240 rfl (by show ((0 : Nat) : Int) ≤ (0 : Int32).toInt; decide) rfl (by omega) hl (fun r F1 A1 h => ?_)
  obtain ⟨hB, h⟩ := h
  refine g_law1 ?_
  refine r_law_loop (F0 := F) (A0 := A) h2 hQ ((F1 67 10).toInt - (F1 67 9).toInt).toNat F1 A1 r (by omega) (lawI_r hI hB) ?_
  rcases h with h | ⟨-, h16, hq', hp', k', k'', y1, y2, y3, y4, y5, y6, y7, y8, y9⟩
  · exact Or.inl h
  · exact Or.inr ⟨k'', 0 + 1, y1, y2, hq', by omega, said_r (A := A) (F1 := F1) (fun c hc => absurd hc (by omega)) y4.1 y3.1 y3 y4 y5 y6 y7 y8 y9⟩
end R2LB
theorem has_int {n x : Int32} : kx_has n x 1 240 = 0 ↔ ¬ ((1 ≤ x.toInt ∧ x.toInt ≤ 240) ∧ x.toInt ≤ n.toInt) := by
  have e1 : (1 : Int32).toInt = 1 := rfl
  have e240 : (240 : Int32).toInt = 240 := rfl
  unfold kx_has kc_within
  rw [e1, e240]
  by_cases a : x.toInt < 1
  · rw [if_pos a, if_pos rfl]
    exact ⟨fun _ z => by omega, fun _ => rfl⟩
  · rw [if_neg a]
    by_cases b : 240 < x.toInt
    · rw [if_pos b, if_pos rfl]
      exact ⟨fun _ z => by omega, fun _ => rfl⟩
    · rw [if_neg b, if_neg (by decide)]
      by_cases c : n.toInt < x.toInt
      · rw [if_pos c]
        exact ⟨fun _ z => by omega, fun _ => rfl⟩
      · rw [if_neg c]
        exact ⟨fun z => absurd z (by decide), fun z => absurd ⟨⟨by omega, by omega⟩, by omega⟩ z⟩
theorem law_c {f : Nat} {p q r s t u v w z : Int32} {a2 l1 l2 l3 l4 l5 l6 k1 k2 k3 k4 k5 k6 : List Int32} {x : Int32} : (kc_law f p q r s t u v w z a2 l1 l2 l3 l4 l5 l6 k1 k2 k3 k4 k5 k6 x).2.1 = if kx_has p x 1 240 = 0 then p else 0 := by
  unfold kc_law
  simp only [lt_e]
  split
  · rfl
  · split <;> rfl
section R2L
variable {as : List Int32} {hp hp1 hp2 : sm_H} {r1 r2 : Int32}
theorem R2_law (hl : as.length = 1) (hW : an_WF hp) (hI : ivH IV hp) (hR : R2 hp) (m1 : EM 400 19 (.ref 0 :: as.map Value.int) hp (some (.int r1)) hp1) (hW1 : an_WF hp1) (hI1 : ivH IV hp1) (m2 : EM 400 151 (.ref 67 :: as.map Value.int) hp1 (some (.int r2)) hp2) : R2 hp2 := by
  have f1 := fr_use fr_c19 hl hW hI m1
  have f2 := fr_use fr_m151 hl hW1 hI1 m2
  obtain ⟨x, rfl⟩ := ln1 hl
  obtain ⟨N, h1⟩ := u_kc_law hI m1
  obtain ⟨-, h1⟩ := h1 N (Nat.le_refl _)
  have q1 := law_c (f := N) (p := exF hp 1 1) (q := exF hp 1 2) (r := exF hp 1 3) (s := exF hp 1 4) (t := exF hp 43 0) (u := exF hp 43 1) (v := exF hp 52 2) (w := exF hp 53 0) (z := exF hp 53 1) (a2 := exA hp 2) (l1 := exA hp 44) (l2 := exA hp 45) (l3 := exA hp 46) (l4 := exA hp 47) (l5 := exA hp 48) (l6 := exA hp 49) (k1 := exA hp 54) (k2 := exA hp 55) (k3 := exA hp 56) (k4 := exA hp 57) (k5 := exA hp 58) (k6 := exA hp 59) (x := x)
  generalize kc_law N (exF hp 1 1) (exF hp 1 2) (exF hp 1 3) (exF hp 1 4) (exF hp 43 0) (exF hp 43 1) (exF hp 52 2) (exF hp 53 0) (exF hp 53 1) (exA hp 2) (exA hp 44) (exA hp 45) (exA hp 46) (exA hp 47) (exA hp 48) (exA hp 49) (exA hp 54) (exA hp 55) (exA hp 56) (exA hp 57) (exA hp 58) (exA hp 59) x = T at h1 q1
  have k1 : exF hp1 1 1 = T.2.1 := by rw [h1]; rfl
  have e := iv_hz hI1
  have key : wp_M 400 151 [.ref 67, .int x] (hz (exF hp1) (exA hp1) (exL hp1)) (fun _ hp' => exF hp' 67 8 = if kx_has (exF hp1 67 8) x 1 240 = 0 then exF hp1 67 8 else 0) := by
    refine r_lawB (d := 391) ⟨iv_len hI1 rfl (by decide), iv_len hI1 rfl (by decide), iv_len hI1 rfl (by decide), iv_len hI1 rfl (by decide), iv_len hI1 rfl (by decide), iv_len hI1 rfl (by decide), iv_len hI1 rfl (by decide)⟩ ⟨iv_len hI1 rfl (by decide), iv_len hI1 rfl (by decide), iv_len hI1 rfl (by decide), iv_len hI1 rfl (by decide), iv_len hI1 rfl (by decide)⟩ (fun z => ?_) (fun z r F' A' hP => ?_)
    · rw [if_pos (has_int.mpr z)]
      rfl
    · rw [if_neg (fun y => (has_int.mp y) z)]
      exact hP.2.2.2.2.2.2.1
  rw [← e] at key
  obtain ⟨v, hp', n1, w⟩ := key
  obtain ⟨-, e2⟩ := em_det m2 n1
  rw [← e2] at w
  have w8 : exF hp1 67 8 = exF hp 1 1 := (f1.1 67 8 (by decide)).trans hR.1.symm
  have c1 : exF hp2 1 1 = exF hp1 1 1 := f2.1 1 1 (by decide)
  have a2 : exA hp2 2 = exA hp 2 := (f2.2.1 2 (by decide)).1.trans (f1.2.1 2 (by decide)).1
  have a71 : exA hp2 71 = exA hp 71 := (f2.2.1 71 (by decide)).1.trans (f1.2.1 71 (by decide)).1
  have w : exF hp2 67 8 = if kx_has (exF hp1 67 8) x 1 240 = 0 then exF hp1 67 8 else 0 := w
  unfold R2
  rw [c1, k1, q1, w, w8, a2, a71]
  split
  · exact ⟨rfl, hR.2⟩
  · exact R2v_0
end R2L
noncomputable def R12 (hp : sm_H) : Prop := R1 hp ∧ R2 hp
theorem R12_0 : R12 lw_h0 := ⟨R1_0, rfl, fun i hi => absurd hi (by rw [show (exF lw_h0 1 1).toInt.toNat = 0 from rfl]; omega)⟩
set_option maxRecDepth 100000 in
theorem R2_all : ∀ q ∈ lw_ops, opP R1 R2 q := (al_c (opP_of (R2_n fr_c9 fr_m140 (by decide +kernel))) (al_c (opP_of (R2_n fr_c12 fr_m143 (by decide +kernel))) (al_c (opP_of (R2_n fr_c15 fr_m147 (by decide +kernel))) (al_c (opP_of (R2_n fr_c16 fr_m148 (by decide +kernel))) (al_c (fun as hp hp1 hp2 r1 r2 hl hW hI hP hR m1 hW1 hI1 m2 hW2 hI2 => (R2_feed hl hI hR m1 hI1 m2).2) (al_c (fun as hp hp1 hp2 r1 r2 hl hW hI hP hR m1 hW1 hI1 m2 hW2 hI2 => R2_law hl hW hI hR m1 hW1 hI1 m2) (al_c (fun as hp hp1 hp2 r1 r2 hl hW hI hP hR m1 hW1 hI1 m2 hW2 hI2 => R2_ranking hl hI hP hR m1 hI1 m2) (al_c (opP_of (R2_n fr_c47 fr_m175 (by decide +kernel))) (al_c (opP_of (R2_n fr_c68 fr_m198 (by decide +kernel))) (al_c (opP_of (R2_n fr_c71 fr_m200 (by decide +kernel))) (al_c (opP_of (R2_n fr_c73 fr_m201 (by decide +kernel))) (al_c (opP_of (R2_n fr_c74 fr_m202 (by decide +kernel))) (al_c (opP_of (R2_n fr_c76 fr_m204 (by decide +kernel))) (al_c (opP_of (R2_n fr_c80 fr_m208 (by decide +kernel))) (al_c (opP_of (R2_n fr_c82 fr_m209 (by decide +kernel))) (al_c (opP_of (R2_n fr_c85 fr_m211 (by decide +kernel))) (al_c (opP_of (R2_n fr_c87 fr_m214 (by decide +kernel))) (al_c (opP_of (R2_n fr_c90 fr_m217 (by decide +kernel))) (al_c (opP_of (R2_n fr_c93 fr_m220 (by decide +kernel))) (al_c (fun as hp hp1 hp2 r1 r2 hl hW hI hP hR m1 hW1 hI1 m2 hW2 hI2 => R2_agenda hl hI hR m1 hI1 m2) (al_c (opP_of (R2_n fr_c99 fr_m223 (by decide +kernel))) (al_c (opP_of (R2_n fr_c103 fr_m228 (by decide +kernel))) (al_c (opP_of (R2_n fr_c111 fr_m232 (by decide +kernel))) (al_c (opP_of (R2_n fr_c114 fr_m234 (by decide +kernel))) (al_c (opP_of (R2_n fr_c120 fr_m235 (by decide +kernel))) (al_c (opP_of (R2_n fr_c122 fr_m236 (by decide +kernel))) (al_c (opP_of (R2_n fr_c124 fr_m237 (by decide +kernel))) (al_c (opP_of (R2_n fr_c126 fr_m238 (by decide +kernel))) (al_c (opP_of (R2_n fr_c127 fr_m239 (by decide +kernel))) (al_c (opP_of (R2_n fr_c128 fr_m240 (by decide +kernel))) (al_c (opP_of (R2_n fr_c131 fr_m243 (by decide +kernel))) (al_c (opP_of (R2_n fr_c134 fr_m246 (by decide +kernel))) (al_c (opP_of (R2_n fr_c135 fr_m247 (by decide +kernel))) (al_c (opP_of (R2_n fr_c136 fr_m248 (by decide +kernel))) (al_c (fun as hp hp1 hp2 r1 r2 hl hW hI hP hR m1 hW1 hI1 m2 hW2 hI2 => R2_check hl hI hR m1 hI1 m2) (al_c (opP_of (R2_n fr_c138 fr_m250 (by decide +kernel))) al_n))))))))))))))))))))))))))))))))))))
theorem R12_all : ∀ q ∈ lw_ops, opQ R12 q := opP_and R1_all R2_all
