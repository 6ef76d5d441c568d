noncomputable def an_w : List an_S → Nat
  | [] => 0
  | a :: t => cond (an_isl a) 2 1 + an_w t
theorem an_w_ok {ρ : List Int} : ∀ {st : List an_S} {sc : List Value}, an_rF ρ st sc → sm_w sc = an_w st
  | [], [], _ => rfl
  | a :: t, v :: u, h => by
    have h1 : sm_w (v :: u) = v.category + sm_w u := rfl
    rw [h1, an_w_ok h.2, an_w]
    cases hz : an_isl a with
    | true => rw [(an_isl_cat h.1).1 hz]; rfl
    | false => rw [(an_isl_cat h.1).2 hz]; rfl
  | [], _ :: _, h => h.elim
  | _ :: _, [], h => h.elim
/-- System.arraycopy -/
noncomputable def an_ac (pc : Nat) (ls : an_L) (st : List an_S) (Z : an_Z) : Option (List an_G) := match st with
  | n :: dp :: .inr (.inl kd) :: sp :: .inr (.inl ks) :: r => match Z.2.1[ks]?, Z.2.1[kd]?, an_iv Z.1 n, an_iv Z.1 dp, an_iv Z.1 sp with
    | some (.inl g), some (.inl h), some n, some d, some s => cond (ile 0 n.1 && ile 0 d.1 && ile 0 s.1 && Nat.ble (s.2.toNat + n.2.toNat) (an_len g.2) && Nat.ble (d.2.toNat + n.2.toNat) (an_len h.2) && Nat.ble (an_w r) 8 && Nat.beq g.1 h.1 && (Nat.beq g.1 1 || (Nat.beq g.1 0 && (Nat.beq n.2.toNat 0 || (match an_jn g.2 s.1.toNat (s.2.toNat + n.2.toNat - 1) with
        | some w => an_fa h.2 d.1.toNat (d.2.toNat + n.2.toNat - 1) w
        | none => false))))) (an_k (pc + 3) ls r (Z.1, Z.2.1, kd :: Z.2.2.1, an_kill kd Z.2.2.2)) none
    | _, _, _, _, _ => none
  | _ => none
noncomputable def an_gi (st : List an_S) : Bool := match (st[2]? : Option an_S) with
  | some (Sum.inr (Sum.inl k)) => !an_is k
  | _ => false
theorem an_gi_ok {v i : an_S} {k : Nat} {r : List an_S} (h : an_gi (v :: i :: .inr (.inl k) :: r) = true) : an_is k = false := by
  have h : (!an_is k) = true := h
  rw [Bool.not_eq_true'] at h
  exact h
section ANZ
variable {ρ : List Int} {h0 hp : sm_H} {Z : an_Z} {ls : an_L} {lc : sm_L} {st : List an_S} {sc : List Value} {pc : Nat} {L : List an_G}
theorem an_as_go {kd : Nat} (hgd : an_guard st = true) (hkd : kd = 0 ∨ kd = 2) (h : an_as kd pc ls st Z = some L) (hL : an_rL ρ ls lc) (hS : an_rF ρ st sc) (hZ : an_rZ ρ Z h0 hp) : an_Go ρ h0 L (sm_as sc kd pc lc hp) := by
  unfold an_as at h
  split at h
  · rename_i v i k r
    match sc, hS with
    | wv :: wi :: u :: rc, hS =>
      obtain ⟨hv, hi, hu, hr⟩ := hS
      have hu : u = .ref k := hu
      subst hu
      split at h
      · rename_i g p w hg hp' hw'
        obtain ⟨y0, rfl, y1, y2⟩ := an_iv_ok hZ.1 hv hw'
        have hnar : (cond (Nat.beq kd 2) ((-128 : Int), (127 : Int)) w).1 ≤ (if kd = 2 then vp_nar .byte y0 else y0).toInt ∧ (if kd = 2 then vp_nar .byte y0 else y0).toInt ≤ (cond (Nat.beq kd 2) ((-128 : Int), (127 : Int)) w).2 := by
          rcases hkd with rfl | rfl
          · rw [if_neg (by decide)]; exact ⟨y1, y2⟩
          · rw [if_pos rfl]; exact an_nar y0
        cases hb : (Nat.beq g.1 kd && ile 0 p.1 && an_fa g.2 p.1.toNat p.2.toNat (cond (Nat.beq kd 2) (-128, 127) w)) with
        | false =>
          rw [hb] at h
          dsimp only [cond_false] at h
          cases hb2 : (Nat.beq g.1 kd && ile 0 p.1 && Nat.blt p.2.toNat (an_len g.2)) with
          | false => rw [hb2] at h; cases h
          | true =>
            rw [hb2] at h
            rw [Bool.and_eq_true, Bool.and_eq_true, Nat.beq_eq, ile_iff, Nat.blt_eq] at hb2
            obtain ⟨⟨b1, b2⟩, b3⟩ := hb2
            obtain ⟨x, rfl, x1, x2⟩ := an_iv_ok hZ.1 hi hp'
            obtain ⟨d, hd, hc⟩ := an_rH_get hZ.2.1 hg
            obtain ⟨n1, n2⟩ := an_idx (i := x) (by omega)
            match d, hc with
            | .inl (kk, .inl l), hc =>
              obtain ⟨c1, c2, c3⟩ := hc
              have hlt : x.toInt.toNat < l.length := by rw [c3.1]; omega
              have hkk : kk = kd := by rw [← c1]; exact b1
              unfold sm_as
              dsimp only
              rw [hd]
              dsimp only
              rw [if_pos ⟨hkk, n1, by rw [n2]; exact hlt⟩, n2]
              exact an_k_go h hL hr ⟨hZ.1, an_rH_set k hZ.2.1 ⟨c1, c2, an_us_ok c3 (by omega) (by omega) hnar.1 hnar.2⟩, an_rW_as hd (an_guard_ok hgd) (by omega) (by omega) hZ.2.2.1, an_rM_arr hZ.2.2.2⟩
            | .inl (kk, .inr l), hc => exact absurd (show kd = 1 by rw [← b1, hc.1]; exact hc.2.1) (by omega)
            | .inr _, hc => exact hc.elim
        | true =>
          rw [hb] at h
          rw [Bool.and_eq_true, Bool.and_eq_true, Nat.beq_eq, ile_iff] at hb
          obtain ⟨⟨b1, b2⟩, b3⟩ := hb
          obtain ⟨x, rfl, x1, x2⟩ := an_iv_ok hZ.1 hi hp'
          obtain ⟨d, hd, hc⟩ := an_rH_get hZ.2.1 hg
          obtain ⟨n1, n2⟩ := an_idx (i := x) (by omega)
          obtain ⟨b', e1, e2, e3⟩ := an_fa_ok _ _ _ _ b3 x.toInt.toNat (by omega) (by omega)
          match d, hc with
          | .inl (kk, .inl l), hc =>
            obtain ⟨c1, c2, c3⟩ := hc
            have hlt : x.toInt.toNat < l.length := by rw [c3.1]; exact an_at_lt _ _ _ e1
            have hkk : kk = kd := by rw [← c1]; exact b1
            unfold sm_as
            dsimp only
            rw [hd]
            dsimp only
            rw [if_pos ⟨hkk, n1, by rw [n2]; exact hlt⟩, n2]
            exact an_k_go h hL hr ⟨hZ.1, an_rH_arr k hZ.2.1 hg ⟨c1, c2, an_rA_set c3 e1 (Int.le_trans e2 hnar.1) (Int.le_trans hnar.2 e3)⟩, an_rW_as hd (an_guard_ok hgd) (by omega) (by omega) hZ.2.2.1, an_rM_arr hZ.2.2.2⟩
          | .inl (kk, .inr l), hc => exact absurd (show kd = 1 by rw [← b1, hc.1]; exact hc.2.1) (by omega)
          | .inr _, hc => exact hc.elim
      · cases h
    | [], hS => exact hS.elim
    | [_], hS => exact hS.2.elim
    | [_, _], hS => exact hS.2.2.elim
  · cases h
theorem an_lls_go (hgd : an_guard st = true) (h : an_lls pc ls st Z = some L) (hL : an_rL ρ ls lc) (hS : an_rF ρ st sc) (hZ : an_rZ ρ Z h0 hp) : an_Go ρ h0 L (sm_lls sc pc lc hp) := by
  unfold an_lls at h
  split at h
  · rename_i v i k r
    match sc, hS with
    | wv :: wi :: u :: rc, hS =>
      obtain ⟨hv, hi, hu, hr⟩ := hS
      have hu : u = .ref k := hu
      subst hu
      obtain ⟨yy, rfl⟩ := hv
      split at h
      · rename_i g p hg hp'
        cases hb : (Nat.beq g.1 1 && ile 0 p.1 && Nat.blt p.2.toNat (an_len g.2)) with
        | false => rw [hb] at h; cases h
        | true =>
          rw [hb] at h
          rw [Bool.and_eq_true, Bool.and_eq_true, Nat.beq_eq, ile_iff, Nat.blt_eq] at hb
          obtain ⟨⟨b1, b2⟩, b3⟩ := hb
          obtain ⟨x, rfl, x1, x2⟩ := an_iv_ok hZ.1 hi hp'
          obtain ⟨d, hd, hc⟩ := an_rH_get hZ.2.1 hg
          obtain ⟨n1, n2⟩ := an_idx (i := x) (by omega)
          match d, hc with
          | .inl (kk, .inr l), hc =>
            obtain ⟨c1, c2, c3⟩ := hc
            unfold sm_lls
            dsimp only
            rw [hd]
            dsimp only
            rw [if_pos ⟨c2, n1, by rw [n2, c3]; omega⟩, n2]
            exact an_k_go h hL hr ⟨hZ.1, an_rH_arr k hZ.2.1 hg ⟨c1, c2, by rw [List.length_set]; exact c3⟩, an_rW_arr hd (an_guard_ok hgd) (Or.inr ⟨_, _, rfl⟩) hZ.2.2.1, an_rM_arr hZ.2.2.2⟩
          | .inl (kk, .inl l), hc => exact absurd (by rw [← hc.1]; exact b1) hc.2.1
          | .inr _, hc => exact hc.elim
      · cases h
    | [], hS => exact hS.elim
    | [_], hS => exact hS.2.elim
    | [_, _], hS => exact hS.2.2.elim
  · cases h
theorem an_alen_go (h : an_alen pc ls st Z = some L) (hL : an_rL ρ ls lc) (hS : an_rF ρ st sc) (hZ : an_rZ ρ Z h0 hp) : an_Go ρ h0 L (sm_alen sc pc lc hp) := by
  unfold an_alen at h
  split at h
  · rename_i k r
    match sc, hS with
    | u :: rc, hS =>
      obtain ⟨hu, hr⟩ := hS
      have hu : u = .ref k := hu
      subst hu
      split at h
      · rename_i g hg
        cases hb : (Nat.blt (an_len g.2) 2147483648 && Nat.blt g.1 3) with
        | false => rw [hb] at h; cases h
        | true =>
          rw [hb] at h
          rw [Bool.and_eq_true, Nat.blt_eq, Nat.blt_eq] at hb
          obtain ⟨d, hd, hc⟩ := an_rH_get hZ.2.1 hg
          have ev : (Int32.ofNat (an_len g.2)).toInt = ((an_len g.2 : Nat) : Int) := nI_toInt (by omega)
          match d, hc with
          | .inl (kk, .inl l), hc =>
            obtain ⟨c1, c2, c3⟩ := hc
            unfold sm_alen
            dsimp only
            rw [hd]
            dsimp only
            rw [if_pos (by omega), c3.1]
            exact an_k_go h hL ⟨⟨_, rfl, ev⟩, hr⟩ hZ
          | .inl (kk, .inr l), hc =>
            obtain ⟨c1, c2, c3⟩ := hc
            unfold sm_alen
            dsimp only
            rw [hd]
            dsimp only
            rw [if_pos c2, c3]
            exact an_k_go h hL ⟨⟨_, rfl, ev⟩, hr⟩ hZ
          | .inr _, hc => exact hc.elim
      · cases h
    | [], hS => exact hS.elim
  · cases h
theorem an_cpy_get {f g : List Int32} {sp dp n i : Nat} {x : Int32} (h1 : sp + n ≤ f.length) (h2 : dp + n ≤ g.length) (h : (sm_cpy f g sp dp n)[i]? = some x) : (dp ≤ i ∧ i < dp + n ∧ f[sp + (i - dp)]? = some x) ∨ g[i]? = some x := by
  unfold sm_cpy at h
  by_cases c1 : i < dp
  · rw [List.getElem?_append_left (by simp; omega), List.getElem?_take_of_lt c1] at h
    exact Or.inr h
  · rw [List.getElem?_append_right (by simp; omega)] at h
    have e1 : (g.take dp).length = dp := by simp; omega
    rw [e1] at h
    by_cases c2 : i < dp + n
    · rw [List.getElem?_append_left (by simp; omega), List.getElem?_take_of_lt (by omega), List.getElem?_drop] at h
      exact Or.inl ⟨by omega, c2, h⟩
    · have e2 : ((f.drop sp).take n).length = n := by simp; omega
      rw [List.getElem?_append_right (by omega), e2, List.getElem?_drop] at h
      rw [show dp + n + (i - dp - n) = i by omega] at h
      exact Or.inr h
theorem an_ac_go (hgd : an_guard st = true) (hgi : an_gi st = true) (h : an_ac pc ls st Z = some L) (hL : an_rL ρ ls lc) (hS : an_rF ρ st sc) (hZ : an_rZ ρ Z h0 hp) : an_Go ρ h0 L (sm_ac sc pc lc hp) := by
  unfold an_ac at h
  split at h
  · rename_i n dp kd sp ks r
    match sc, hS with
    | vn :: vd :: ud :: vs :: us :: rc, hS =>
      obtain ⟨hn, hdp, hud, hsp, hus, hr⟩ := hS
      have hud : ud = .ref kd := hud
      have hus : us = .ref ks := hus
      subst hud
      subst hus
      split at h
      · rename_i g h' n d s hg hh hn' hd' hs'
        generalize hB : (ile 0 n.1 && ile 0 d.1 && ile 0 s.1 && Nat.ble (s.2.toNat + n.2.toNat) (an_len g.2) && Nat.ble (d.2.toNat + n.2.toNat) (an_len h'.2) && Nat.ble (an_w r) 8 && Nat.beq g.1 h'.1 && (Nat.beq g.1 1 || (Nat.beq g.1 0 && (Nat.beq n.2.toNat 0 || (match an_jn g.2 s.1.toNat (s.2.toNat + n.2.toNat - 1) with
        | some w => an_fa h'.2 d.1.toNat (d.2.toNat + n.2.toNat - 1) w
        | none => false))))) = B at h
        cases B with
        | false => cases h
        | true =>
          simp only [Bool.and_eq_true, ile_iff, Nat.ble_eq, Nat.beq_eq] at hB
          obtain ⟨⟨⟨⟨⟨⟨⟨b1, b2⟩, b3⟩, b4⟩, b5⟩, b6⟩, b7⟩, b8⟩ := hB
          obtain ⟨xn, rfl, n1, n2⟩ := an_iv_ok hZ.1 hn hn'
          obtain ⟨xd, rfl, d1, d2⟩ := an_iv_ok hZ.1 hdp hd'
          obtain ⟨xs, rfl, s1, s2⟩ := an_iv_ok hZ.1 hsp hs'
          obtain ⟨cs, hcs, hC⟩ := an_rH_get hZ.2.1 hg
          obtain ⟨cd, hcd, hD⟩ := an_rH_get hZ.2.1 hh
          obtain ⟨in1, in2⟩ := an_idx (i := xn) (by omega)
          obtain ⟨id1, id2⟩ := an_idx (i := xd) (by omega)
          obtain ⟨is1, is2⟩ := an_idx (i := xs) (by omega)
          have hw : sm_w rc ≤ 8 := by rw [an_w_ok hr]; exact b6
          match cs, hC, cd, hD with
          | .inl (k0, .inl f0), hC, .inl (k1, .inl g0), hD =>
            obtain ⟨c1, c2, c3⟩ := hC
            obtain ⟨e1, e2, e3⟩ := hD
            have hk0 : k0 = 0 := by
              rcases Bool.or_eq_true _ _ |>.mp b8 with z | z
              · exact absurd (by rw [← c1]; exact Nat.beq_eq.mp z) c2
              · rw [Bool.and_eq_true] at z
                rw [← c1]; exact Nat.beq_eq.mp z.1
            have hk1 : k1 = 0 := by rw [← e1, ← b7, c1]; exact hk0
            have l1 : xs.toInt.toNat + xn.toInt.toNat ≤ f0.length := by rw [c3.1]; omega
            have l2 : xd.toInt.toNat + xn.toInt.toNat ≤ g0.length := by rw [e3.1]; omega
            unfold sm_ac
            dsimp only
            rw [hcs, hcd]
            dsimp only
            rw [if_pos ⟨hk0, hk1, is1, id1, in1, by rw [is2, in2]; exact l1, by rw [id2, in2]; exact l2, hw⟩, is2, id2, in2]
            refine an_k_go h hL hr ⟨hZ.1, an_rH_arr kd hZ.2.1 hh ⟨e1, e2, by rw [sm_cpy_len l1 l2]; exact e3.1, fun i x b hx hb => ?_⟩, an_rW_arr hcd (an_guard_ok hgd) (Or.inl (an_gi_ok hgi)) hZ.2.2.1, an_rM_arr hZ.2.2.2⟩
            rcases an_cpy_get l1 l2 hx with ⟨q1, q2, q3⟩ | q
            · rcases Bool.or_eq_true _ _ |>.mp b8 with z | z
              · exact absurd (by rw [← c1]; exact Nat.beq_eq.mp z) c2
              · rw [Bool.and_eq_true, Bool.or_eq_true, Nat.beq_eq] at z
                rcases z.2 with z | z
                · have z := Nat.beq_eq.mp z
                  omega
                · split at z
                  · rename_i w hw2
                    obtain ⟨bs, t1, t2, t3⟩ := an_jn_ok _ _ _ _ hw2 (xs.toInt.toNat + (i - xd.toInt.toNat)) (by omega) (by omega)
                    obtain ⟨bd, u1, u2, u3⟩ := an_fa_ok _ _ _ _ z i (by omega) (by omega)
                    rw [hb] at u1
                    cases u1
                    have := c3.2 _ _ _ q3 t1
                    omega
                  · cases z
            · exact e3.2 i x b q hb
          | .inl (k0, .inr f0), hC, .inl (k1, .inr g0), hD =>
            obtain ⟨c1, c2, c3⟩ := hC
            obtain ⟨e1, e2, e3⟩ := hD
            have l1 : xs.toInt.toNat + xn.toInt.toNat ≤ f0.length := by rw [c3]; omega
            have l2 : xd.toInt.toNat + xn.toInt.toNat ≤ g0.length := by rw [e3]; omega
            unfold sm_ac
            dsimp only
            rw [hcs, hcd]
            dsimp only
            rw [if_pos ⟨c2, e2, is1, id1, in1, by rw [is2, in2]; exact l1, by rw [id2, in2]; exact l2, hw⟩, is2, id2, in2]
            exact an_k_go h hL hr ⟨hZ.1, an_rH_arr kd hZ.2.1 hh ⟨e1, e2, by rw [sm_cpy_len l1 l2]; exact e3⟩, an_rW_arr hcd (an_guard_ok hgd) (Or.inl (an_gi_ok hgi)) hZ.2.2.1, an_rM_arr hZ.2.2.2⟩
          | .inl (k0, .inl f0), hC, .inl (k1, .inr g0), hD => exact absurd (by rw [← hC.1, b7, hD.1]; exact hD.2.1) hC.2.1
          | .inl (k0, .inr f0), hC, .inl (k1, .inl g0), hD => exact absurd (by rw [← hD.1, ← b7, hC.1]; exact hC.2.1) hD.2.1
          | .inr _, hC, _, _ => exact hC.elim
          | .inl (_, .inl _), _, .inr _, hD => exact hD.elim
          | .inl (_, .inr _), _, .inr _, hD => exact hD.elim
      · cases h
    | [], hS => exact hS.elim
    | [_], hS => exact hS.2.elim
    | [_, _], hS => exact hS.2.2.elim
    | [_, _, _], hS => exact hS.2.2.2.elim
    | [_, _, _, _], hS => exact hS.2.2.2.2.elim
  · cases h
end ANZ
