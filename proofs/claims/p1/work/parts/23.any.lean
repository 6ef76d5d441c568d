theorem an_c0 (c : ClassFile.Cond) (x : Int32) : sm_c0 c x = sm_c2 c x 0 := by cases c <;> rfl
def an_gf (a b pc : Nat) (ls : an_L) (st : List an_S) (Z : an_Z) : Option (List an_G) := match st with
  | .inr (.inl k) :: r => match Z.2.1[k]? with
    | some (.inr o) => cond (Nat.beq o.1 a) (match o.2[b]? with
      | some v => an_k (pc + 3) ls (v :: r) Z
      | none => none) none
    | _ => none
  | _ => none
def an_fit (a b : Nat) (T : an_T) (v : an_S) : Bool := match sm_ft a b, v with
  | .int, .inl _ => true
  | .boolean, .inl x => match an_iv T (.inl x) with
    | some p => ile 0 p.1 && ile p.2 1
    | none => false
  | _, _ => false
def an_pf (a b pc : Nat) (ls : an_L) (st : List an_S) (Z : an_Z) : Option (List an_G) := match st with
  | v :: .inr (.inl k) :: r => match Z.2.1[k]? with
    | some (.inr o) => cond (Nat.beq o.1 a && Nat.blt b o.2.length && an_fit a b Z.1 v) (an_k (pc + 3) ls r (Z.1, Z.2.1.set k (.inr (o.1, o.2.set b v)), Z.2.2)) none
    | _ => none
  | _ => none
def an_al (kd pc : Nat) (ls : an_L) (st : List an_S) (Z : an_Z) : Option (List an_G) := match st with
  | i :: .inr (.inl k) :: r => match Z.2.1[k]?, an_iv Z.1 i with
    | some (.inl g), some p => cond (Nat.beq g.1 kd && ile 0 p.1) (match an_jn g.2 p.1.toNat p.2.toNat with
      | some w => an_ki (pc + 1) ls r Z (some (an_new Z.1 w))
      | none => none) none
    | _, _ => none
  | _ => none
def an_ll (pc : Nat) (ls : an_L) (st : List an_S) (Z : an_Z) : Option (List an_G) := match st with
  | i :: .inr (.inl k) :: r => match Z.2.1[k]?, an_iv Z.1 i with
    | some (.inl g), some p => cond (Nat.beq g.1 1 && ile 0 p.1 && Nat.blt p.2.toNat (an_len g.2)) (an_k (pc + 1) ls (.inr (.inr ()) :: r) Z) none
    | _, _ => none
  | _ => none
def an_as (kd pc : Nat) (ls : an_L) (st : List an_S) (Z : an_Z) : Option (List an_G) := match st with
  | v :: i :: .inr (.inl k) :: r => match Z.2.1[k]?, an_iv Z.1 i, an_iv Z.1 v with
    | some (.inl g), some p, some w => cond (Nat.beq g.1 kd && ile 0 p.1 && an_fa g.2 p.1.toNat p.2.toNat (cond (Nat.beq kd 2) (-128, 127) w)) (an_k (pc + 1) ls r (Z.1, Z.2.1, k :: Z.2.2)) none
    | _, _, _ => none
  | _ => none
def an_lls (pc : Nat) (ls : an_L) (st : List an_S) (Z : an_Z) : Option (List an_G) := match st with
  | .inr (.inr _) :: i :: .inr (.inl k) :: r => match Z.2.1[k]?, an_iv Z.1 i with
    | some (.inl g), some p => cond (Nat.beq g.1 1 && ile 0 p.1 && Nat.blt p.2.toNat (an_len g.2)) (an_k (pc + 1) ls r (Z.1, Z.2.1, k :: Z.2.2)) none
    | _, _ => none
  | _ => none
def an_alen (pc : Nat) (ls : an_L) (st : List an_S) (Z : an_Z) : Option (List an_G) := match st with
  | .inr (.inl k) :: r => match Z.2.1[k]? with
    | some (.inl g) => cond (Nat.blt (an_len g.2) 2147483648 && Nat.blt g.1 3) (an_k (pc + 1) ls (an_c (an_len g.2 : Nat) :: r) Z) none
    | _ => none
  | _ => none
section ANY
variable {ρ : List Int} {h0 hp : sm_H} {Z : an_Z} {ls : an_L} {lc : sm_L} {st : List an_S} {sc : List Value} {pc : Nat} {L : List an_G}
theorem an_gf_go {a b : Nat} (h : an_gf a b pc ls st Z = some L) (hL : an_rL ρ ls lc) (hS : an_rF ρ st sc) (hZ : an_rZ ρ Z h0 hp) : an_Go ρ h0 L (sm_gf sc a b pc lc hp) := by
  unfold an_gf at h
  split at h
  · rename_i k r
    match sc, hS with
    | v :: rc, hS =>
      obtain ⟨hv, hr⟩ := hS
      have hv : v = .ref k := hv
      subst hv
      split at h
      · rename_i o ho
        cases hb : Nat.beq o.1 a with
        | false => rw [hb] at h; cases h
        | true =>
          rw [hb] at h
          have hb := Nat.beq_eq.mp hb
          dsimp only [cond_true] at h
          split at h
          · rename_i w hw
            obtain ⟨d, hd, hc⟩ := an_rH_get hZ.2.1 ho
            match d, hc with
            | .inr p, hc =>
              obtain ⟨h1, h2⟩ := hc
              obtain ⟨u, hu, hvu⟩ := an_rF_get h2 hw
              unfold sm_gf
              dsimp only
              rw [hd]
              dsimp only
              rw [if_pos (by rw [← h1]; exact hb), hu]
              exact an_k_go h hL ⟨hvu, hr⟩ hZ
            | .inl (_, .inl _), hc => exact hc.elim
            | .inl (_, .inr _), hc => exact hc.elim
          · cases h
      · cases h
    | [], hS => exact hS.elim
  · cases h
theorem an_fit_ok {a b : Nat} {v : an_S} {w : Value} (hT : an_rT Z.1 ρ) (hv : an_rv ρ v w) (h : an_fit a b Z.1 v = true) : sm_fit a b w = true := by
  unfold an_fit at h
  split at h
  · rename_i x he
    obtain ⟨y, rfl⟩ := an_isint hv
    unfold sm_fit
    rw [he]
  · rename_i x he
    split at h
    · rename_i p hp
      rw [Bool.and_eq_true, ile_iff, ile_iff] at h
      obtain ⟨y, rfl, h1, h2⟩ := an_iv_ok hT hv hp
      unfold sm_fit
      rw [he]
      have : y = 0 ∨ y = 1 := by
        rcases (show y.toInt = 0 ∨ y.toInt = 1 by omega) with z | z
        · exact Or.inl (Int32.toInt_inj.mp (by rw [z]; rfl))
        · exact Or.inr (Int32.toInt_inj.mp (by rw [z]; rfl))
      exact decide_eq_true this
    · cases h
  · cases h
theorem an_rW_obj {k : Nat} {o : Nat × List Value} (hW : an_rW Z.2.2 h0 hp) (hk : ∃ p, hp[k]? = some (.inr p)) : an_rW Z.2.2 h0 (hp.set k (.inr o)) := fun j c hj hn => by
  obtain ⟨p, hk⟩ := hk
  have h1 := hW j c hj hn
  rw [List.getElem?_set]
  split
  · rename_i e
    subst e
    rw [hk] at h1
    cases h1
  · exact h1
theorem an_rW_arr {k : Nat} {d : sm_C} (hW : an_rW Z.2.2 h0 hp) : an_rW (k :: Z.2.2) h0 (hp.set k d) := fun j c hj hn => by
  have h1 := hW j c hj (fun z => hn (List.mem_cons_of_mem _ z))
  rw [List.getElem?_set, if_neg (fun z => hn (by rw [z]; exact List.mem_cons_self))]
  exact h1
theorem an_pf_go {a b : Nat} (h : an_pf a b pc ls st Z = some L) (hL : an_rL ρ ls lc) (hS : an_rF ρ st sc) (hZ : an_rZ ρ Z h0 hp) : an_Go ρ h0 L (sm_pf sc a b pc lc hp) := by
  unfold an_pf at h
  split at h
  · rename_i v k r
    match sc, hS with
    | w :: u :: rc, hS =>
      obtain ⟨hw, hu, hr⟩ := hS
      have hu : u = .ref k := hu
      subst hu
      split at h
      · rename_i o ho
        cases hb : (Nat.beq o.1 a && Nat.blt b o.2.length && an_fit a b Z.1 v) with
        | false => rw [hb] at h; cases h
        | true =>
          rw [hb] at h
          rw [Bool.and_eq_true, Bool.and_eq_true, Nat.beq_eq, Nat.blt_eq] at hb
          obtain ⟨⟨b1, b2⟩, b3⟩ := hb
          obtain ⟨d, hd, hc⟩ := an_rH_get hZ.2.1 ho
          match d, hc with
          | .inr p, hc =>
            obtain ⟨h1, h2⟩ := hc
            unfold sm_pf
            dsimp only
            rw [hd]
            dsimp only
            rw [if_pos ⟨by rw [← h1]; exact b1, by rw [← an_rF_len h2]; exact b2, an_fit_ok hZ.1 hw b3⟩]
            exact an_k_go h hL hr ⟨hZ.1, an_rH_set k hZ.2.1 ⟨h1, an_rF_set b h2 hw⟩, an_rW_obj hZ.2.2 ⟨p, hd⟩⟩
          | .inl (_, .inl _), hc => exact hc.elim
          | .inl (_, .inr _), hc => exact hc.elim
      · cases h
    | [], hS => exact hS.elim
    | [_], hS => exact hS.2.elim
  · cases h
theorem an_idx {i : Int32} (h : 0 ≤ i.toInt) : ¬ i < 0 ∧ i.toNatClampNeg = i.toInt.toNat := ⟨fun z => by
  have := Int32.lt_iff_toInt_lt.mp z
  have h0 : (0 : Int32).toInt = 0 := rfl
  omega, rfl⟩
theorem an_al_go {kd : Nat} (hkd : kd ≠ 1) (h : an_al kd pc ls st Z = some L) (hL : an_rL ρ ls lc) (hS : an_rF ρ st sc) (hZ : an_rZ ρ Z h0 hp) : an_Go ρ h0 L (sm_al sc kd pc lc hp) := by
  unfold an_al at h
  split at h
  · rename_i i k r
    match sc, hS with
    | w :: u :: rc, hS =>
      obtain ⟨hw, hu, hr⟩ := hS
      have hu : u = .ref k := hu
      subst hu
      split at h
      · rename_i g p hg hp'
        cases hb : (Nat.beq g.1 kd && ile 0 p.1) with
        | false => rw [hb] at h; cases h
        | true =>
          rw [hb] at h
          rw [Bool.and_eq_true, Nat.beq_eq, ile_iff] at hb
          dsimp only [cond_true] at h
          split at h
          · rename_i b hj
            obtain ⟨x, rfl, x1, x2⟩ := an_iv_ok hZ.1 hw hp'
            obtain ⟨d, hd, hc⟩ := an_rH_get hZ.2.1 hg
            obtain ⟨n1, n2⟩ := an_idx (i := x) (by omega)
            obtain ⟨b', e1, e2, e3⟩ := an_jn_ok _ _ _ _ hj x.toInt.toNat (by omega) (by omega)
            match d, hc with
            | .inl (kk, .inl l), hc =>
              obtain ⟨c1, c2, c3⟩ := hc
              have hlt : x.toInt.toNat < l.length := by rw [c3.1]; exact an_at_lt _ _ _ e1
              have hy := List.getElem?_eq_getElem hlt
              have hb2 := c3.2 _ _ _ hy e1
              unfold sm_al
              dsimp only
              rw [hd]
              dsimp only
              rw [if_pos ⟨by rw [← c1]; exact hb.1, n1⟩, n2, hy]
              exact an_ki_go h (an_new_ok hZ.1 (fun _ => by omega)) hL hr hZ
            | .inl (kk, .inr l), hc => exact absurd (by rw [← hb.1, hc.1]; exact hc.2.1) hkd
            | .inr _, hc => exact hc.elim
          · cases h
      · cases h
    | [], hS => exact hS.elim
    | [_], hS => exact hS.2.elim
  · cases h
theorem an_ll_go (h : an_ll pc ls st Z = some L) (hL : an_rL ρ ls lc) (hS : an_rF ρ st sc) (hZ : an_rZ ρ Z h0 hp) : an_Go ρ h0 L (sm_ll sc pc lc hp) := by
  unfold an_ll at h
  split at h
  · rename_i i k r
    match sc, hS with
    | w :: u :: rc, hS =>
      obtain ⟨hw, hu, hr⟩ := hS
      have hu : u = .ref k := hu
      subst hu
      split at h
      · rename_i g p hg hp'
        cases hb : (Nat.beq g.1 1 && ile 0 p.1 && Nat.blt p.2.toNat (an_len g.2)) with
        | false => rw [hb] at h; cases h
        | true =>
          rw [hb] at h
          rw [Bool.and_eq_true, Bool.and_eq_true, Nat.beq_eq, ile_iff, Nat.blt_eq] at hb
          obtain ⟨x, rfl, x1, x2⟩ := an_iv_ok hZ.1 hw hp'
          obtain ⟨d, hd, hc⟩ := an_rH_get hZ.2.1 hg
          obtain ⟨n1, n2⟩ := an_idx (i := x) (by omega)
          match d, hc with
          | .inl (kk, .inr l), hc =>
            obtain ⟨c1, c2, c3⟩ := hc
            have hlt : x.toInt.toNat < l.length := by rw [c3]; omega
            have hy := List.getElem?_eq_getElem hlt
            unfold sm_ll
            dsimp only
            rw [hd]
            dsimp only
            rw [if_pos ⟨c2, n1⟩, n2, hy]
            exact an_k_go h hL ⟨⟨_, rfl⟩, hr⟩ hZ
          | .inl (kk, .inl l), hc => exact absurd (by rw [← hc.1]; exact hb.1.1) hc.2.1
          | .inr _, hc => exact hc.elim
      · cases h
    | [], hS => exact hS.elim
    | [_], hS => exact hS.2.elim
  · cases h
theorem an_rA_set {sg : List (Nat × Int × Int)} {l : List Int32} {n : Nat} {x : Int32} {b : Int × Int} (h : an_rA sg l) (hb : an_at sg n = some b) (h1 : b.1 ≤ x.toInt) (h2 : x.toInt ≤ b.2) : an_rA sg (l.set n x) := ⟨by rw [List.length_set]; exact h.1, fun i y b' hy hb' => by
  rw [List.getElem?_set] at hy
  split at hy
  · rename_i e
    subst e
    split at hy
    · cases hy
      rw [hb] at hb'
      cases hb'
      exact ⟨h1, h2⟩
    · cases hy
  · exact h.2 i y b' hy hb'⟩
theorem an_nar (x : Int32) : (-128 : Int) ≤ (vp_nar .byte x).toInt ∧ (vp_nar .byte x).toInt ≤ 127 := by
  rw [vp_nar_byte, Int8.toInt_toInt32]
  have h1 : -128 ≤ x.toInt8.toInt := by have := Int8.le_toInt x.toInt8; simpa using this
  have h2 : x.toInt8.toInt < 128 := by have := Int8.toInt_lt x.toInt8; simpa using this
  exact ⟨h1, by omega⟩
end ANY
