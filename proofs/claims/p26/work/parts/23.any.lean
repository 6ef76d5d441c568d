theorem an_c0 (c : ClassFile.Cond) (x : Int32) : sm_c0 c x = sm_c2 c x 0 := by cases c <;> rfl
noncomputable def an_gf (a b pc : Nat) (ls : an_L) (st : List an_S) (Z : an_Z) : Option (List an_G) := match st with
  | .inr (.inl k) :: r => match Z.2.1[k]? with
    | some (.inr o) => cond (Nat.beq o.1 a) (match o.2[b]? with
      | some v => an_k (pc + 3) ls (v :: r) Z
      | none => none) none
    | _ => none
  | _ => none
noncomputable def an_fit (a b : Nat) (T : an_T) (v : an_S) : Bool := match sm_ft a b, v with
  | .int, .inl _ => true
  | .boolean, .inl x => match an_iv T (.inl x) with
    | some p => ile 0 p.1 && ile p.2 1
    | none => false
  | _, _ => false
noncomputable def an_pf (a b pc : Nat) (ls : an_L) (st : List an_S) (Z : an_Z) : Option (List an_G) := match st with
  | v :: .inr (.inl k) :: r => match Z.2.1[k]? with
    | some (.inr o) => cond (Nat.beq o.1 a && Nat.blt b o.2.length && an_fit a b Z.1 v) (an_k (pc + 3) ls r (Z.1, Z.2.1.set k (.inr (o.1, o.2.set b v)), Z.2.2)) none
    | _ => none
  | _ => none
/-- one state for each place that is read, where what stands there is known -/
noncomputable def an_fk (sg : List (Nat × Int × Int)) (a : an_S) (pc : Nat) (ls : an_L) (r : List an_S) (Z : an_Z) : Nat → Nat → Option (List an_G)
  | 0, _ => some []
  | c + 1, n => match an_fk sg a pc ls r Z c (n + 1), an_at sg n with
    | some gs, some b => cond (ile b.2 b.1) (match an_eq Z.1 a (an_c (n : Nat)) with
      | some T => some ((pc, ls, an_c b.1 :: r, an_T' Z T) :: gs)
      | none => some gs) none
    | _, _ => none
/-- what was read is kept in mind -/
noncomputable def an_kf (pc : Nat) (ls : an_L) (r : List an_S) (Z : an_Z) (k : Nat) (i : an_S) (o : an_S × an_T) : Option (List an_G) := an_k pc ls (o.1 :: r) (o.2, Z.2.1, Z.2.2.1, cond (an_isn o.1) (.inl (k, i, o.1) :: Z.2.2.2) Z.2.2.2)
noncomputable def an_alk (v : an_S) (kd k pc : Nat) (ls : an_L) (r : List an_S) (Z : an_Z) : Option (List an_G) := match Z.2.1[k]? with
  | some (.inl g) => cond (Nat.beq g.1 kd) (an_k (pc + 1) ls (v :: r) Z) none
  | _ => none
noncomputable def an_al0 (kd pc : Nat) (ls : an_L) (st : List an_S) (Z : an_Z) : Option (List an_G) := match st with
  | i :: .inr (.inl k) :: r => match Z.2.1[k]?, an_iv Z.1 i with
    | some (.inl g), some p => cond (Nat.beq g.1 kd && ile 0 p.1) (match an_jn g.2 p.1.toNat p.2.toNat with
      | some w => cond (ile w.2 w.1 || ile 7 (p.2 - p.1)) (an_kf (pc + 1) ls r Z k i (an_new Z.1 w)) (match an_fk g.2 i (pc + 1) ls r Z (p.2.toNat - p.1.toNat + 1) p.1.toNat with
        | some gs => some gs
        | none => an_kf (pc + 1) ls r Z k i (an_new Z.1 w))
      | none => none) none
    | _, _ => none
  | _ => none
noncomputable def an_al (kd pc : Nat) (ls : an_L) (st : List an_S) (Z : an_Z) : Option (List an_G) := match st with
  | i :: .inr (.inl k) :: r => match an_el k i Z.2.2.2 with
    | some v => an_alk v kd k pc ls r Z
    | none => an_al0 kd pc ls (i :: .inr (.inl k) :: r) Z
  | _ => none
/-- what is known of an array behind a store somewhere from i to j -/
noncomputable def an_us (s : Bool) (v : Int × Int) : List (Nat × Int × Int) → Nat → Nat → List (Nat × Int × Int)
  | [], _, _ => []
  | g :: t, i, j => cond (Nat.blt i g.1) ((g.1, cond (s && Nat.beq g.1 1) v (imin g.2.1 v.1, imax g.2.2 v.2)) :: cond (Nat.blt j g.1) t (an_us s v t 0 (j - g.1))) (g :: an_us s v t (i - g.1) (j - g.1))
noncomputable def an_ll (pc : Nat) (ls : an_L) (st : List an_S) (Z : an_Z) : Option (List an_G) := match st with
  | i :: .inr (.inl k) :: r => match Z.2.1[k]?, an_iv Z.1 i with
    | some (.inl g), some p => cond (Nat.beq g.1 1 && ile 0 p.1 && Nat.blt p.2.toNat (an_len g.2)) (an_k (pc + 1) ls (.inr (.inr ()) :: r) Z) none
    | _, _ => none
  | _ => none
noncomputable def an_as (kd pc : Nat) (ls : an_L) (st : List an_S) (Z : an_Z) : Option (List an_G) := match st with
  | v :: i :: .inr (.inl k) :: r => match Z.2.1[k]?, an_iv Z.1 i, an_iv Z.1 v with
    | some (.inl g), some p, some w => cond (Nat.beq g.1 kd && ile 0 p.1 && an_fa g.2 p.1.toNat p.2.toNat (cond (Nat.beq kd 2) (-128, 127) w)) (an_k (pc + 1) ls r (Z.1, Z.2.1, an_aw k p.1.toNat p.2.toNat ++ Z.2.2.1, an_kill k Z.2.2.2)) (cond (Nat.beq g.1 kd && ile 0 p.1 && Nat.blt p.2.toNat (an_len g.2)) (an_k (pc + 1) ls r (Z.1, Z.2.1.set k (.inl (g.1, an_us (Nat.beq p.1.toNat p.2.toNat) (cond (Nat.beq kd 2) (-128, 127) w) g.2 p.1.toNat p.2.toNat)), an_aw k p.1.toNat p.2.toNat ++ Z.2.2.1, an_kill k Z.2.2.2)) none)
    | _, _, _ => none
  | _ => none
noncomputable def an_lls (pc : Nat) (ls : an_L) (st : List an_S) (Z : an_Z) : Option (List an_G) := match st with
  | .inr (.inr _) :: i :: .inr (.inl k) :: r => match Z.2.1[k]?, an_iv Z.1 i with
    | some (.inl g), some p => cond (Nat.beq g.1 1 && ile 0 p.1 && Nat.blt p.2.toNat (an_len g.2)) (an_k (pc + 1) ls r (Z.1, Z.2.1, k :: Z.2.2.1, an_kill k Z.2.2.2)) none
    | _, _ => none
  | _ => none
noncomputable def an_alen (pc : Nat) (ls : an_L) (st : List an_S) (Z : an_Z) : Option (List an_G) := match st with
  | .inr (.inl k) :: r => match Z.2.1[k]? with
    | some (.inl g) => cond (Nat.blt (an_len g.2) 2147483648 && Nat.blt g.1 3) (an_k (pc + 1) ls (an_c (an_len g.2 : Nat) :: r) Z) none
    | _ => none
  | _ => none
section ANY
variable {ρ : List Int} {h0 hp : sm_H} {Z : an_Z} {ls : an_L} {lc : sm_L} {st : List an_S} {sc : List Value} {pc : Nat} {L : List an_G}
theorem an_gf_go {a b : Nat} (h : an_gf a b pc ls st Z = some L) (hL : an_rL ρ ls lc) (hS : an_rF ρ st sc) (hZ : an_rZ ρ Z h0 hp) : an_Go ρ h0 L (sm_gf sc a b pc lc hp) := by
  unfold an_gf at h
  split at h
  · rename_i k r
    match sc, hS with
    | v :: rc, hS =>
      obtain ⟨hv, hr⟩ := hS
      have hv : v = .ref k := hv
      subst hv
      split at h
      · rename_i o ho
        cases hb : Nat.beq o.1 a with
        | false => rw [hb] at h; cases h
        | true =>
          rw [hb] at h
          have hb := Nat.beq_eq.mp hb
          dsimp only [cond_true] at h
          split at h
          · rename_i w hw
            obtain ⟨d, hd, hc⟩ := an_rH_get hZ.2.1 ho
            match d, hc with
            | .inr p, hc =>
              obtain ⟨h1, h2⟩ := hc
              obtain ⟨u, hu, hvu⟩ := an_rF_get h2 hw
              unfold sm_gf
              dsimp only
              rw [hd]
              dsimp only
              rw [if_pos (by rw [← h1]; exact hb), hu]
              exact an_k_go h hL ⟨hvu, hr⟩ hZ
            | .inl (_, .inl _), hc => exact hc.elim
            | .inl (_, .inr _), hc => exact hc.elim
          · cases h
      · cases h
    | [], hS => exact hS.elim
  · cases h
theorem an_fit_ok {a b : Nat} {v : an_S} {w : Value} (hT : an_rT Z.1 ρ) (hv : an_rv ρ v w) (h : an_fit a b Z.1 v = true) : sm_fit a b w = true := by
  unfold an_fit at h
  split at h
  · rename_i x he
    obtain ⟨y, rfl⟩ := an_isint hv
    unfold sm_fit
    rw [he]
  · rename_i x he
    split at h
    · rename_i p hp
      rw [Bool.and_eq_true, ile_iff, ile_iff] at h
      obtain ⟨y, rfl, h1, h2⟩ := an_iv_ok hT hv hp
      unfold sm_fit
      rw [he]
      have : y = 0 ∨ y = 1 := by
        rcases (show y.toInt = 0 ∨ y.toInt = 1 by omega) with z | z
        · exact Or.inl (Int32.toInt_inj.mp (by rw [z]; rfl))
        · exact Or.inr (Int32.toInt_inj.mp (by rw [z]; rfl))
      exact decide_eq_true this
    · cases h
  · cases h
theorem an_rW_obj {k b : Nat} {o : Nat × List Value} {w : Value} (hW : an_rW Z.2.2.1 h0 hp) (hk : hp[k]? = some (.inr o)) (hg : (!(Nat.beq k 67 && Nat.beq b 17)) = true) : an_rW Z.2.2.1 h0 (hp.set k (.inr (o.1, o.2.set b w))) := ⟨⟨fun j c hj hn => by
  have h1 := hW.1.1 j c hj hn
  rw [List.getElem?_set]
  split
  · rename_i e
    subst e
    rw [hk] at h1
    cases h1
  · exact h1, fun j hj kd l hl => by
  obtain ⟨l', h1, h2⟩ := hW.1.2 j hj kd l hl
  refine ⟨l', ?_, h2⟩
  rw [List.getElem?_set, if_neg (fun e => by rw [e, h1] at hk; cases hk)]
  exact h1⟩, an_rP_tr hW.2 (an_rP_obj hk hg)⟩
theorem an_rW_arr {k : Nat} {c c' : Nat × (List Int32 ⊕ List Int64)} (hk : hp[k]? = some (.inl c)) (hg : an_prc k = false) (hi : an_is k = false ∨ ∃ (kd : Nat) (y : List Int64), c = (kd, .inr y)) (hW : an_rW Z.2.2.1 h0 hp) : an_rW (k :: Z.2.2.1) h0 (hp.set k (.inl c')) := ⟨⟨fun j c hj hn => by
  have h1 := hW.1.1 j c hj (fun z => hn (List.mem_cons_of_mem _ z))
  rw [List.getElem?_set, if_neg (fun z => hn (by rw [z]; exact List.mem_cons_self))]
  exact h1, fun j hj kd l hl => by
  obtain ⟨l', h1, h2⟩ := hW.1.2 j hj kd l hl
  refine ⟨l', ?_, fun i hi => h2 i (fun z => hi (List.mem_cons_of_mem _ z))⟩
  rw [List.getElem?_set, if_neg (fun e => ?_)]
  · exact h1
  · subst e
    rcases hi with hi | ⟨kd', y, rfl⟩
    · rw [hj] at hi; cases hi
    · rw [h1] at hk; cases hk⟩, an_rP_tr hW.2 (an_rP_arr hk hg)⟩
theorem an_rW_as {k kd i lo hi : Nat} {l : List Int32} {v : Int32} (hk : hp[k]? = some (.inl (kd, .inl l))) (hg : an_prc k = false) (h1 : lo ≤ i) (h2 : i ≤ hi) (hW : an_rW Z.2.2.1 h0 hp) : an_rW (an_aw k lo hi ++ Z.2.2.1) h0 (hp.set k (.inl (kd, .inl (l.set i v)))) := ⟨⟨fun j c hj hn => by
  have g1 := hW.1.1 j c hj (fun z => hn (List.mem_append_right _ z))
  rw [List.getElem?_set, if_neg (fun z => hn (List.mem_append_left _ (by rw [← z]; exact an_aw_k)))]
  exact g1, fun j hj kd' l0 hl => by
  obtain ⟨l', g1, g2⟩ := hW.1.2 j hj kd' l0 hl
  by_cases e : k = j
  · subst e
    rw [hk] at g1
    cases g1
    refine ⟨l.set i v, ?_, fun q hq => ?_⟩
    · rw [List.getElem?_set, if_pos rfl, if_pos (List.getElem?_eq_some_iff.mp hk).1]
    · rw [List.getElem?_set, if_neg (fun z => hq (List.mem_append_left _ (by rw [← z]; exact an_aw_c hj h1 h2)))]
      exact g2 q (fun z => hq (List.mem_append_right _ z))
  · refine ⟨l', ?_, fun q hq => g2 q (fun z => hq (List.mem_append_right _ z))⟩
    rw [List.getElem?_set, if_neg e]
    exact g1⟩, an_rP_tr hW.2 (an_rP_arr hk hg)⟩
theorem an_guard_ok {v i : an_S} {k : Nat} {r : List an_S} (h : an_guard (v :: i :: .inr (.inl k) :: r) = true) : an_prc k = false := by
  have h : (!an_prc k) = true := h
  rw [Bool.not_eq_true'] at h
  exact h
theorem an_pf_go {a b : Nat} (hg : an_gp b st = true) (h : an_pf a b pc ls st Z = some L) (hL : an_rL ρ ls lc) (hS : an_rF ρ st sc) (hZ : an_rZ ρ Z h0 hp) : an_Go ρ h0 L (sm_pf sc a b pc lc hp) := by
  unfold an_pf at h
  split at h
  · rename_i v k r
    match sc, hS with
    | w :: u :: rc, hS =>
      obtain ⟨hw, hu, hr⟩ := hS
      have hu : u = .ref k := hu
      subst hu
      split at h
      · rename_i o ho
        cases hb : (Nat.beq o.1 a && Nat.blt b o.2.length && an_fit a b Z.1 v) with
        | false => rw [hb] at h; cases h
        | true =>
          rw [hb] at h
          rw [Bool.and_eq_true, Bool.and_eq_true, Nat.beq_eq, Nat.blt_eq] at hb
          obtain ⟨⟨b1, b2⟩, b3⟩ := hb
          obtain ⟨d, hd, hc⟩ := an_rH_get hZ.2.1 ho
          match d, hc with
          | .inr p, hc =>
            obtain ⟨h1, h2⟩ := hc
            unfold sm_pf
            dsimp only
            rw [hd]
            dsimp only
            rw [if_pos ⟨by rw [← h1]; exact b1, by rw [← an_rF_len h2]; exact b2, an_fit_ok hZ.1 hw b3⟩]
            exact an_k_go h hL hr ⟨hZ.1, an_rH_set k hZ.2.1 ⟨h1, an_rF_set b h2 hw⟩, an_rW_obj hZ.2.2.1 hd hg, an_rM_obj hZ.2.2.2 ⟨p, hd⟩⟩
          | .inl (_, .inl _), hc => exact hc.elim
          | .inl (_, .inr _), hc => exact hc.elim
      · cases h
    | [], hS => exact hS.elim
    | [_], hS => exact hS.2.elim
  · cases h
theorem an_idx {i : Int32} (h : 0 ≤ i.toInt) : ¬ i < 0 ∧ i.toNatClampNeg = i.toInt.toNat := ⟨fun z => by
  have := Int32.lt_iff_toInt_lt.mp z
  have h0 : (0 : Int32).toInt = 0 := rfl
  omega, rfl⟩
theorem an_fk_ok {sg : List (Nat × Int × Int)} {a : an_S} {x : Int32} {r : List an_S} {rc : List Value} {l : List Int32} (ha : an_rv ρ a (.int x)) (hx : 0 ≤ x.toInt) (hA : an_rA sg l) (hL : an_rL ρ ls lc) (hS : an_rF ρ r rc) (hZ : an_rZ ρ Z h0 hp) : ∀ (c n : Nat) (L : List an_G), an_fk sg a pc ls r Z c n = some L → n ≤ x.toInt.toNat → x.toInt.toNat < n + c → ∃ y, l[x.toInt.toNat]? = some y ∧ an_Go ρ h0 L (sm_n pc lc (.int y :: rc) hp) := by
  intro c
  induction c with
  | zero => intro n L _ h1 h2; omega
  | succ c ih =>
    intro n L h h1 h2
    unfold an_fk at h
    split at h
    · rename_i gs b hgs hb
      cases hs : ile b.2 b.1 with
      | false => rw [hs] at h; cases h
      | true =>
        rw [hs] at h
        rw [ile_iff] at hs
        dsimp only [cond_true] at h
        by_cases e : x.toInt.toNat = n
        · have hlt : x.toInt.toNat < l.length := by rw [hA.1, e]; exact an_at_lt _ _ _ hb
          have hy := List.getElem?_eq_getElem hlt
          have hb2 := hA.2 _ _ _ hy (by rw [e]; exact hb)
          obtain ⟨T, e1, e2⟩ := an_eq_ok hZ.1 ha (show an_rv ρ (an_c x.toInt) (.int x) from ⟨x, rfl, rfl⟩) rfl
          have e3 : ((n : Nat) : Int) = x.toInt := by omega
          rw [e3, e1] at h
          cases h
          refine ⟨_, hy, (pc, lc, .int _ :: rc, hp), rfl, _, List.mem_cons_self, [], rfl, by simpa using hL, ?_, ?_⟩
          · simp only [List.append_nil]
            exact ⟨⟨_, rfl, by omega⟩, hS⟩
          · exact an_rZ_T (e := []) hZ (by simpa using e2)
        · obtain ⟨y, g1, f, g2, g, g3, g4⟩ := ih (n + 1) gs hgs (by omega) (by omega)
          refine ⟨y, g1, f, g2, g, ?_, g4⟩
          split at h
          · cases h; exact List.mem_cons_of_mem _ g3
          · cases h; exact g3
    · cases h
theorem an_us_len (s : Bool) (v : Int × Int) : ∀ (sg : List (Nat × Int × Int)) (i j : Nat), an_len (an_us s v sg i j) = an_len sg := by
  intro sg
  induction sg with
  | nil => intro i j; rfl
  | cons g t ih =>
    intro i j
    unfold an_us
    cases Nat.blt i g.1 with
    | true =>
      cases Nat.blt j g.1 with
      | true => rfl
      | false => show g.1 + an_len (an_us s v t 0 (j - g.1)) = g.1 + an_len t; rw [ih]
    | false => show g.1 + an_len (an_us s v t (i - g.1) (j - g.1)) = g.1 + an_len t; rw [ih]
theorem an_us_w (v : Int × Int) : ∀ (sg : List (Nat × Int × Int)) (i j m : Nat) (b' : Int × Int), an_at (an_us false v sg i j) m = some b' → (∃ b, an_at sg m = some b ∧ b'.1 ≤ b.1 ∧ b.2 ≤ b'.2) ∧ (i ≤ m → m ≤ j → b'.1 ≤ v.1 ∧ v.2 ≤ b'.2) := by
  intro sg
  induction sg with
  | nil => intro i j m b' h; cases h
  | cons g t ih =>
    intro i j m b' h
    unfold an_us at h
    have m1 := imin_le (a := g.2.1) (b := v.1)
    have m2 := le_imax (a := g.2.2) (b := v.2)
    cases hi : Nat.blt i g.1 with
    | true =>
      rw [hi] at h
      have hi := Nat.blt_eq.mp hi
      dsimp only [cond_true, Bool.false_and, cond_false] at h
      unfold an_at at h
      cases hm : Nat.blt m g.1 with
      | true =>
        dsimp only at h
        rw [hm] at h
        cases h
        exact ⟨⟨g.2, by rw [an_at, hm]; rfl, m1.1, m2.1⟩, fun _ _ => ⟨m1.2, m2.2⟩⟩
      | false =>
        dsimp only at h
        rw [hm] at h
        have hm' := an_blt_f hm
        dsimp only [cond_false] at h
        have ea : an_at (g :: t) m = an_at t (m - g.1) := by rw [an_at, hm]; rfl
        rw [ea]
        cases hj : Nat.blt j g.1 with
        | true =>
          rw [hj] at h
          have hj := Nat.blt_eq.mp hj
          exact ⟨⟨b', h, Int.le_refl _, Int.le_refl _⟩, fun _ _ => by omega⟩
        | false =>
          rw [hj] at h
          obtain ⟨k1, k2⟩ := ih 0 (j - g.1) (m - g.1) b' h
          exact ⟨k1, fun _ _ => k2 (by omega) (by omega)⟩
    | false =>
      rw [hi] at h
      have hi := an_blt_f hi
      dsimp only [cond_false] at h
      unfold an_at at h
      cases hm : Nat.blt m g.1 with
      | true =>
        rw [hm] at h
        have hm' := Nat.blt_eq.mp hm
        cases h
        exact ⟨⟨g.2, by rw [an_at, hm]; rfl, Int.le_refl _, Int.le_refl _⟩, fun _ _ => by omega⟩
      | false =>
        rw [hm] at h
        have hm' := an_blt_f hm
        have ea : an_at (g :: t) m = an_at t (m - g.1) := by rw [an_at, hm]; rfl
        rw [ea]
        obtain ⟨k1, k2⟩ := ih (i - g.1) (j - g.1) (m - g.1) b' h
        exact ⟨k1, fun _ _ => k2 (by omega) (by omega)⟩
theorem an_us_s (v : Int × Int) : ∀ (sg : List (Nat × Int × Int)) (n m : Nat) (b' : Int × Int), an_at (an_us true v sg n n) m = some b' → (m ≠ n → ∃ b, an_at sg m = some b ∧ b'.1 ≤ b.1 ∧ b.2 ≤ b'.2) ∧ (m = n → b'.1 ≤ v.1 ∧ v.2 ≤ b'.2) := by
  intro sg
  induction sg with
  | nil => intro n m b' h; cases h
  | cons g t ih =>
    intro n m b' h
    unfold an_us at h
    have m1 := imin_le (a := g.2.1) (b := v.1)
    have m2 := le_imax (a := g.2.2) (b := v.2)
    cases hi : Nat.blt n g.1 with
    | true =>
      rw [hi] at h
      have hi := Nat.blt_eq.mp hi
      dsimp only [cond_true, Bool.true_and] at h
      unfold an_at at h
      cases hm : Nat.blt m g.1 with
      | true =>
        dsimp only at h
        rw [hm] at h
        have hm' := Nat.blt_eq.mp hm
        cases hs : Nat.beq g.1 1 with
        | true =>
          rw [hs] at h
          rw [Nat.beq_eq] at hs
          cases h
          exact ⟨fun z => absurd (show m = n by omega) z, fun _ => ⟨Int.le_refl _, Int.le_refl _⟩⟩
        | false =>
          rw [hs] at h
          cases h
          exact ⟨fun _ => ⟨g.2, by rw [an_at, hm]; rfl, m1.1, m2.1⟩, fun _ => ⟨m1.2, m2.2⟩⟩
      | false =>
        dsimp only at h
        rw [hm] at h
        have hm' := an_blt_f hm
        have ea : an_at (g :: t) m = an_at t (m - g.1) := by rw [an_at, hm]; rfl
        rw [ea]
        exact ⟨fun _ => ⟨b', h, Int.le_refl _, Int.le_refl _⟩, fun z => by omega⟩
    | false =>
      rw [hi] at h
      have hi := an_blt_f hi
      dsimp only [cond_false] at h
      unfold an_at at h
      cases hm : Nat.blt m g.1 with
      | true =>
        rw [hm] at h
        have hm' := Nat.blt_eq.mp hm
        cases h
        exact ⟨fun _ => ⟨g.2, by rw [an_at, hm]; rfl, Int.le_refl _, Int.le_refl _⟩, fun z => by omega⟩
      | false =>
        rw [hm] at h
        have hm' := an_blt_f hm
        have ea : an_at (g :: t) m = an_at t (m - g.1) := by rw [an_at, hm]; rfl
        rw [ea]
        obtain ⟨k1, k2⟩ := ih (n - g.1) (m - g.1) b' h
        exact ⟨fun z => k1 (by omega), fun z => k2 (by omega)⟩
theorem an_us_ok {sg : List (Nat × Int × Int)} {l : List Int32} {i j n : Nat} {v : Int × Int} {x : Int32} (h : an_rA sg l) (h1 : i ≤ n) (h2 : n ≤ j) (h3 : v.1 ≤ x.toInt) (h4 : x.toInt ≤ v.2) : an_rA (an_us (Nat.beq i j) v sg i j) (l.set n x) := ⟨by rw [List.length_set, an_us_len]; exact h.1, fun m y b' hy hb => by
  have key : (m ≠ n → ∃ b, an_at sg m = some b ∧ b'.1 ≤ b.1 ∧ b.2 ≤ b'.2) ∧ (m = n → b'.1 ≤ v.1 ∧ v.2 ≤ b'.2) := by
    cases e : Nat.beq i j with
    | true =>
      rw [e] at hb
      have e := Nat.beq_eq.mp e
      obtain rfl : i = n := by omega
      subst e
      exact an_us_s v sg i m b' hb
    | false =>
      rw [e] at hb
      obtain ⟨k1, k2⟩ := an_us_w v sg i j m b' hb
      exact ⟨fun _ => k1, fun z => k2 (by omega) (by omega)⟩
  rw [List.getElem?_set] at hy
  split at hy
  · rename_i e
    split at hy
    · cases hy
      have := key.2 e.symm
      omega
    · cases hy
  · rename_i e
    obtain ⟨b, k1, k2, k3⟩ := key.1 (fun z => e z.symm)
    have := h.2 m y b hy k1
    omega⟩
theorem an_kf_go {pc' k : Nat} {i : an_S} {x y : Int32} {kd : Nat} {l : List Int32} {o : an_S × an_T} {r : List an_S} {rc : List Value} (h : an_kf pc' ls r Z k i o = some L) (ho : ∃ e : List Int, an_rT o.2 (ρ ++ e) ∧ an_rv (ρ ++ e) o.1 (.int y)) (hk : hp[k]? = some (.inl (kd, .inl l))) (hi : an_rv ρ i (.int x)) (hx : 0 ≤ x.toInt) (hy : l[x.toInt.toNat]? = some y) (hL : an_rL ρ ls lc) (hS : an_rF ρ r rc) (hZ : an_rZ ρ Z h0 hp) : an_Go ρ h0 L (sm_n pc' lc (.int y :: rc) hp) := by
  cases h
  obtain ⟨e, h1, h2⟩ := ho
  refine ⟨(pc', lc, .int y :: rc, hp), rfl, _, List.mem_singleton.mpr rfl, e, rfl, an_rL_ext e hL, ⟨h2, an_rF_ext e hS⟩, h1, an_rH_ext e hZ.2.1, hZ.2.2.1, ?_⟩
  exact an_rM_cond ⟨kd, l, x, y, hk, an_rv_ext e hi, hx, hy, h2⟩ (an_rM_ext e hZ.2.2.2)
theorem an_al0_go {kd : Nat} (hkd : kd ≠ 1) (h : an_al0 kd pc ls st Z = some L) (hL : an_rL ρ ls lc) (hS : an_rF ρ st sc) (hZ : an_rZ ρ Z h0 hp) : an_Go ρ h0 L (sm_al sc kd pc lc hp) := by
  unfold an_al0 at h
  split at h
  · rename_i i k r
    match sc, hS with
    | w :: u :: rc, hS =>
      obtain ⟨hw, hu, hr⟩ := hS
      have hu : u = .ref k := hu
      subst hu
      split at h
      · rename_i g p hg hp'
        cases hb : (Nat.beq g.1 kd && ile 0 p.1) with
        | false => rw [hb] at h; cases h
        | true =>
          rw [hb] at h
          rw [Bool.and_eq_true, Nat.beq_eq, ile_iff] at hb
          dsimp only [cond_true] at h
          split at h
          · rename_i b hj
            obtain ⟨x, rfl, x1, x2⟩ := an_iv_ok hZ.1 hw hp'
            obtain ⟨d, hd, hc⟩ := an_rH_get hZ.2.1 hg
            obtain ⟨n1, n2⟩ := an_idx (i := x) (by omega)
            obtain ⟨b', e1, e2, e3⟩ := an_jn_ok _ _ _ _ hj x.toInt.toNat (by omega) (by omega)
            match d, hc with
            | .inl (kk, .inl l), hc =>
              obtain ⟨c1, c2, c3⟩ := hc
              have hlt : x.toInt.toNat < l.length := by rw [c3.1]; exact an_at_lt _ _ _ e1
              have hy := List.getElem?_eq_getElem hlt
              have hb2 := c3.2 _ _ _ hy e1
              unfold sm_al
              dsimp only
              rw [hd]
              dsimp only
              rw [if_pos ⟨by rw [← c1]; exact hb.1, n1⟩, n2, hy]
              have old : ∀ L, an_kf (pc + 1) ls r Z k i (an_new Z.1 b) = some L → an_Go ρ h0 L (sm_n (pc + 1) lc (.int l[x.toInt.toNat] :: rc) hp) := fun L h => an_kf_go h (an_new_ok hZ.1 (fun _ => by omega)) hd hw (by omega) hy hL hr hZ
              cases hq : (ile b.2 b.1 || ile 7 (p.2 - p.1)) with
              | true => rw [hq] at h; exact old L h
              | false =>
                rw [hq] at h
                dsimp only [cond_false] at h
                split at h
                · rename_i gs hgs
                  cases h
                  obtain ⟨y, g1, g2⟩ := an_fk_ok hw (by omega) c3 hL hr hZ _ _ _ hgs (by omega) (by omega)
                  rw [hy] at g1
                  cases g1
                  exact g2
                · exact old L h
            | .inl (kk, .inr l), hc => exact absurd (by rw [← hb.1, hc.1]; exact hc.2.1) hkd
            | .inr _, hc => exact hc.elim
          · cases h
      · cases h
    | [], hS => exact hS.elim
    | [_], hS => exact hS.2.elim
  · cases h
theorem an_al_go {kd : Nat} (hkd : kd ≠ 1) (h : an_al kd pc ls st Z = some L) (hL : an_rL ρ ls lc) (hS : an_rF ρ st sc) (hZ : an_rZ ρ Z h0 hp) : an_Go ρ h0 L (sm_al sc kd pc lc hp) := by
  unfold an_al at h
  split at h
  · rename_i i k r
    split at h
    · rename_i v hv
      obtain ⟨kd', l, x, y, h1, h2, h3, h4, h5⟩ := an_el_ok hZ.2.2.2 hv
      dsimp only at h1 h2 h4 h5
      unfold an_alk at h
      split at h
      · rename_i g hg
        cases hb : Nat.beq g.1 kd with
        | false => rw [hb] at h; cases h
        | true =>
          rw [hb] at h
          rw [Nat.beq_eq] at hb
          match sc, hS with
          | w :: u :: rc, hS =>
            obtain ⟨hw, hu, hr⟩ := hS
            have hu : u = .ref k := hu
            subst hu
            obtain ⟨d, hd, hc⟩ := an_rH_get hZ.2.1 hg
            rw [h1] at hd
            cases hd
            have hkk : kd' = kd := by rw [← hc.1]; exact hb
            obtain ⟨n1, n2⟩ := an_idx (i := x) h3
            have hwx : w = .int x := by
              match i, h2, hw with
              | .inl (none, c), ⟨x', e, g1⟩, ⟨y', e', g2⟩ => cases e; rw [e']; exact congrArg _ (Int32.toInt_inj.mp (by rw [g1, g2]))
              | .inl (some s, c), ⟨x', r', e, g1, g2⟩, ⟨y', r'', e', g3, g4⟩ =>
                cases e
                rw [g1] at g3
                cases g3
                rw [e']
                exact congrArg _ (Int32.toInt_inj.mp (by rw [g2, g4]))
              | .inr (.inl _), h2, _ => cases h2
              | .inr (.inr _), ⟨_, h2⟩, _ => cases h2
            subst hwx
            unfold sm_al
            dsimp only
            rw [h1]
            dsimp only
            rw [if_pos ⟨hkk, n1⟩, n2, h4]
            exact an_k_go h hL ⟨h5, hr⟩ hZ
          | [], hS => exact hS.elim
          | [_], hS => exact hS.2.elim
      · cases h
    · exact an_al0_go hkd h hL hS hZ
  · cases h
theorem an_ll_go (h : an_ll pc ls st Z = some L) (hL : an_rL ρ ls lc) (hS : an_rF ρ st sc) (hZ : an_rZ ρ Z h0 hp) : an_Go ρ h0 L (sm_ll sc pc lc hp) := by
  unfold an_ll at h
  split at h
  · rename_i i k r
    match sc, hS with
    | w :: u :: rc, hS =>
      obtain ⟨hw, hu, hr⟩ := hS
      have hu : u = .ref k := hu
      subst hu
      split at h
      · rename_i g p hg hp'
        cases hb : (Nat.beq g.1 1 && ile 0 p.1 && Nat.blt p.2.toNat (an_len g.2)) with
        | false => rw [hb] at h; cases h
        | true =>
          rw [hb] at h
          rw [Bool.and_eq_true, Bool.and_eq_true, Nat.beq_eq, ile_iff, Nat.blt_eq] at hb
          obtain ⟨x, rfl, x1, x2⟩ := an_iv_ok hZ.1 hw hp'
          obtain ⟨d, hd, hc⟩ := an_rH_get hZ.2.1 hg
          obtain ⟨n1, n2⟩ := an_idx (i := x) (by omega)
          match d, hc with
          | .inl (kk, .inr l), hc =>
            obtain ⟨c1, c2, c3⟩ := hc
            have hlt : x.toInt.toNat < l.length := by rw [c3]; omega
            have hy := List.getElem?_eq_getElem hlt
            unfold sm_ll
            dsimp only
            rw [hd]
            dsimp only
            rw [if_pos ⟨c2, n1⟩, n2, hy]
            exact an_k_go h hL ⟨⟨_, rfl⟩, hr⟩ hZ
          | .inl (kk, .inl l), hc => exact absurd (by rw [← hc.1]; exact hb.1.1) hc.2.1
          | .inr _, hc => exact hc.elim
      · cases h
    | [], hS => exact hS.elim
    | [_], hS => exact hS.2.elim
  · cases h
theorem an_rA_set {sg : List (Nat × Int × Int)} {l : List Int32} {n : Nat} {x : Int32} {b : Int × Int} (h : an_rA sg l) (hb : an_at sg n = some b) (h1 : b.1 ≤ x.toInt) (h2 : x.toInt ≤ b.2) : an_rA sg (l.set n x) := ⟨by rw [List.length_set]; exact h.1, fun i y b' hy hb' => by
  rw [List.getElem?_set] at hy
  split at hy
  · rename_i e
    subst e
    split at hy
    · cases hy
      rw [hb] at hb'
      cases hb'
      exact ⟨h1, h2⟩
    · cases hy
  · exact h.2 i y b' hy hb'⟩
theorem an_nar (x : Int32) : (-128 : Int) ≤ (vp_nar .byte x).toInt ∧ (vp_nar .byte x).toInt ≤ 127 := by
  rw [vp_nar_byte, Int8.toInt_toInt32]
  have h1 : -128 ≤ x.toInt8.toInt := by have := Int8.le_toInt x.toInt8; simpa using this
  have h2 : x.toInt8.toInt < 128 := by have := Int8.toInt_lt x.toInt8; simpa using this
  exact ⟨h1, by omega⟩
end ANY
