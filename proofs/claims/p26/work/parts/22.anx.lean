/-! an instruction, by the analyst: what may come next -/
abbrev an_G : Type := Nat × an_L × List an_S × an_Z
noncomputable def an_k (pc : Nat) (ls : an_L) (st : List an_S) (Z : an_Z) : Option (List an_G) := some [(pc, ls, st, Z)]
noncomputable def an_T' (Z : an_Z) (T : an_T) : an_Z := (T, Z.2)
noncomputable def an_ki (pc : Nat) (ls : an_L) (st : List an_S) (Z : an_Z) (o : Option (an_S × an_T)) : Option (List an_G) := match o with
  | some q => an_k pc ls (q.1 :: st) (an_T' Z q.2)
  | none => none
noncomputable def an_kl (pc : Nat) (o : Option an_L) (st : List an_S) (Z : an_Z) : Option (List an_G) := match o with
  | some ls => an_k pc ls st Z
  | none => none
noncomputable def an_c (c : Int) : an_S := .inl (none, c)
noncomputable def an_ld (ls : an_L) (i : Nat) : Option an_S := match ls[i]? with
  | some (some a) => some a
  | _ => none
/-- two numbers that are known -/
noncomputable def an_fold (f : Int32 → Int32 → Option Value) (a b : an_S) : Option Int := match a, b with
  | .inl (none, x), .inl (none, y) => match f (Int32.ofInt x) (Int32.ofInt y) with
    | some (.int z) => some z.toInt
    | _ => none
  | _, _ => none
noncomputable def an_op2 (f : Int32 → Int32 → Option Value) (bd : an_B) (pc : Nat) (ls : an_L) (st : List an_S) (Z : an_Z) : Option (List an_G) := match st with
  | b :: a :: r => match an_fold f a b with
    | some z => an_k (pc + 1) ls (an_c z :: r) Z
    | none => match an_iv Z.1 a, an_iv Z.1 b with
      | some p, some q => match bd p q with
        | some w => an_ki (pc + 1) ls r Z (some (an_new Z.1 w))
        | none => none
      | _, _ => none
  | _ => none
noncomputable def an_ism1 (b : an_S) : Bool := match b with
  | .inl (none, c) => ile c (-1) && ile (-1) c
  | _ => false
noncomputable def an_and (pc : Nat) (ls : an_L) (st : List an_S) (Z : an_Z) : Option (List an_G) := match st with
  | b :: .inl a :: r => cond (an_ism1 b) (an_k (pc + 1) ls (.inl a :: r) Z) (an_op2 (fun x y => some (.int (x &&& y))) an_band pc ls (b :: .inl a :: r) Z)
  | _ => none
noncomputable def an_add2 (f : an_T → an_S → an_S → Option (an_S × an_T)) (pc : Nat) (ls : an_L) (st : List an_S) (Z : an_Z) : Option (List an_G) := match st with
  | b :: a :: r => an_ki (pc + 1) ls r Z (f Z.1 a b)
  | _ => none
noncomputable def an_ldk (knd d i pc : Nat) (ls : an_L) (st : List an_S) (Z : an_Z) : Option (List an_G) := match an_ld ls i, knd with
  | some (.inl a), 0 => an_k (pc + d) ls (.inl a :: st) Z
  | some (.inr (.inl a)), 1 => an_k (pc + d) ls (.inr (.inl a) :: st) Z
  | some (.inr (.inr a)), 2 => an_k (pc + d) ls (.inr (.inr a) :: st) Z
  | _, _ => none
noncomputable def an_stk (knd d i pc : Nat) (ls : an_L) (st : List an_S) (Z : an_Z) : Option (List an_G) := match st, knd with
  | .inl a :: r, 0 => an_kl (pc + d) (an_st1 ls i (.inl a)) r Z
  | .inr (.inl a) :: r, 1 => an_kl (pc + d) (an_st1 ls i (.inr (.inl a))) r Z
  | .inr (.inr a) :: r, 2 => an_kl (pc + d) (an_st2 ls i (.inr (.inr a))) r Z
  | _, _ => none
noncomputable def an_inc (i : Nat) (n : Int) (pc : Nat) (ls : an_L) (st : List an_S) (Z : an_Z) : Option (List an_G) := match an_ld ls i with
  | some (.inl a) => match an_add Z.1 (.inl a) (an_c (Int32.ofInt n).toInt) with
    | some q => an_kl (pc + 3) (an_st1 ls i q.1) st (an_T' Z q.2)
    | none => none
  | _ => none
noncomputable def an_two (T : an_T) (c : ClassFile.Cond) (a b : an_S) (tg pc : Nat) (ls : an_L) (st : List an_S) (Z : an_Z) : Option (List an_G) := match an_iv T a, an_iv T b with
  | some _, some _ => some (cond (an_no c a b Z.2.2.2) [] (match an_br T c a b with
      | some T1 => [(tg, ls, st, (T1, Z.2.1, Z.2.2.1, an_nf c a b Z.2.2.2))]
      | none => []) ++ cond (an_no (an_neg c) a b Z.2.2.2) [] (match an_br T (an_neg c) a b with
      | some T1 => [(pc + 3, ls, st, (T1, Z.2.1, Z.2.2.1, an_nf (an_neg c) a b Z.2.2.2))]
      | none => []))
  | _, _ => none
noncomputable def an_if (c : ClassFile.Cond) (tg pc : Nat) (ls : an_L) (st : List an_S) (Z : an_Z) : Option (List an_G) := match st with
  | a :: r => an_two Z.1 c a (an_c 0) tg pc ls r Z
  | _ => none
noncomputable def an_icmp (c : ClassFile.Cond) (tg pc : Nat) (ls : an_L) (st : List an_S) (Z : an_Z) : Option (List an_G) := match st with
  | b :: a :: r => an_two Z.1 c a b tg pc ls r Z
  | _ => none
section ANX
variable {ρ : List Int} {h0 hp : sm_H} {Z : an_Z} {ls : an_L} {lc : sm_L} {st : List an_S} {sc : List Value} {pc : Nat} {L : List an_G} {r0 : Option sm_R}
/-- the machine goes on as one of these -/
noncomputable def an_Go (ρ : List Int) (h0 : sm_H) (L : List an_G) (r : Option sm_R) : Prop := ∃ f : Nat × sm_L × List Value × sm_H, r = some (.inl (f.1, f.2.1, f.2.2.1, f.2.2.2, 0, 0)) ∧ ∃ g ∈ L, ∃ e : List Int, g.1 = f.1 ∧ an_rL (ρ ++ e) g.2.1 f.2.1 ∧ an_rF (ρ ++ e) g.2.2.1 f.2.2.1 ∧ an_rZ (ρ ++ e) g.2.2.2 h0 f.2.2.2
theorem an_k_go {pc' : Nat} {st' : List an_S} {sc' : List Value} (h : an_k pc' ls st' Z = some L) (hL : an_rL ρ ls lc) (hS : an_rF ρ st' sc') (hZ : an_rZ ρ Z h0 hp) : an_Go ρ h0 L (sm_n pc' lc sc' hp) := by
  cases h
  exact ⟨(pc', lc, sc', hp), rfl, _, List.mem_singleton.mpr rfl, [], rfl, by simpa using hL, by simpa using hS, by simpa using hZ⟩
theorem an_rZ_T {T : an_T} {e : List Int} (hZ : an_rZ ρ Z h0 hp) (hT : an_rT T (ρ ++ e)) : an_rZ (ρ ++ e) (an_T' Z T) h0 hp := ⟨hT, an_rH_ext e hZ.2.1, hZ.2.2.1, an_rM_ext e hZ.2.2.2⟩
theorem an_ki_go {pc' : Nat} {o : an_S × an_T} {v : Value} {r : List an_S} {rc : List Value} (h : an_ki pc' ls r Z (some o) = some L) (ho : ∃ e : List Int, an_rT o.2 (ρ ++ e) ∧ an_rv (ρ ++ e) o.1 v) (hL : an_rL ρ ls lc) (hS : an_rF ρ r rc) (hZ : an_rZ ρ Z h0 hp) : an_Go ρ h0 L (sm_n pc' lc (v :: rc) hp) := by
  cases h
  obtain ⟨e, h1, h2⟩ := ho
  exact ⟨(pc', lc, v :: rc, hp), rfl, _, List.mem_singleton.mpr rfl, e, rfl, an_rL_ext e hL, ⟨h2, an_rF_ext e hS⟩, an_rZ_T hZ h1⟩
theorem an_fold_ok {f : Int32 → Int32 → Option Value} {a b : an_S} {x y : Int32} {z : Int} (ha : an_rv ρ a (.int x)) (hb : an_rv ρ b (.int y)) (h : an_fold f a b = some z) : ∃ w : Int32, f x y = some (.int w) ∧ w.toInt = z := by
  unfold an_fold at h
  split at h
  · rename_i c d
    obtain ⟨x', e1, h1⟩ := ha
    obtain ⟨y', e2, h2⟩ := hb
    cases e1
    cases e2
    rw [← h1, ← h2, Int32.ofInt_toInt, Int32.ofInt_toInt] at h
    split at h
    · rename_i w hw
      cases h
      exact ⟨w, hw, rfl⟩
    · cases h
  · cases h
theorem an_fold_int {f : Int32 → Int32 → Option Value} {a b : an_S} {z : Int} (h : an_fold f a b = some z) : (∃ c, a = .inl (none, c)) ∧ (∃ c, b = .inl (none, c)) := by
  unfold an_fold at h
  split at h
  · exact ⟨⟨_, rfl⟩, ⟨_, rfl⟩⟩
  · cases h
theorem an_op2_go {bd : an_B} {f : Int32 → Int32 → Option Value} (hbd : an_BO bd f) (h : an_op2 f bd pc ls st Z = some L) (hL : an_rL ρ ls lc) (hS : an_rF ρ st sc) (hZ : an_rZ ρ Z h0 hp) : an_Go ρ h0 L (sm_i2 sc f pc lc hp) := by
  unfold an_op2 at h
  split at h
  · rename_i b a r
    match sc, hS with
    | vb :: va :: rc, hS =>
      obtain ⟨hb, ha, hr⟩ := hS
      split at h
      · rename_i z hz
        obtain ⟨⟨c1, ea⟩, ⟨c2, eb⟩⟩ := an_fold_int hz
        have ha' := ha
        have hb' := hb
        rw [ea] at ha'
        rw [eb] at hb'
        obtain ⟨x, rfl, -⟩ := ha'
        obtain ⟨y, rfl, -⟩ := hb'
        obtain ⟨w, e1, e2⟩ := an_fold_ok ha hb hz
        unfold sm_i2
        dsimp only
        rw [e1]
        exact an_k_go h hL ⟨⟨w, rfl, e2⟩, hr⟩ hZ
      · split at h
        · rename_i p q hp' hq'
          split at h
          · rename_i w hw
            obtain ⟨x, rfl, x1, x2⟩ := an_iv_ok hZ.1 ha hp'
            obtain ⟨y, rfl, y1, y2⟩ := an_iv_ok hZ.1 hb hq'
            obtain ⟨z, hz, hzb⟩ := hbd p q w x y hw x1 x2 y1 y2
            unfold sm_i2
            dsimp only
            rw [hz]
            exact an_ki_go h (an_new_ok hZ.1 hzb) hL hr hZ
          · cases h
        · cases h
    | [], hS => exact hS.elim
    | [_], hS => exact hS.2.elim
  · cases h
theorem an_add2_go {g : an_T → an_S → an_S → Option (an_S × an_T)} {f : Int32 → Int32 → Int32} (hg : ∀ (T : an_T) (a b : an_S) (x y : Int32) (o : an_S × an_T), an_rT T ρ → an_rv ρ a (.int x) → an_rv ρ b (.int y) → g T a b = some o → ∃ e : List Int, an_rT o.2 (ρ ++ e) ∧ an_rv (ρ ++ e) o.1 (.int (f x y))) (hi : ∀ (T : an_T) (a b : an_S) (o : an_S × an_T), g T a b = some o → ∃ p q, an_iv T a = some p ∧ an_iv T b = some q) (h : an_add2 g pc ls st Z = some L) (hL : an_rL ρ ls lc) (hS : an_rF ρ st sc) (hZ : an_rZ ρ Z h0 hp) : an_Go ρ h0 L (sm_i2 sc (fun x y => some (.int (f x y))) pc lc hp) := by
  unfold an_add2 at h
  split at h
  · rename_i b a r
    match sc, hS with
    | vb :: va :: rc, hS =>
      obtain ⟨hb, ha, hr⟩ := hS
      cases ho : g Z.1 a b with
      | none => rw [ho] at h; cases h
      | some o =>
        rw [ho] at h
        obtain ⟨p, q, hp', hq'⟩ := hi Z.1 a b o ho
        obtain ⟨x, rfl, x1, x2⟩ := an_iv_ok hZ.1 ha hp'
        obtain ⟨y, rfl, y1, y2⟩ := an_iv_ok hZ.1 hb hq'
        exact an_ki_go h (hg Z.1 a b x y o hZ.1 ha hb ho) hL hr hZ
    | [], hS => exact hS.elim
    | [_], hS => exact hS.2.elim
  · cases h
theorem an_add_iv {T : an_T} {a b : an_S} {o : an_S × an_T} (h : an_add T a b = some o) : ∃ p q, an_iv T a = some p ∧ an_iv T b = some q := by
  unfold an_add at h
  split at h
  · rename_i p q hp hq
    exact ⟨p, q, hp, hq⟩
  · cases h
theorem an_sub_iv {T : an_T} {a b : an_S} {o : an_S × an_T} (h : an_sub T a b = some o) : ∃ p q, an_iv T a = some p ∧ an_iv T b = some q := by
  unfold an_sub at h
  split at h
  · rename_i p q hp hq
    exact ⟨p, q, hp, hq⟩
  · cases h
theorem an_ld_c {i : Nat} {a : an_S} (hL : an_rL ρ ls lc) (h : an_ld ls i = some a) : ∃ v, sm_ld lc i = some v ∧ an_rv ρ a v := by
  unfold an_ld at h
  split at h
  · rename_i b hb
    cases h
    obtain ⟨v, h1, h2⟩ := hL.2 i a hb
    exact ⟨v, by unfold sm_ld; rw [h1], h2⟩
  · cases h
theorem an_isint {a : Option Nat × Int} {v : Value} (h : an_rv ρ (.inl a) v) : ∃ x : Int32, v = .int x := by
  obtain ⟨n, c⟩ := a
  cases n with
  | none => exact h.imp fun _ z => z.1
  | some s => obtain ⟨x, r, h1, _⟩ := h; exact ⟨x, h1⟩
theorem an_and_go (hbd : an_BO an_band (fun x y => some (.int (x &&& y)))) (h : an_and pc ls st Z = some L) (hL : an_rL ρ ls lc) (hS : an_rF ρ st sc) (hZ : an_rZ ρ Z h0 hp) : an_Go ρ h0 L (sm_i2 sc (fun x y => some (.int (x &&& y))) pc lc hp) := by
  unfold an_and at h
  split at h
  · rename_i b a r
    cases hm : an_ism1 b with
    | false => rw [hm] at h; dsimp only [cond_false] at h; exact an_op2_go hbd h hL hS hZ
    | true =>
      rw [hm] at h
      match sc, hS with
      | vb :: va :: rc, hS =>
        obtain ⟨hb, ha, hr⟩ := hS
        unfold an_ism1 at hm
        split at hm
        · rename_i c
          rw [Bool.and_eq_true, ile_iff, ile_iff] at hm
          obtain ⟨y, rfl, hy⟩ := hb
          obtain ⟨x, rfl⟩ := an_isint ha
          have e : y = -1 := Int32.toInt_inj.mp (by rw [hy, show ((-1 : Int32).toInt) = -1 from rfl]; omega)
          subst e
          unfold sm_i2
          dsimp only
          rw [Int32.and_neg_one]
          exact an_k_go h hL ⟨ha, hr⟩ hZ
        · cases hm
      | [], hS => exact hS.elim
      | [_], hS => exact hS.2.elim
  · cases h
theorem an_two_go {c : ClassFile.Cond} {a b : an_S} {x y : Int32} {tg : Nat} {r : List an_S} {rc : List Value} (h : an_two Z.1 c a b tg pc ls r Z = some L) (ha : an_rv ρ a (.int x)) (hb : an_rv ρ b (.int y)) (hL : an_rL ρ ls lc) (hS : an_rF ρ r rc) (hZ : an_rZ ρ Z h0 hp) : an_Go ρ h0 L (sm_n (cond (sm_c2 c x y) tg (pc + 3)) lc rc hp) := by
  unfold an_two at h
  split at h
  · cases h
    have hc2n : sm_c2 (an_neg c) x y = !sm_c2 c x y := an_neg_c2 _ _ _
    cases hc : sm_c2 c x y with
    | true =>
      obtain ⟨T1, e1, hT1⟩ := an_br_ok hZ.1 ha hb hc
      refine ⟨(tg, lc, rc, hp), rfl, (tg, ls, r, (T1, Z.2.1, Z.2.2.1, an_nf c a b Z.2.2.2)), ?_, [], rfl, by simpa using hL, by simpa using hS, ?_⟩
      · rw [e1, an_no_ok hZ.2.2.2 ha hb hc]; exact List.mem_append_left _ (List.mem_singleton.mpr rfl)
      · rw [List.append_nil]; exact ⟨hT1, hZ.2.1, hZ.2.2.1, an_nf_ok hZ.2.2.2 ha hb hc⟩
    | false =>
      have hc2 : sm_c2 (an_neg c) x y = true := by rw [hc2n, hc]; rfl
      obtain ⟨T1, e1, hT1⟩ := an_br_ok hZ.1 ha hb hc2
      refine ⟨(pc + 3, lc, rc, hp), rfl, (pc + 3, ls, r, (T1, Z.2.1, Z.2.2.1, an_nf (an_neg c) a b Z.2.2.2)), ?_, [], rfl, by simpa using hL, by simpa using hS, ?_⟩
      · rw [e1, an_no_ok hZ.2.2.2 ha hb hc2]; exact List.mem_append_right _ (List.mem_singleton.mpr rfl)
      · rw [List.append_nil]; exact ⟨hT1, hZ.2.1, hZ.2.2.1, an_nf_ok hZ.2.2.2 ha hb hc2⟩
  · cases h
/-- less, where the order is known -/
noncomputable def an_sub3 (pc : Nat) (ls : an_L) (st : List an_S) (Z : an_Z) : Option (List an_G) := match st with
  | b :: a :: r => match an_fold (fun x y => some (.int (x - y))) a b with
    | some z => an_k (pc + 1) ls (an_c z :: r) Z
    | none => match an_or b a Z.2.2.2 with
    | some k => match an_iv Z.1 a, an_iv Z.1 b with
      | some p, some q => cond (an_in (p.1 - q.2, p.2 - q.1)) (an_ki (pc + 1) ls r Z (some (an_new Z.1 (imax (p.1 - q.2) k, imax k (p.2 - q.1))))) (an_add2 an_sub pc ls (b :: a :: r) Z)
      | _, _ => none
    | none => an_add2 an_sub pc ls (b :: a :: r) Z
  | _ => none
theorem an_sub3_go (h : an_sub3 pc ls st Z = some L) (hL : an_rL ρ ls lc) (hS : an_rF ρ st sc) (hZ : an_rZ ρ Z h0 hp) : an_Go ρ h0 L (sm_i2 sc (fun x y => some (.int (x - y))) pc lc hp) := by
  have old : ∀ L, an_add2 an_sub pc ls st Z = some L → an_Go ρ h0 L (sm_i2 sc (fun x y => some (.int (x - y))) pc lc hp) := fun L h => an_add2_go (f := fun x y => x - y) (fun T a b x y o hT ha hb h => an_sub_ok hT ha hb h) (fun T a b o h => an_sub_iv h) h hL hS hZ
  unfold an_sub3 at h
  split at h
  · rename_i b a r
    split at h
    · rename_i z hz
      match sc, hS with
      | vb :: va :: rc, hS =>
        obtain ⟨hb, ha, hr⟩ := hS
        obtain ⟨⟨c1, ea⟩, ⟨c2, eb⟩⟩ := an_fold_int hz
        have ha' := ha
        have hb' := hb
        rw [ea] at ha'
        rw [eb] at hb'
        obtain ⟨x, rfl, -⟩ := ha'
        obtain ⟨y, rfl, -⟩ := hb'
        obtain ⟨w, e1, e2⟩ := an_fold_ok ha hb hz
        unfold sm_i2
        dsimp only at e1 ⊢
        cases e1
        exact an_k_go h hL ⟨⟨_, rfl, e2⟩, hr⟩ hZ
      | [], hS => exact hS.elim
      | [_], hS => exact hS.2.elim
    split at h
    · rename_i k hk
      split at h
      · rename_i p q hp' hq'
        cases hin : an_in (p.1 - q.2, p.2 - q.1) with
        | false => rw [hin] at h; exact old L h
        | true =>
          rw [hin] at h
          obtain ⟨i1, i2⟩ := an_in_iff.mp hin
          dsimp only at i1 i2
          match sc, hS with
          | vb :: va :: rc, hS =>
            obtain ⟨hb, ha, hr⟩ := hS
            obtain ⟨x, rfl, x1, x2⟩ := an_iv_ok hZ.1 ha hp'
            obtain ⟨y, rfl, y1, y2⟩ := an_iv_ok hZ.1 hb hq'
            obtain ⟨y', x', h1, h2, h3⟩ := an_or_ok hZ.2.2.2 hk
            have e1 := an_rv_fun hb h1
            have e2 := an_rv_fun ha h2
            subst e1; subst e2
            dsimp only at h3
            have es := an_sub32 (x := x) (y := y) (by omega) (by omega)
            have m1 := imax_or (p.1 - q.2) k
            have m2 := le_imax (a := k) (b := p.2 - q.1)
            unfold sm_i2
            dsimp only
            refine an_ki_go h (an_new_ok hZ.1 (fun _ => ⟨?_, ?_⟩)) hL hr hZ
            · dsimp only; omega
            · dsimp only; omega
          | [], hS => exact hS.elim
          | [_], hS => exact hS.2.elim
      · cases h
    · exact old L h
  · cases h
/-- a quotient by what isn't 0 -/
noncomputable def an_dv (f : Int32 → Int32 → Option Value) (bd : an_B) (pc : Nat) (ls : an_L) (st : List an_S) (Z : an_Z) : Option (List an_G) := match st with
  | b :: .inl a :: r => cond (an_isn b && an_nq b 0 Z.2.2.2 && (match an_iv Z.1 b with
      | some q => ile q.1 0 && ile 0 q.2
      | none => false)) (an_ki (pc + 1) ls r Z (some (an_new Z.1 an_tp))) (an_op2 f bd pc ls (b :: .inl a :: r) Z)
  | _ => none
theorem an_dv_go {bd : an_B} {f : Int32 → Int32 → Option Value} (hbd : an_BO bd f) (hf : ∀ x y : Int32, y ≠ 0 → ∃ z : Int32, f x y = some (.int z)) (h : an_dv f bd pc ls st Z = some L) (hL : an_rL ρ ls lc) (hS : an_rF ρ st sc) (hZ : an_rZ ρ Z h0 hp) : an_Go ρ h0 L (sm_i2 sc f pc lc hp) := by
  unfold an_dv at h
  split at h
  · rename_i b a r
    generalize hB : (an_isn b && an_nq b 0 Z.2.2.2 && (match an_iv Z.1 b with
      | some q => ile q.1 0 && ile 0 q.2
      | none => false)) = B at h
    cases B with
    | false => dsimp only [cond_false] at h; exact an_op2_go hbd h hL hS hZ
    | true =>
      rw [Bool.and_eq_true, Bool.and_eq_true] at hB
      match sc, hS with
      | vb :: va :: rc, hS =>
        obtain ⟨hb, ha, hr⟩ := hS
        obtain ⟨x, rfl⟩ := an_isint ha
        obtain ⟨y, h1, h2⟩ := an_nq_ok hZ.2.2.2 hB.1.2
        have hvb : vb = .int y := by
          unfold an_isn at hB
          split at hB
          · obtain ⟨y', e⟩ := an_isint hb
            subst e
            rw [an_rv_fun hb h1]
          · exact absurd hB.1.1 (by decide)
        subst hvb
        obtain ⟨z, hz⟩ := hf x y (fun z => h2 (by rw [z]; rfl))
        unfold sm_i2
        dsimp only
        rw [hz]
        exact an_ki_go h (an_new_ok hZ.1 (fun _ => an_top z)) hL hr hZ
      | [], hS => exact hS.elim
      | [_], hS => exact hS.2.elim
  · cases h
end ANX
