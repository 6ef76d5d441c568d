/-! the rest of the instructions, by the analyst -/
noncomputable def an_pn (n : Int) (d pc : Nat) (lo hi : Int) (ls : an_L) (st : List an_S) (Z : an_Z) : Option (List an_G) := cond (ile lo n && ile n hi) (an_k (pc + d) ls (an_c n :: st) Z) none
noncomputable def an_pa (a d pc : Nat) (ls : an_L) (st : List an_S) (Z : an_Z) : Option (List an_G) := cond (Nat.blt a 2147483648) (an_k (pc + d) ls (an_c (a : Int) :: st) Z) (an_ki (pc + d) ls st Z (some (an_new Z.1 an_tp)))
noncomputable def an_u1 (w : Int × Int) (pc : Nat) (ls : an_L) (st : List an_S) (Z : an_Z) : Option (List an_G) := match st with
  | .inl _ :: r => an_ki (pc + 1) ls r Z (some (an_new Z.1 w))
  | _ => none
noncomputable def an_u2l (pc : Nat) (ls : an_L) (st : List an_S) (Z : an_Z) : Option (List an_G) := match st with
  | .inl _ :: r => an_k (pc + 1) ls (.inr (.inr ()) :: r) Z
  | _ => none
noncomputable def an_l2 (pc : Nat) (ls : an_L) (st : List an_S) (Z : an_Z) : Option (List an_G) := match st with
  | .inr (.inr _) :: .inr (.inr _) :: r => an_k (pc + 1) ls (.inr (.inr ()) :: r) Z
  | _ => none
noncomputable def an_lc (pc : Nat) (ls : an_L) (st : List an_S) (Z : an_Z) : Option (List an_G) := match st with
  | .inr (.inr _) :: .inr (.inr _) :: r => an_ki (pc + 1) ls r Z (some (an_new Z.1 (-1, 1)))
  | _ => none
noncomputable def an_lsh (pc : Nat) (ls : an_L) (st : List an_S) (Z : an_Z) : Option (List an_G) := match st with
  | .inl _ :: .inr (.inr _) :: r => an_k (pc + 1) ls (.inr (.inr ()) :: r) Z
  | _ => none
noncomputable def an_l2i (pc : Nat) (ls : an_L) (st : List an_S) (Z : an_Z) : Option (List an_G) := match st with
  | .inr (.inr _) :: r => an_ki (pc + 1) ls r Z (some (an_new Z.1 an_tp))
  | _ => none
noncomputable def an_pop (pc : Nat) (ls : an_L) (st : List an_S) (Z : an_Z) : Option (List an_G) := match st with
  | a :: r => cond (an_isl a) none (an_k (pc + 1) ls r Z)
  | _ => none
noncomputable def an_dup (pc : Nat) (ls : an_L) (st : List an_S) (Z : an_Z) : Option (List an_G) := match st with
  | a :: r => cond (an_isl a) none (an_k (pc + 1) ls (a :: a :: r) Z)
  | _ => none
noncomputable def an_dup2 (pc : Nat) (ls : an_L) (st : List an_S) (Z : an_Z) : Option (List an_G) := match st with
  | a :: b :: r => cond (an_isl a || an_isl b) none (an_k (pc + 1) ls (a :: b :: a :: b :: r) Z)
  | _ => none
noncomputable def an_to (pc : Nat) (off : Int) (ls : an_L) (st : List an_S) (Z : an_Z) : Option (List an_G) := cond (ile 0 ((pc : Int) + off)) (an_k ((pc : Int) + off).toNat ls st Z) none
noncomputable def an_sw (pc : Nat) (ls : an_L) (st : List an_S) (Z : an_Z) (a : an_S) : Int → List Int → Option (List an_G)
  | _, [] => some []
  | v, off :: t => match an_sw pc ls st Z a (v + 1) t with
    | none => none
    | some gs => match an_eq Z.1 a (an_c v) with
      | none => some gs
      | some T => match an_to pc off ls st (an_T' Z T) with
        | some g => some (g ++ gs)
        | none => none
noncomputable def an_dfl (o : Option an_T) (pc : Nat) (d : Int) (ls : an_L) (st : List an_S) (Z : an_Z) : Option (List an_G) := match o with
  | some T => an_to pc d ls st (an_T' Z T)
  | none => some []
noncomputable def an_tsw (d lo hi : Int) (offs : List Int) (pc : Nat) (ls : an_L) (st : List an_S) (Z : an_Z) : Option (List an_G) := match st with
  | .inl a :: r => cond (ile (hi - lo + 1) (offs.length : Int) && (ile (-2147483648) lo && (ile lo 2147483647 && (ile (-2147483648) hi && ile hi 2147483647)))) (match an_dfl (an_br Z.1 .lt (.inl a) (an_c lo)) pc d ls r Z, an_dfl (an_br Z.1 .gt (.inl a) (an_c hi)) pc d ls r Z, an_sw pc ls r Z (.inl a) lo offs with
    | some g, some g', some gs => some (g ++ (g' ++ gs))
    | _, _, _ => none) none
  | _ => none
noncomputable def an_lw (pc : Nat) (ls : an_L) (st : List an_S) (Z : an_Z) (a : an_S) (d : Int) : List (Int × Int) → Option (List an_G)
  | [] => an_to pc d ls st Z
  | p :: t => match an_lw pc ls st Z a d t with
    | none => none
    | some gs => match an_eq Z.1 a (an_c p.1) with
      | none => some gs
      | some T => match an_to pc p.2 ls st (an_T' Z T) with
        | some g => some (g ++ gs)
        | none => none
noncomputable def an_up : List (Int × Int) → Bool
  | [] => true
  | [_] => true
  | a :: b :: t => ilt a.1 b.1 && an_up (b :: t)
where ilt (a b : Int) : Bool := ile (a + 1) b
noncomputable def an_lsw (d : Int) (ps : List (Int × Int)) (pc : Nat) (ls : an_L) (st : List an_S) (Z : an_Z) : Option (List an_G) := match st with
  | .inl a :: r => cond (an_up ps) (an_lw pc ls r Z (.inl a) d ps) none
  | _ => none
section ANW
variable {ρ : List Int} {h0 hp : sm_H} {Z : an_Z} {ls : an_L} {lc : sm_L} {st : List an_S} {sc : List Value} {pc : Nat} {L : List an_G}
theorem an_c_rv {n : Int} {x : Int32} (h : x.toInt = n) : an_rv ρ (an_c n) (.int x) := ⟨x, rfl, h⟩
theorem an_pn_go {n lo hi : Int} {d : Nat} {x : Int32} (hx : lo ≤ n → n ≤ hi → x.toInt = n) (h : an_pn n d pc lo hi ls st Z = some L) (hL : an_rL ρ ls lc) (hS : an_rF ρ st sc) (hZ : an_rZ ρ Z h0 hp) : an_Go ρ h0 L (sm_n (pc + d) lc (.int x :: sc) hp) := by
  unfold an_pn at h
  cases hb : (ile lo n && ile n hi) with
  | false => rw [hb] at h; cases h
  | true =>
    rw [hb] at h
    rw [Bool.and_eq_true, ile_iff, ile_iff] at hb
    exact an_k_go h hL ⟨an_c_rv (hx hb.1 hb.2), hS⟩ hZ
theorem an_pa_go {a d : Nat} (h : an_pa a d pc ls st Z = some L) (hL : an_rL ρ ls lc) (hS : an_rF ρ st sc) (hZ : an_rZ ρ Z h0 hp) : an_Go ρ h0 L (sm_n (pc + d) lc (.int (Int32.ofNat a) :: sc) hp) := by
  unfold an_pa at h
  cases hb : Nat.blt a 2147483648 with
  | false => rw [hb] at h; exact an_ki_go h (an_new_ok hZ.1 an_tpz) hL hS hZ
  | true =>
    rw [hb] at h
    rw [Nat.blt_eq] at hb
    exact an_k_go h hL ⟨an_c_rv (nI_toInt hb), hS⟩ hZ
theorem an_u1_go {w : Int × Int} {f : Int32 → Option Value} (hf : ∀ x, ∃ z : Int32, f x = some (.int z) ∧ w.1 ≤ z.toInt ∧ z.toInt ≤ w.2) (h : an_u1 w pc ls st Z = some L) (hL : an_rL ρ ls lc) (hS : an_rF ρ st sc) (hZ : an_rZ ρ Z h0 hp) : an_Go ρ h0 L (sm_i1 sc f pc lc hp) := by
  unfold an_u1 at h
  split at h
  · rename_i a r
    match sc, hS with
    | v :: rc, hS =>
      obtain ⟨ha, hr⟩ := hS
      obtain ⟨x, rfl⟩ := an_isint ha
      obtain ⟨z, hz, hz1⟩ := hf x
      unfold sm_i1
      dsimp only
      rw [hz]
      exact an_ki_go h (an_new_ok hZ.1 fun _ => hz1) hL hr hZ
    | [], hS => exact hS.elim
  · cases h
theorem an_u2l_go {f : Int32 → Int64} (h : an_u2l pc ls st Z = some L) (hL : an_rL ρ ls lc) (hS : an_rF ρ st sc) (hZ : an_rZ ρ Z h0 hp) : an_Go ρ h0 L (sm_i1 sc (fun x => some (.long (f x))) pc lc hp) := by
  unfold an_u2l at h
  split at h
  · rename_i a r
    match sc, hS with
    | v :: rc, hS =>
      obtain ⟨ha, hr⟩ := hS
      obtain ⟨x, rfl⟩ := an_isint ha
      exact an_k_go h hL ⟨⟨_, rfl⟩, hr⟩ hZ
    | [], hS => exact hS.elim
  · cases h
theorem an_l2_go {f : Int64 → Int64 → Int64} (h : an_l2 pc ls st Z = some L) (hL : an_rL ρ ls lc) (hS : an_rF ρ st sc) (hZ : an_rZ ρ Z h0 hp) : an_Go ρ h0 L (sm_l2 sc (fun x y => .long (f x y)) pc lc hp) := by
  unfold an_l2 at h
  split at h
  · rename_i a b r
    match sc, hS with
    | v :: w :: rc, hS =>
      obtain ⟨ha, hb, hr⟩ := hS
      obtain ⟨x, rfl⟩ := ha
      obtain ⟨y, rfl⟩ := hb
      exact an_k_go h hL ⟨⟨_, rfl⟩, hr⟩ hZ
    | [], hS => exact hS.elim
    | [_], hS => exact hS.2.elim
  · cases h
theorem an_cmp3 (x y : Int64) : (-1 : Int) ≤ (lg_cmp x y).toInt ∧ (lg_cmp x y).toInt ≤ 1 := by
  unfold lg_cmp
  split
  · decide
  · split <;> decide
theorem an_lc_go (h : an_lc pc ls st Z = some L) (hL : an_rL ρ ls lc) (hS : an_rF ρ st sc) (hZ : an_rZ ρ Z h0 hp) : an_Go ρ h0 L (sm_l2 sc (fun x y => .int (lg_cmp x y)) pc lc hp) := by
  unfold an_lc at h
  split at h
  · rename_i a b r
    match sc, hS with
    | v :: w :: rc, hS =>
      obtain ⟨ha, hb, hr⟩ := hS
      obtain ⟨x, rfl⟩ := ha
      obtain ⟨y, rfl⟩ := hb
      exact an_ki_go h (an_new_ok hZ.1 fun _ => an_cmp3 _ _) hL hr hZ
    | [], hS => exact hS.elim
    | [_], hS => exact hS.2.elim
  · cases h
theorem an_lsh_go {f : Int64 → Int32 → Int64} (h : an_lsh pc ls st Z = some L) (hL : an_rL ρ ls lc) (hS : an_rF ρ st sc) (hZ : an_rZ ρ Z h0 hp) : an_Go ρ h0 L (sm_ls sc (fun x y => .long (f x y)) pc lc hp) := by
  unfold an_lsh at h
  split at h
  · rename_i a b r
    match sc, hS with
    | v :: w :: rc, hS =>
      obtain ⟨ha, hb, hr⟩ := hS
      obtain ⟨x, rfl⟩ := an_isint ha
      obtain ⟨y, rfl⟩ := hb
      exact an_k_go h hL ⟨⟨_, rfl⟩, hr⟩ hZ
    | [], hS => exact hS.elim
    | [_], hS => exact hS.2.elim
  · cases h
theorem an_l2i_go (h : an_l2i pc ls st Z = some L) (hL : an_rL ρ ls lc) (hS : an_rF ρ st sc) (hZ : an_rZ ρ Z h0 hp) : an_Go ρ h0 L (sm_l2i sc pc lc hp) := by
  unfold an_l2i at h
  split at h
  · rename_i a r
    match sc, hS with
    | v :: rc, hS =>
      obtain ⟨ha, hr⟩ := hS
      obtain ⟨x, rfl⟩ := ha
      exact an_ki_go h (an_new_ok hZ.1 an_tpz) hL hr hZ
    | [], hS => exact hS.elim
  · cases h
theorem an_pop_go (h : an_pop pc ls st Z = some L) (hL : an_rL ρ ls lc) (hS : an_rF ρ st sc) (hZ : an_rZ ρ Z h0 hp) : an_Go ρ h0 L (sm_pop sc pc lc hp) := by
  unfold an_pop at h
  split at h
  · rename_i a r
    match sc, hS with
    | v :: rc, hS =>
      obtain ⟨ha, hr⟩ := hS
      cases hl : an_isl a with
      | true => rw [hl] at h; cases h
      | false =>
        rw [hl] at h
        unfold sm_pop
        dsimp only
        rw [if_pos ((an_isl_cat ha).2 hl)]
        exact an_k_go h hL hr hZ
    | [], hS => exact hS.elim
  · cases h
theorem an_dup_go (h : an_dup pc ls st Z = some L) (hL : an_rL ρ ls lc) (hS : an_rF ρ st sc) (hZ : an_rZ ρ Z h0 hp) : an_Go ρ h0 L (sm_dup sc pc lc hp) := by
  unfold an_dup at h
  split at h
  · rename_i a r
    match sc, hS with
    | v :: rc, hS =>
      obtain ⟨ha, hr⟩ := hS
      cases hl : an_isl a with
      | true => rw [hl] at h; cases h
      | false =>
        rw [hl] at h
        unfold sm_dup
        dsimp only
        rw [if_pos ((an_isl_cat ha).2 hl)]
        exact an_k_go h hL ⟨ha, ha, hr⟩ hZ
    | [], hS => exact hS.elim
  · cases h
theorem an_dup2_go (h : an_dup2 pc ls st Z = some L) (hL : an_rL ρ ls lc) (hS : an_rF ρ st sc) (hZ : an_rZ ρ Z h0 hp) : an_Go ρ h0 L (sm_dup2 sc pc lc hp) := by
  unfold an_dup2 at h
  split at h
  · rename_i a b r
    match sc, hS with
    | v :: w :: rc, hS =>
      obtain ⟨ha, hb, hr⟩ := hS
      cases hl : an_isl a with
      | true => rw [hl] at h; cases h
      | false =>
        rw [hl] at h
        cases hm : an_isl b with
        | true => rw [hm] at h; cases h
        | false =>
          rw [hm] at h
          unfold sm_dup2
          dsimp only
          rw [if_pos ⟨(an_isl_cat ha).2 hl, (an_isl_cat hb).2 hm⟩]
          exact an_k_go h hL ⟨ha, hb, ha, hb, hr⟩ hZ
    | [], hS => exact hS.elim
    | [_], hS => exact hS.2.elim
  · cases h
theorem an_ldk_go {i d knd : Nat} (h : an_ldk knd d i pc ls st Z = some L) (hL : an_rL ρ ls lc) (hS : an_rF ρ st sc) (hZ : an_rZ ρ Z h0 hp) : (knd = 0 → an_Go ρ h0 L (sm_ldi lc i d pc sc hp)) ∧ (knd = 1 → an_Go ρ h0 L (sm_lda lc i d pc sc hp)) ∧ (knd = 2 → an_Go ρ h0 L (sm_ldl lc i d pc sc hp)) := by
  unfold an_ldk at h
  split at h
  · rename_i a ha
    obtain ⟨v, h1, h2⟩ := an_ld_c hL ha
    obtain ⟨x, rfl⟩ := an_isint h2
    refine ⟨fun _ => ?_, (fun z => by cases z), (fun z => by cases z)⟩
    unfold sm_ldi
    rw [h1]
    exact an_k_go h hL ⟨h2, hS⟩ hZ
  · rename_i a ha
    obtain ⟨v, h1, h2⟩ := an_ld_c hL ha
    have h3 : v = .ref a := h2
    subst h3
    refine ⟨(fun z => by cases z), fun _ => ?_, (fun z => by cases z)⟩
    unfold sm_lda
    rw [h1]
    exact an_k_go h hL ⟨h2, hS⟩ hZ
  · rename_i a ha
    obtain ⟨v, h1, h2⟩ := an_ld_c hL ha
    have h3 : ∃ y : Int64, v = .long y := h2
    obtain ⟨y, rfl⟩ := h3
    refine ⟨(fun z => by cases z), (fun z => by cases z), fun _ => ?_⟩
    unfold sm_ldl
    rw [h1]
    exact an_k_go h hL ⟨h2, hS⟩ hZ
  · cases h
theorem an_kl_go1 {pc' i : Nat} {a : an_S} {v : Value} {r : List an_S} {rc : List Value} (h : an_kl pc' (an_st1 ls i a) r Z = some L) (hv : an_rv ρ a v) (hL : an_rL ρ ls lc) (hS : an_rF ρ r rc) (hZ : an_rZ ρ Z h0 hp) : an_Go ρ h0 L (sm_nl pc' (sm_st1 lc i v) rc hp) := by
  cases e : an_st1 ls i a with
  | none => rw [e] at h; cases h
  | some ls' =>
    rw [e] at h
    obtain ⟨lc', h1, h2⟩ := an_st1_ok hL hv e
    rw [h1]
    exact an_k_go h h2 hS hZ
theorem an_kl_go2 {pc' i : Nat} {a : an_S} {v : Value} {r : List an_S} {rc : List Value} (h : an_kl pc' (an_st2 ls i a) r Z = some L) (hv : an_rv ρ a v) (hL : an_rL ρ ls lc) (hS : an_rF ρ r rc) (hZ : an_rZ ρ Z h0 hp) : an_Go ρ h0 L (sm_nl pc' (sm_st2 lc i v) rc hp) := by
  cases e : an_st2 ls i a with
  | none => rw [e] at h; cases h
  | some ls' =>
    rw [e] at h
    obtain ⟨lc', h1, h2⟩ := an_st2_ok hL hv e
    rw [h1]
    exact an_k_go h h2 hS hZ
theorem an_stk_go {i d knd : Nat} (h : an_stk knd d i pc ls st Z = some L) (hL : an_rL ρ ls lc) (hS : an_rF ρ st sc) (hZ : an_rZ ρ Z h0 hp) : (knd = 0 → an_Go ρ h0 L (sm_sti lc i d pc sc hp)) ∧ (knd = 1 → an_Go ρ h0 L (sm_sta lc i d pc sc hp)) ∧ (knd = 2 → an_Go ρ h0 L (sm_stl lc i d pc sc hp)) := by
  unfold an_stk at h
  match sc, hS with
  | [], hS =>
    split at h
    · exact hS.elim
    · exact hS.elim
    · exact hS.elim
    · cases h
  | v :: rc, hS =>
    split at h
    · rename_i a r
      obtain ⟨ha, hr⟩ := hS
      obtain ⟨x, rfl⟩ := an_isint ha
      exact ⟨fun _ => an_kl_go1 h ha hL hr hZ, (fun z => by cases z), (fun z => by cases z)⟩
    · rename_i a r
      obtain ⟨ha, hr⟩ := hS
      have h3 : v = .ref _ := ha
      subst h3
      exact ⟨(fun z => by cases z), fun _ => an_kl_go1 h ha hL hr hZ, (fun z => by cases z)⟩
    · rename_i a r
      obtain ⟨ha, hr⟩ := hS
      have h3 : ∃ y : Int64, v = .long y := ha
      obtain ⟨y, rfl⟩ := h3
      exact ⟨(fun z => by cases z), (fun z => by cases z), fun _ => an_kl_go2 h ha hL hr hZ⟩
    · cases h
theorem an_inc_go {i : Nat} {n : Int} (h : an_inc i n pc ls st Z = some L) (hL : an_rL ρ ls lc) (hS : an_rF ρ st sc) (hZ : an_rZ ρ Z h0 hp) : an_Go ρ h0 L (sm_inc lc i n pc sc hp) := by
  unfold an_inc at h
  split at h
  · rename_i a ha
    split at h
    · rename_i q hq
      obtain ⟨v, h1, h2⟩ := an_ld_c hL ha
      obtain ⟨x, rfl⟩ := an_isint h2
      obtain ⟨e, g1, g2⟩ := an_add_ok hZ.1 h2 (an_c_rv (x := Int32.ofInt n) rfl) hq
      unfold sm_inc
      rw [h1]
      dsimp only
      cases es : an_st1 ls i q.1 with
      | none => rw [es] at h; cases h
      | some ls' =>
        rw [es] at h
        obtain ⟨lc', k1, k2⟩ := an_st1_ok (an_rL_ext e hL) g2 es
        rw [k1]
        cases h
        exact ⟨(pc + 3, lc', sc, hp), rfl, _, List.mem_singleton.mpr rfl, e, rfl, k2, an_rF_ext e hS, an_rZ_T hZ g1⟩
    · cases h
  · cases h
theorem an_icmp_go {c : ClassFile.Cond} {tg : Nat} (h : an_icmp c tg pc ls st Z = some L) (hL : an_rL ρ ls lc) (hS : an_rF ρ st sc) (hZ : an_rZ ρ Z h0 hp) : an_Go ρ h0 L (sm_icmp sc c tg pc lc hp) := by
  unfold an_icmp at h
  split at h
  · rename_i b a r
    match sc, hS with
    | v :: w :: rc, hS =>
      obtain ⟨hb, ha, hr⟩ := hS
      cases e1 : an_iv Z.1 a with
      | none => unfold an_two at h; rw [e1] at h; cases h
      | some p =>
        cases e2 : an_iv Z.1 b with
        | none => unfold an_two at h; rw [e1, e2] at h; cases h
        | some q =>
          obtain ⟨x, rfl, _⟩ := an_iv_ok hZ.1 ha e1
          obtain ⟨y, rfl, _⟩ := an_iv_ok hZ.1 hb e2
          exact an_two_go h ha hb hL hr hZ
    | [], hS => exact hS.elim
    | [_], hS => exact hS.2.elim
  · cases h
theorem an_if_go {c : ClassFile.Cond} {tg : Nat} (h : an_if c tg pc ls st Z = some L) (hL : an_rL ρ ls lc) (hS : an_rF ρ st sc) (hZ : an_rZ ρ Z h0 hp) : an_Go ρ h0 L (sm_if sc c tg pc lc hp) := by
  unfold an_if at h
  split at h
  · rename_i a r
    match sc, hS with
    | v :: rc, hS =>
      obtain ⟨ha, hr⟩ := hS
      cases e1 : an_iv Z.1 a with
      | none => unfold an_two at h; rw [e1] at h; cases h
      | some p =>
        obtain ⟨x, rfl, _⟩ := an_iv_ok hZ.1 ha e1
        unfold sm_if
        dsimp only
        rw [an_c0]
        exact an_two_go h ha (an_c_rv (x := 0) rfl) hL hr hZ
    | [], hS => exact hS.elim
  · cases h
theorem an_Go_mono {L' : List an_G} {r : Option sm_R} (h : an_Go ρ h0 L r) (hs : ∀ g ∈ L, g ∈ L') : an_Go ρ h0 L' r := by
  obtain ⟨f, h1, g, hg, e⟩ := h
  exact ⟨f, h1, g, hs g hg, e⟩
theorem an_to_go {off : Int} (h : an_to pc off ls st Z = some L) (hL : an_rL ρ ls lc) (hS : an_rF ρ st sc) (hZ : an_rZ ρ Z h0 hp) : an_Go ρ h0 L (sm_to pc off lc sc hp) := by
  unfold an_to at h
  cases hb : ile 0 ((pc : Int) + off) with
  | false => rw [hb] at h; cases h
  | true =>
    rw [hb] at h
    rw [ile_iff] at hb
    unfold sm_to
    rw [if_pos hb]
    exact an_k_go h hL hS hZ
theorem an_sw_go {a : an_S} {x : Int32} (ha : an_rv ρ a (.int x)) (hL : an_rL ρ ls lc) (hS : an_rF ρ st sc) (hZ : an_rZ ρ Z h0 hp) : ∀ (offs : List Int) (v : Int) (L : List an_G) (i : Nat) (off : Int), an_sw pc ls st Z a v offs = some L → x.toInt = v + i → offs[i]? = some off → an_Go ρ h0 L (sm_to pc off lc sc hp) := by
  intro offs
  induction offs with
  | nil => intro v L i off _ _ e; cases e
  | cons o t ih =>
    intro v L i off h hx ho
    unfold an_sw at h
    split at h
    · cases h
    · rename_i gs hgs
      match i, ho with
      | 0, ho =>
        cases ho
        obtain ⟨T, e1, e2⟩ := an_eq_ok hZ.1 ha (an_c_rv (x := x) rfl) rfl
        have hv : x.toInt = v := by omega
        rw [hv] at e1
        rw [e1] at h
        dsimp only at h
        split at h
        · rename_i g hg
          cases h
          have := an_to_go hg hL hS (show an_rZ ρ (an_T' Z T) h0 hp by have := an_rZ_T (e := []) hZ (by simpa using e2); simpa using this)
          exact an_Go_mono this fun g hg => List.mem_append_left _ hg
        · cases h
      | i + 1, ho =>
        have := ih (v + 1) gs i off hgs (by omega) ho
        split at h
        · cases h; exact this
        · split at h
          · cases h
            exact an_Go_mono this fun g hg => List.mem_append_right _ hg
          · cases h
theorem an_ofI' {n : Int} (h1 : (-2147483648) ≤ n) (h2 : n ≤ 2147483647) : (Int32.ofInt n).toInt = n := by
  rw [Int32.toInt_ofInt]; exact an_b32 h1 h2
theorem an_tsw_go {d lo hi : Int} {offs : Array Int} (h : an_tsw d lo hi offs.toList pc ls st Z = some L) (hL : an_rL ρ ls lc) (hS : an_rF ρ st sc) (hZ : an_rZ ρ Z h0 hp) : an_Go ρ h0 L (sm_tsw sc d lo hi offs pc lc hp) := by
  unfold an_tsw at h
  split at h
  · rename_i a r
    match sc, hS with
    | v :: rc, hS =>
      obtain ⟨ha, hr⟩ := hS
      obtain ⟨x, rfl⟩ := an_isint ha
      cases hb : (ile (hi - lo + 1) (offs.toList.length : Int) && (ile (-2147483648) lo && (ile lo 2147483647 && (ile (-2147483648) hi && ile hi 2147483647)))) with
      | false => rw [hb] at h; cases h
      | true =>
        rw [hb] at h
        simp only [Bool.and_eq_true, ile_iff] at hb
        obtain ⟨hb, l1, l2, l3, l4⟩ := hb
        dsimp only [cond_true] at h
        split at h
        · rename_i g g' gs hg hg' hgs
          cases h
          unfold sm_tsw
          dsimp only
          split
          · rename_i hout
            by_cases c : x.toInt < lo
            · obtain ⟨T, e1, e2⟩ := an_br_ok (c := .lt) hZ.1 ha (an_c_rv (x := Int32.ofInt lo) (an_ofI' l1 l2)) (decide_eq_true (Int32.lt_iff_toInt_lt.mpr (by rw [an_ofI' l1 l2]; exact c)))
              rw [e1] at hg
              exact an_Go_mono (an_to_go hg hL hr (show an_rZ ρ (an_T' Z T) h0 hp by have := an_rZ_T (e := []) hZ (by simpa using e2); simpa using this)) fun g hg => List.mem_append_left _ hg
            · obtain ⟨T, e1, e2⟩ := an_br_ok (c := .gt) hZ.1 ha (an_c_rv (x := Int32.ofInt hi) (an_ofI' l3 l4)) (decide_eq_true (Int32.lt_iff_toInt_lt.mpr (by rw [an_ofI' l3 l4]; omega)))
              rw [e1] at hg'
              exact an_Go_mono (an_to_go hg' hL hr (show an_rZ ρ (an_T' Z T) h0 hp by have := an_rZ_T (e := []) hZ (by simpa using e2); simpa using this)) fun g hg => List.mem_append_right _ (List.mem_append_left _ hg)
          · rename_i hn
            have hlt : (x.toInt - lo).toNat < offs.toList.length := by omega
            rw [← Array.getElem?_toList, List.getElem?_eq_getElem hlt]
            dsimp only
            exact an_Go_mono (an_sw_go ha hL hr hZ _ lo gs (x.toInt - lo).toNat _ hgs (by omega) (List.getElem?_eq_getElem hlt)) fun g hg => List.mem_append_right _ (List.mem_append_right _ hg)
        · cases h
    | [], hS => exact hS.elim
  · cases h
theorem an_lw_go {a : an_S} {x : Int32} {d : Int} (ha : an_rv ρ a (.int x)) (hL : an_rL ρ ls lc) (hS : an_rF ρ st sc) (hZ : an_rZ ρ Z h0 hp) : ∀ (ps : List (Int × Int)) (L : List an_G), an_lw pc ls st Z a d ps = some L → an_Go ρ h0 L (sm_to pc (Op.lookupswitch.offset ps d x.toInt) lc sc hp) := by
  intro ps
  induction ps with
  | nil => intro L h; exact an_to_go h hL hS hZ
  | cons p t ih =>
    intro L h
    obtain ⟨k, o⟩ := p
    unfold an_lw at h
    rw [Op.lookupswitch.offset_cons]
    split at h
    · cases h
    · rename_i gs hgs
      have hi := ih gs hgs
      split
      · rename_i hk
        obtain ⟨T, e1, e2⟩ := an_eq_ok hZ.1 ha (an_c_rv (x := x) rfl) rfl
        rw [← hk] at e1
        rw [e1] at h
        dsimp only at h
        split at h
        · rename_i g hg
          cases h
          have := an_to_go hg hL hS (show an_rZ ρ (an_T' Z T) h0 hp by have := an_rZ_T (e := []) hZ (by simpa using e2); simpa using this)
          exact an_Go_mono this fun g hg => List.mem_append_left _ hg
        · cases h
      · split at h
        · cases h; exact hi
        · split at h
          · cases h
            exact an_Go_mono hi fun g hg => List.mem_append_right _ hg
          · cases h
theorem an_up_ok : ∀ ps : List (Int × Int), an_up ps = true → (ps.zip (ps.drop 1)).all (fun (a, next) => a.1 < next.1) = true
  | [], _ => rfl
  | [_], _ => rfl
  | a :: b :: t, h => by
    unfold an_up an_up.ilt at h
    rw [Bool.and_eq_true, ile_iff] at h
    have := an_up_ok (b :: t) h.2
    simp only [List.drop_succ_cons, List.drop_zero, List.zip_cons_cons, List.all_cons, Bool.and_eq_true, decide_eq_true_eq] at this ⊢
    exact ⟨by omega, this⟩
theorem an_lsw_go {d : Int} {ps : Array (Int × Int)} (h : an_lsw d ps.toList pc ls st Z = some L) (hL : an_rL ρ ls lc) (hS : an_rF ρ st sc) (hZ : an_rZ ρ Z h0 hp) : an_Go ρ h0 L (sm_lsw sc d ps pc lc hp) := by
  unfold an_lsw at h
  split at h
  · rename_i a r
    match sc, hS with
    | v :: rc, hS =>
      obtain ⟨ha, hr⟩ := hS
      obtain ⟨x, rfl⟩ := an_isint ha
      cases hb : an_up ps.toList with
      | false => rw [hb] at h; cases h
      | true =>
        rw [hb] at h
        unfold sm_lsw
        dsimp only
        rw [if_pos (an_up_ok _ hb)]
        exact an_lw_go ha hL hr hZ _ _ h
    | [], hS => exact hS.elim
  · cases h
end ANW
