/-! an instruction on a cell that is known by its place -/
section EVX
variable {d pc : Nat} {cd : Nat → Option sm_I} {ls : sm_L} {st : List Value} {hp hp' : sm_H} {v : Option Value}
theorem ev_gf {idx n a b k : Nat} {fs : List Value} {w : Value} (hq : cd pc = some (.getfield idx, n, a, b)) (hk : hp[k]? = some (.inr (a, fs))) (hw : fs[b]? = some w) (kk : EV d cd (pc + 3) ls (w :: st) hp v hp') : EV d cd pc ls (.ref k :: st) hp v hp' :=
  ev_step hq (by
    show sm_gf (.ref k :: st) a b pc ls hp = _
    unfold sm_gf
    dsimp only
    rw [hk]
    dsimp only
    rw [if_pos rfl, hw]
    rfl) kk
theorem ev_pf {idx n a b k : Nat} {fs : List Value} {w : Value} (hq : cd pc = some (.putfield idx, n, a, b)) (hk : hp[k]? = some (.inr (a, fs))) (hb : b < fs.length) (hf : sm_fit a b w = true) (kk : EV d cd (pc + 3) ls st (hp.set k (.inr (a, fs.set b w))) v hp') : EV d cd pc ls (w :: .ref k :: st) hp v hp' :=
  ev_step hq (by
    show sm_pf (w :: .ref k :: st) a b pc ls hp = _
    unfold sm_pf
    dsimp only
    rw [hk]
    dsimp only
    rw [if_pos ⟨rfl, hb, hf⟩]
    rfl) kk
theorem ev_al {n a b k : Nat} {i x : Int32} {l : List Int32} (hq : cd pc = some (.iaload, n, a, b)) (hk : hp[k]? = some (.inl (0, .inl l))) (hi : ¬ i < 0) (hx : l[i.toNatClampNeg]? = some x) (kk : EV d cd (pc + 1) ls (.int x :: st) hp v hp') : EV d cd pc ls (.int i :: .ref k :: st) hp v hp' :=
  ev_step hq (by
    show sm_al (.int i :: .ref k :: st) 0 pc ls hp = _
    unfold sm_al
    dsimp only
    rw [hk]
    dsimp only
    rw [if_pos ⟨rfl, hi⟩, hx]
    rfl) kk
theorem ev_bl {n a b k : Nat} {i x : Int32} {l : List Int32} (hq : cd pc = some (.baload, n, a, b)) (hk : hp[k]? = some (.inl (2, .inl l))) (hi : ¬ i < 0) (hx : l[i.toNatClampNeg]? = some x) (kk : EV d cd (pc + 1) ls (.int x :: st) hp v hp') : EV d cd pc ls (.int i :: .ref k :: st) hp v hp' :=
  ev_step hq (by
    show sm_al (.int i :: .ref k :: st) 2 pc ls hp = _
    unfold sm_al
    dsimp only
    rw [hk]
    dsimp only
    rw [if_pos ⟨rfl, hi⟩, hx]
    rfl) kk
theorem ev_ll {n a b k : Nat} {i : Int32} {x : Int64} {l : List Int64} (hq : cd pc = some (.laload, n, a, b)) (hk : hp[k]? = some (.inl (1, .inr l))) (hi : ¬ i < 0) (hx : l[i.toNatClampNeg]? = some x) (kk : EV d cd (pc + 1) ls (.long x :: st) hp v hp') : EV d cd pc ls (.int i :: .ref k :: st) hp v hp' :=
  ev_step hq (by
    show sm_ll (.int i :: .ref k :: st) pc ls hp = _
    unfold sm_ll
    dsimp only
    rw [hk]
    dsimp only
    rw [if_pos ⟨rfl, hi⟩, hx]
    rfl) kk
theorem ev_as {n a b k : Nat} {i x : Int32} {l : List Int32} (hq : cd pc = some (.iastore, n, a, b)) (hk : hp[k]? = some (.inl (0, .inl l))) (hi : ¬ i < 0) (hl : i.toNatClampNeg < l.length) (kk : EV d cd (pc + 1) ls st (hp.set k (.inl (0, .inl (l.set i.toNatClampNeg x)))) v hp') : EV d cd pc ls (.int x :: .int i :: .ref k :: st) hp v hp' :=
  ev_step hq (by
    show sm_as (.int x :: .int i :: .ref k :: st) 0 pc ls hp = _
    unfold sm_as
    dsimp only
    rw [hk]
    dsimp only
    rw [if_pos ⟨rfl, hi, hl⟩]
    rfl) kk
theorem ev_bs {n a b k : Nat} {i x : Int32} {l : List Int32} (hq : cd pc = some (.bastore, n, a, b)) (hk : hp[k]? = some (.inl (2, .inl l))) (hi : ¬ i < 0) (hl : i.toNatClampNeg < l.length) (kk : EV d cd (pc + 1) ls st (hp.set k (.inl (2, .inl (l.set i.toNatClampNeg (vp_nar .byte x))))) v hp') : EV d cd pc ls (.int x :: .int i :: .ref k :: st) hp v hp' :=
  ev_step hq (by
    show sm_as (.int x :: .int i :: .ref k :: st) 2 pc ls hp = _
    unfold sm_as
    dsimp only
    rw [hk]
    dsimp only
    rw [if_pos ⟨rfl, hi, hl⟩]
    rfl) kk
theorem ev_ls {n a b k : Nat} {i : Int32} {x : Int64} {l : List Int64} (hq : cd pc = some (.lastore, n, a, b)) (hk : hp[k]? = some (.inl (1, .inr l))) (hi : ¬ i < 0) (hl : i.toNatClampNeg < l.length) (kk : EV d cd (pc + 1) ls st (hp.set k (.inl (1, .inr (l.set i.toNatClampNeg x)))) v hp') : EV d cd pc ls (.long x :: .int i :: .ref k :: st) hp v hp' :=
  ev_step hq (by
    show sm_lls (.long x :: .int i :: .ref k :: st) pc ls hp = _
    unfold sm_lls
    dsimp only
    rw [hk]
    dsimp only
    rw [if_pos ⟨rfl, hi, hl⟩]
    rfl) kk
end EVX
/-- both runs, by evaluation -/
noncomputable def lw_isM (c : Option sm_C) : Bool := match c with
  | some (.inr c) => Nat.beq c.1 8
  | _ => false
noncomputable def lw_chk (n d : Nat) (q : lw_D) (as : List Int32) (hp : sm_H) : Bool := match sm_call n d q.2.2.2.1 (.ref 0 :: as.map Value.int) hp with
  | some o => (match o.1 with
    | some (.int r1) => Nat.beq o.2.2.1 0 && Nat.beq o.2.2.2 0 && lw_isM o.2.1[67]? && (match sm_call n d q.2.2.2.2.2.1 (.ref 67 :: as.map Value.int) o.2.1 with
      | some o2 => (match o2.1 with
        | some (.int r2) => Nat.beq o2.2.2.1 0 && Nat.beq o2.2.2.2 0 && (!q.2.2.2.2.2.2 || decide (r1 = r2))
        | _ => false)
      | none => false)
    | _ => false)
  | none => false
theorem lw_isM_of {c : Option sm_C} (h : lw_isM c = true) : ∃ fs, c = some (.inr (8, fs)) := by
  unfold lw_isM at h
  split at h
  · rename_i c
    obtain ⟨a, b⟩ := c
    have h : a = 8 := Nat.beq_eq.mp h
    subst h
    exact ⟨b, rfl⟩
  · cases h
theorem lw_chk_good {n d : Nat} {q : lw_D} {as : List Int32} {hp : sm_H} (h0 : ∃ fs, hp[0]? = some (.inr (7, fs))) (h : lw_chk n d q as hp = true) : lw_good 67 d q as hp (fun _ => True) := by
  refine ⟨h0, ?_⟩
  unfold lw_chk at h
  split at h
  · rename_i o ho
    split at h
    · rename_i r1 hr1
      simp only [Bool.and_eq_true, Nat.beq_eq] at h
      obtain ⟨⟨⟨h1, h2⟩, h3⟩, h4⟩ := h
      split at h4
      · rename_i o2 ho2
        split at h4
        · rename_i r2 hr2
          simp only [Bool.and_eq_true, Nat.beq_eq, Bool.or_eq_true, Bool.not_eq_true', decide_eq_true_eq] at h4
          obtain ⟨⟨g1, g2⟩, g3⟩ := h4
          obtain ⟨a1, a2, a3, a4⟩ := o
          obtain ⟨b1, b2, b3, b4⟩ := o2
          dsimp only at h1 h2 h3 hr1 hr2 g1 g2 ho2
          subst h1; subst h2; subst hr1; subst g1; subst g2; subst hr2
          refine ⟨r1, r2, a2, b2, em_of ho, lw_isM_of h3, em_of ho2, fun z => ?_, trivial⟩
          rcases g3 with g | g
          · rw [z] at g; cases g
          · exact g
        · cases h4
      · cases h4
    · cases h
  · cases h
