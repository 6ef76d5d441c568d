/-! a state fits a pattern: the names below m stay, the pattern's others are met in their order, each at one place -/
noncomputable def an_m1 (m : Nat) (Tg Tn : an_T) (k : Nat) (a b : an_S) : Option Nat := match a with
  | .inl (some s, c) => cond (Nat.beq s k && Nat.ble m k) (match an_iv Tg b, Tn[s]? with
      | some p, some q => cond (ieq c 0 && ile q.1 p.1 && ile p.2 q.2) (some (k + 1)) none
      | _, _ => none) (match b with
      | .inl (some s', c') => cond (Nat.beq s s' && Nat.blt s m && ieq c c') (some k) none
      | _ => none)
  | .inl (none, c) => match an_iv Tg b with
    | some p => cond (ile c p.1 && ile p.2 c) (some k) none
    | none => none
  | .inr (.inl r) => match b with
    | .inr (.inl r') => cond (Nat.beq r r') (some k) none
    | _ => none
  | .inr (.inr _) => match b with
    | .inr (.inr _) => some k
    | _ => none
noncomputable def an_ml (m : Nat) (Tg Tn : an_T) : List an_S → List an_S → Nat → Option Nat
  | [], [], k => some k
  | a :: t, b :: u, k => match an_m1 m Tg Tn k a b with
    | some k' => an_ml m Tg Tn t u k'
    | none => none
  | _, _, _ => none
noncomputable def an_mo (m : Nat) (Tg Tn : an_T) : an_L → an_L → Nat → Option Nat
  | [], [], k => some k
  | none :: t, _ :: u, k => an_mo m Tg Tn t u k
  | some a :: t, some b :: u, k => match an_m1 m Tg Tn k a b with
    | some k' => an_mo m Tg Tn t u k'
    | none => none
  | _, _, _ => none
noncomputable def an_sg : List (Nat × Int × Int) → List (Nat × Int × Int) → Bool
  | [], [] => true
  | a :: t, b :: u => Nat.beq a.1 b.1 && (ieq a.2.1 b.2.1 && (ieq a.2.2 b.2.2 && an_sg t u))
  | _, _ => false
theorem an_sg_ok : ∀ {a b : List (Nat × Int × Int)}, an_sg a b = true → a = b
  | [], [], _ => rfl
  | a :: t, b :: u, h => by
    unfold an_sg at h
    rw [Bool.and_eq_true, Bool.and_eq_true, Bool.and_eq_true, Nat.beq_eq, ieq_iff, ieq_iff] at h
    obtain ⟨h1, h2, h3, h4⟩ := h
    rw [an_sg_ok h4]
    obtain ⟨x, y, z⟩ := a
    obtain ⟨x', y', z'⟩ := b
    have h1 : x = x' := h1
    have h2 : y = y' := h2
    have h3 : z = z' := h3
    subst h1 h2 h3
    rfl
  | [], _ :: _, h => by cases h
  | _ :: _, [], h => by cases h
/-- the pattern's bounds are the wider ones -/
noncomputable def an_sgi : List (Nat × Int × Int) → List (Nat × Int × Int) → Bool
  | [], [] => true
  | a :: t, b :: u => Nat.beq a.1 b.1 && (ile a.2.1 b.2.1 && (ile b.2.2 a.2.2 && an_sgi t u))
  | _, _ => false
theorem an_sgi_len : ∀ {p q : List (Nat × Int × Int)}, an_sgi p q = true → an_len p = an_len q
  | [], [], _ => rfl
  | a :: t, b :: u, h => by
    unfold an_sgi at h
    rw [Bool.and_eq_true, Bool.and_eq_true, Bool.and_eq_true, Nat.beq_eq] at h
    rw [an_len, an_len, h.1, an_sgi_len h.2.2.2]
  | [], _ :: _, h => by cases h
  | _ :: _, [], h => by cases h
theorem an_sgi_at : ∀ {p q : List (Nat × Int × Int)} {i : Nat} {b : Int × Int}, an_sgi p q = true → an_at p i = some b → ∃ b', an_at q i = some b' ∧ b.1 ≤ b'.1 ∧ b'.2 ≤ b.2
  | [], [], i, b, _, h => by cases h
  | a :: t, c :: u, i, b, h, hb => by
    unfold an_sgi at h
    rw [Bool.and_eq_true, Bool.and_eq_true, Bool.and_eq_true, Nat.beq_eq, ile_iff, ile_iff] at h
    unfold an_at at hb ⊢
    rw [← h.1]
    cases hi : Nat.blt i a.1 with
    | true =>
      rw [hi] at hb
      cases hb
      exact ⟨c.2, rfl, h.2.1, h.2.2.1⟩
    | false =>
      rw [hi] at hb
      exact an_sgi_at h.2.2.2 hb
  | [], _ :: _, _, _, h, _ => by cases h
  | _ :: _, [], _, _, h, _ => by cases h
theorem an_rA_sgi {p q : List (Nat × Int × Int)} {l : List Int32} (h : an_sgi p q = true) (hA : an_rA q l) : an_rA p l := ⟨by rw [hA.1, an_sgi_len h], fun i x b hx hb => by
  obtain ⟨b', h1, h2, h3⟩ := an_sgi_at h hb
  have := hA.2 i x b' hx h1
  omega⟩
theorem an_rC_sgi {ρ σ : List Int} {p q : an_A} {d : sm_C} (h1 : p.1 = q.1) (h : an_sgi p.2 q.2 = true) (hC : an_rC ρ (.inl q) d) : an_rC σ (.inl p) d := by
  match d, hC with
  | .inl (_, .inl _), hC => exact ⟨by rw [h1]; exact hC.1, hC.2.1, an_rA_sgi h hC.2.2⟩
  | .inl (_, .inr _), hC => exact ⟨by rw [h1]; exact hC.1, hC.2.1, by rw [an_sgi_len h]; exact hC.2.2⟩
  | .inr _, hC => exact hC.elim
noncomputable def an_nil (M : List an_Fc) : Bool := match M with
  | [] => true
  | _ => false
theorem an_nil_eq {M : List an_Fc} (h : an_nil M = true) : M = [] := by
  unfold an_nil at h
  split at h
  · rfl
  · cases h
noncomputable def an_tgs (b : Int × Int) : List (Nat × Int × Int) → Nat → List (Nat × Int × Int)
  | [], _ => []
  | g :: t, i => cond (Nat.blt i g.1) (cond (Nat.beq g.1 1) ((1, imax g.2.1 b.1, imin g.2.2 b.2) :: t) (g :: t)) (g :: an_tgs b t (i - g.1))
theorem an_tgs_len (b : Int × Int) : ∀ (sg : List (Nat × Int × Int)) (i : Nat), an_len (an_tgs b sg i) = an_len sg
  | [], _ => rfl
  | g :: t, i => by
    unfold an_tgs
    cases Nat.blt i g.1 with
    | true =>
      cases h : Nat.beq g.1 1 with
      | true => rw [Nat.beq_eq] at h; show 1 + an_len t = g.1 + an_len t; rw [h]
      | false => rfl
    | false => show g.1 + an_len (an_tgs b t (i - g.1)) = g.1 + an_len t; rw [an_tgs_len]
theorem an_tgs_at (b : Int × Int) : ∀ (sg : List (Nat × Int × Int)) (i n : Nat) (b' : Int × Int), an_at (an_tgs b sg i) n = some b' → ∃ c, an_at sg n = some c ∧ ((b' = c) ∨ (n = i ∧ b' = (imax c.1 b.1, imin c.2 b.2)))
  | [], _, _, _, h => by cases h
  | g :: t, i, n, b', h => by
    unfold an_tgs at h
    cases hi : Nat.blt i g.1 with
    | true =>
      rw [hi] at h
      dsimp only [cond_true] at h
      cases h1 : Nat.beq g.1 1 with
      | false => rw [h1] at h; exact ⟨b', h, Or.inl rfl⟩
      | true =>
        rw [h1] at h
        rw [Nat.beq_eq] at h1
        dsimp only [cond_true] at h
        unfold an_at at h ⊢
        dsimp only at h
        rw [h1]
        cases hn : Nat.blt n 1 with
        | true =>
          rw [hn] at h
          cases h
          have hn := Nat.blt_eq.mp hn
          have hi := Nat.blt_eq.mp hi
          exact ⟨g.2, rfl, Or.inr ⟨by omega, rfl⟩⟩
        | false => rw [hn] at h; exact ⟨b', h, Or.inl rfl⟩
    | false =>
      rw [hi] at h
      have hi := an_blt_f hi
      dsimp only [cond_false] at h
      unfold an_at at h ⊢
      cases hn : Nat.blt n g.1 with
      | true => rw [hn] at h; exact ⟨b', h, Or.inl rfl⟩
      | false =>
        rw [hn] at h
        have hn := an_blt_f hn
        obtain ⟨c, h1, h2⟩ := an_tgs_at b t (i - g.1) (n - g.1) b' h
        refine ⟨c, h1, ?_⟩
        rcases h2 with z | z
        · exact Or.inl z
        · exact Or.inr ⟨by omega, z.2⟩
theorem an_tgs_ok {b : Int × Int} {sg : List (Nat × Int × Int)} {l : List Int32} {i : Nat} {y : Int32} (h : an_rA sg l) (hy : l[i]? = some y) (h1 : b.1 ≤ y.toInt) (h2 : y.toInt ≤ b.2) : an_rA (an_tgs b sg i) l := ⟨by rw [an_tgs_len]; exact h.1, fun n x b' hx hb => by
  obtain ⟨c, c1, c2⟩ := an_tgs_at b sg i n b' hb
  have := h.2 n x c hx c1
  rcases c2 with rfl | ⟨rfl, rfl⟩
  · exact this
  · rw [hy] at hx
    cases hx
    have m1 := imax_or c.1 b.1
    have m2 := imin_or c.2 b.2
    dsimp only
    omega⟩
theorem an_rH_sub {ρ : List Int} : ∀ {H : an_H} {hp : sm_H} {k : Nat} {c : an_C} {d : sm_C}, an_rH ρ H hp → hp[k]? = some d → an_rC ρ c d → an_rH ρ (H.set k c) hp
  | _ :: _, _ :: _, 0, _, _, h, hd, hc => by cases hd; exact ⟨hc, h.2⟩
  | _ :: _, _ :: _, k + 1, _, _, h, hd, hc => ⟨h.1, an_rH_sub (k := k) h.2 hd hc⟩
  | [], [], _, _, _, _, hd, _ => by cases hd
  | [], _ :: _, _, _, _, h, _, _ => h.elim
  | _ :: _, [], _, _, _, h, _, _ => h.elim
noncomputable def an_tg2 (H : an_H) (k : Nat) (i : Int) (c : Option an_C) (b : Option (Int × Int)) : an_H := match c, b with
  | some (.inl g), some b => cond (ile 0 i && !Nat.beq g.1 1) (H.set k (.inl (g.1, an_tgs b g.2 i.toNat))) H
  | _, _ => H
noncomputable def an_tg1 (T : an_T) (H : an_H) (f : an_Fc) : an_H := match f with
  | .inl (k, .inl (none, i), v) => an_tg2 H k i H[k]? (an_iv T v)
  | _ => H
noncomputable def an_tg (Z : an_Z) : an_Z := (Z.1, Z.2.2.2.foldl (an_tg1 Z.1) Z.2.1, Z.2.2)
theorem an_tg1_ok {ρ : List Int} {T : an_T} {H : an_H} {hp : sm_H} {f : an_Fc} (hT : an_rT T ρ) (hH : an_rH ρ H hp) (hf : an_rf ρ hp f) : an_rH ρ (an_tg1 T H f) hp := by
  unfold an_tg1
  split
  · rename_i k i v
    obtain ⟨kd, l, x, y, h1, h2, h3, h4, h5⟩ := hf
    dsimp only at h1 h2 h4 h5
    unfold an_tg2
    split
    · rename_i g b hg hb
      cases hi : (ile 0 i && !Nat.beq g.1 1) with
      | false => exact hH
      | true =>
        dsimp only [cond_true]
        obtain ⟨x', e, hx⟩ := h2
        cases e
        obtain ⟨d, hd, hc⟩ := an_rH_get hH hg
        rw [h1] at hd
        cases hd
        obtain ⟨y', e, y1, y2⟩ := an_iv_ok hT h5 hb
        cases e
        refine an_rH_sub hH h1 ⟨hc.1, hc.2.1, an_tgs_ok hc.2.2 (by rw [← hx]; exact h4) y1 y2⟩
    · exact hH
  · exact hH
theorem an_tg_ok {ρ : List Int} {Z : an_Z} {h0 hp : sm_H} (hZ : an_rZ ρ Z h0 hp) : an_rZ ρ (an_tg Z) h0 hp := by
  have key : ∀ (M : List an_Fc) (H : an_H), (∀ f ∈ M, an_rf ρ hp f) → an_rH ρ H hp → an_rH ρ (M.foldl (an_tg1 Z.1) H) hp := by
    intro M
    induction M with
    | nil => intro H _ h; exact h
    | cons f t ih => intro H hM h; exact ih _ (fun g hg => hM g (List.mem_cons_of_mem _ hg)) (an_tg1_ok hZ.1 h (hM f List.mem_cons_self))
  exact ⟨hZ.1, key _ _ hZ.2.2.2 hZ.2.1, hZ.2.2⟩
noncomputable def an_mc (m : Nat) (Tg Tn : an_T) (a b : an_C) (k : Nat) : Option Nat := match a, b with
  | .inl p, .inl q => cond (Nat.beq p.1 q.1 && an_sgi p.2 q.2) (some k) none
  | .inr p, .inr q => cond (Nat.beq p.1 q.1) (an_ml m Tg Tn p.2 q.2 k) none
  | _, _ => none
noncomputable def an_mh (m : Nat) (Tg Tn : an_T) : an_H → an_H → Nat → Option Nat
  | [], [], k => some k
  | a :: t, b :: u, k => match an_mc m Tg Tn a b k with
    | some k' => an_mh m Tg Tn t u k'
    | none => none
  | _, _, _ => none
noncomputable def an_ein : List Nat → Nat → Bool
  | [], _ => false
  | a :: t, k => Nat.beq a k || an_ein t k
theorem an_ein_ok : ∀ {l : List Nat} {k : Nat}, an_ein l k = true → k ∈ l
  | a :: t, k, h => by
    unfold an_ein at h
    rw [Bool.or_eq_true, Nat.beq_eq] at h
    rcases h with h | h
    · rw [h]; exact List.mem_cons_self
    · exact List.mem_cons_of_mem _ (an_ein_ok h)
  | [], _, h => by cases h
noncomputable def an_sub' (a b : List Nat) : Bool := a.all (an_ein b)
/-- the first m bounds of the pattern hold -/
noncomputable def an_low : Nat → an_T → an_T → Bool
  | 0, _, _ => true
  | m + 1, p :: t, q :: u => ile q.1 p.1 && (ile p.2 q.2 && an_low m t u)
  | _, _, _ => false
noncomputable def an_fits (m : Nat) (ls : an_L) (st : List an_S) (Z : an_Z) (ls' : an_L) (st' : List an_S) (Z' : an_Z) : Bool := an_low m Z.1 Z'.1 && (an_sub' Z.2.2.1 Z'.2.2.1 && an_nil Z'.2.2.2) && (match an_mo m Z.1 Z'.1 ls' ls m with
  | some k => match an_ml m Z.1 Z'.1 st' st k with
    | some k => match an_mh m Z.1 Z'.1 Z'.2.1 Z.2.1 k with
      | some k => Nat.beq k Z'.1.length
      | none => false
    | none => false
  | none => false)
section ANM
variable {m : Nat} {Tg Tn : an_T} {ρ σ : List Int}
noncomputable def an_MI (m : Nat) (Tn : an_T) (ρ : List Int) (k : Nat) (σ : List Int) : Prop := σ.length = k ∧ m ≤ k ∧ m ≤ ρ.length ∧ (∀ s, s < m → σ[s]? = ρ[s]?) ∧ (∀ (s : Nat) (b : Int × Int) (r : Int), Tn[s]? = some b → σ[s]? = some r → b.1 ≤ r ∧ r ≤ b.2)
theorem an_MI_ext {k : Nat} {x : Int} {b : Int × Int} (h : an_MI m Tn ρ k σ) (hb : Tn[k]? = some b) (h1 : b.1 ≤ x) (h2 : x ≤ b.2) : an_MI m Tn ρ (k + 1) (σ ++ [x]) := by
  obtain ⟨i1, i2, i3, i4, i5⟩ := h
  refine ⟨by rw [List.length_append, i1]; rfl, by omega, i3, fun s hs => ?_, fun s b' r hb' hr => ?_⟩
  · rw [List.getElem?_append_left (by omega)]; exact i4 s hs
  · by_cases c : s < σ.length
    · rw [List.getElem?_append_left c] at hr
      exact i5 s b' r hb' hr
    · rw [List.getElem?_append_right (by omega)] at hr
      by_cases c2 : s = σ.length
      · subst c2
        rw [Nat.sub_self] at hr
        cases hr
        rw [i1, hb] at hb'
        cases hb'
        exact ⟨h1, h2⟩
      · rw [List.getElem?_eq_none (by simp; omega)] at hr
        cases hr
theorem an_m1_ok {k k' : Nat} {a b : an_S} {v : Value} (hI : an_MI m Tn ρ k σ) (hT : an_rT Tg ρ) (hv : an_rv ρ b v) (h : an_m1 m Tg Tn k a b = some k') : ∃ e : List Int, an_MI m Tn ρ k' (σ ++ e) ∧ an_rv (σ ++ e) a v := by
  unfold an_m1 at h
  split at h
  · rename_i s c
    cases hc : (Nat.beq s k && Nat.ble m k) with
    | true =>
      rw [hc] at h
      rw [Bool.and_eq_true, Nat.beq_eq, Nat.ble_eq] at hc
      obtain ⟨rfl, hc2⟩ := hc
      dsimp only [cond_true] at h
      split at h
      · rename_i p q hp hq
        cases hd : (ieq c 0 && ile q.1 p.1 && ile p.2 q.2) with
        | false => rw [hd] at h; cases h
        | true =>
          rw [hd] at h
          cases h
          rw [Bool.and_eq_true, Bool.and_eq_true, ieq_iff, ile_iff, ile_iff] at hd
          obtain ⟨⟨rfl, d1⟩, d2⟩ := hd
          obtain ⟨x, rfl, x1, x2⟩ := an_iv_ok hT hv hp
          refine ⟨[x.toInt], an_MI_ext hI hq (by omega) (by omega), ⟨x, x.toInt, rfl, ?_, by omega⟩⟩
          rw [List.getElem?_append_right (by rw [hI.1]; exact Nat.le_refl _), hI.1, Nat.sub_self]
          rfl
      · cases h
    | false =>
      rw [hc] at h
      dsimp only [cond_false] at h
      split at h
      · rename_i s' c'
        cases hd : (Nat.beq s s' && Nat.blt s m && ieq c c') with
        | false => rw [hd] at h; cases h
        | true =>
          rw [hd] at h
          cases h
          rw [Bool.and_eq_true, Bool.and_eq_true, Nat.beq_eq, Nat.blt_eq, ieq_iff] at hd
          obtain ⟨⟨rfl, d1⟩, rfl⟩ := hd
          obtain ⟨x, r, rfl, h2, h3⟩ := hv
          refine ⟨[], by simpa using hI, ⟨x, r, rfl, ?_, h3⟩⟩
          rw [List.append_nil, hI.2.2.2.1 s d1]
          exact h2
      · cases h
  · rename_i c
    split at h
    · rename_i p hp
      cases hd : (ile c p.1 && ile p.2 c) with
      | false => rw [hd] at h; cases h
      | true =>
        rw [hd] at h
        cases h
        rw [Bool.and_eq_true, ile_iff, ile_iff] at hd
        obtain ⟨x, rfl, x1, x2⟩ := an_iv_ok hT hv hp
        exact ⟨[], by simpa using hI, ⟨x, rfl, by omega⟩⟩
    · cases h
  · rename_i r
    split at h
    · rename_i r'
      cases hd : Nat.beq r r' with
      | false => rw [hd] at h; cases h
      | true =>
        rw [hd] at h
        cases h
        have hd := Nat.beq_eq.mp hd
        subst hd
        exact ⟨[], by simpa using hI, hv⟩
    · cases h
  · split at h
    · cases h
      exact ⟨[], by simpa using hI, hv⟩
    · cases h
theorem an_ml_ok (hT : an_rT Tg ρ) : ∀ (as bs : List an_S) (vs : List Value) (k k' : Nat) (σ : List Int), an_MI m Tn ρ k σ → an_rF ρ bs vs → an_ml m Tg Tn as bs k = some k' → ∃ e : List Int, an_MI m Tn ρ k' (σ ++ e) ∧ an_rF (σ ++ e) as vs := by
  intro as
  induction as with
  | nil =>
    intro bs vs k k' σ hI hF h
    match bs, vs, hF, h with
    | [], [], _, h => cases h; exact ⟨[], by simpa using hI, trivial⟩
    | [], _ :: _, hF, _ => exact hF.elim
    | _ :: _, _, _, h => cases h
  | cons a t ih =>
    intro bs vs k k' σ hI hF h
    match bs, vs, hF, h with
    | b :: u, v :: w, hF, h =>
      unfold an_ml at h
      split at h
      · rename_i k1 hk1
        obtain ⟨e1, i1, r1⟩ := an_m1_ok hI hT hF.1 hk1
        obtain ⟨e2, i2, r2⟩ := ih u w k1 k' (σ ++ e1) i1 hF.2 h
        exact ⟨e1 ++ e2, by rw [← List.append_assoc]; exact i2, by rw [← List.append_assoc]; exact ⟨an_rv_ext e2 r1, r2⟩⟩
      · cases h
    | [], _, _, h => cases h
    | _ :: _, [], hF, _ => exact hF.elim
theorem an_rL_cons {o : Option an_S} {t : an_L} {c : Option Value} {lc : sm_L} (h : an_rL ρ (o :: t) (c :: lc)) : (∀ a, o = some a → ∃ v, c = some v ∧ an_rv ρ a v) ∧ an_rL ρ t lc := ⟨fun a ha => by
  obtain ⟨v, h1, h2⟩ := h.2 0 a (by rw [ha]; rfl)
  exact ⟨v, by simpa using h1, h2⟩, by have := h.1; simpa using this, fun i a ha => h.2 (i + 1) a ha⟩
theorem an_rL_mk {o : Option an_S} {t : an_L} {c : Option Value} {lc : sm_L} (h1 : ∀ a, o = some a → ∃ v, c = some v ∧ an_rv ρ a v) (h2 : an_rL ρ t lc) : an_rL ρ (o :: t) (c :: lc) := ⟨by rw [List.length_cons, List.length_cons, h2.1], fun i a ha => by
  match i, ha with
  | 0, ha =>
    obtain ⟨v, e1, e2⟩ := h1 a (by simpa using ha)
    exact ⟨v, by rw [e1]; rfl, e2⟩
  | i + 1, ha => exact h2.2 i a ha⟩
theorem an_mo_ok (hT : an_rT Tg ρ) : ∀ (as bs : an_L) (lc : sm_L) (k k' : Nat) (σ : List Int), an_MI m Tn ρ k σ → an_rL ρ bs lc → an_mo m Tg Tn as bs k = some k' → ∃ e : List Int, an_MI m Tn ρ k' (σ ++ e) ∧ an_rL (σ ++ e) as lc := by
  intro as
  induction as with
  | nil =>
    intro bs lc k k' σ hI hF h
    match bs, h with
    | [], h =>
      cases h
      exact ⟨[], by simpa using hI, hF.1, fun i a ha => by cases ha⟩
  | cons a t ih =>
    intro bs lc k k' σ hI hF h
    match bs, lc, hF, h with
    | b :: u, c :: w, hF, h =>
      obtain ⟨q1, q2⟩ := an_rL_cons hF
      cases a with
      | none =>
        obtain ⟨e, i1, r1⟩ := ih u w k k' σ hI q2 h
        exact ⟨e, i1, an_rL_mk (fun a z => by cases z) r1⟩
      | some a =>
        cases b with
        | none => cases h
        | some b =>
          unfold an_mo at h
          split at h
          · rename_i k1 hk1
            obtain ⟨v, rfl, hv⟩ := q1 b rfl
            obtain ⟨e1, i1, r1⟩ := an_m1_ok hI hT hv hk1
            obtain ⟨e2, i2, r2⟩ := ih u w k1 k' (σ ++ e1) i1 q2 h
            refine ⟨e1 ++ e2, by rw [← List.append_assoc]; exact i2, ?_⟩
            rw [← List.append_assoc]
            exact an_rL_mk (fun a' z => by cases z; exact ⟨v, rfl, an_rv_ext e2 r1⟩) r2
          · cases h
    | [], _, _, h => cases a <;> cases h
    | _ :: _, [], hF, _ => exact absurd hF.1 (by simp)
theorem an_mc_ok {a b : an_C} {d : sm_C} {k k' : Nat} (hT : an_rT Tg ρ) (hI : an_MI m Tn ρ k σ) (hC : an_rC ρ b d) (h : an_mc m Tg Tn a b k = some k') : ∃ e : List Int, an_MI m Tn ρ k' (σ ++ e) ∧ an_rC (σ ++ e) a d := by
  unfold an_mc at h
  split at h
  · rename_i p q
    cases hd : (Nat.beq p.1 q.1 && an_sgi p.2 q.2) with
    | false => rw [hd] at h; cases h
    | true =>
      rw [hd] at h
      cases h
      rw [Bool.and_eq_true, Nat.beq_eq] at hd
      exact ⟨[], by simpa using hI, an_rC_sgi hd.1 hd.2 hC⟩
  · rename_i p q
    cases hd : Nat.beq p.1 q.1 with
    | false => rw [hd] at h; cases h
    | true =>
      rw [hd] at h
      have hd := Nat.beq_eq.mp hd
      match d, hC with
      | .inr o, hC =>
        obtain ⟨e, i1, r1⟩ := an_ml_ok hT _ _ _ _ _ _ hI hC.2 h
        exact ⟨e, i1, by rw [hd]; exact hC.1, r1⟩
      | .inl (_, .inl _), hC => exact hC.elim
      | .inl (_, .inr _), hC => exact hC.elim
  · cases h
theorem an_mh_ok (hT : an_rT Tg ρ) : ∀ (as bs : an_H) (hp : sm_H) (k k' : Nat) (σ : List Int), an_MI m Tn ρ k σ → an_rH ρ bs hp → an_mh m Tg Tn as bs k = some k' → ∃ e : List Int, an_MI m Tn ρ k' (σ ++ e) ∧ an_rH (σ ++ e) as hp := by
  intro as
  induction as with
  | nil =>
    intro bs vs k k' σ hI hF h
    match bs, vs, hF, h with
    | [], [], _, h => cases h; exact ⟨[], by simpa using hI, trivial⟩
    | [], _ :: _, hF, _ => exact hF.elim
    | _ :: _, _, _, h => cases h
  | cons a t ih =>
    intro bs vs k k' σ hI hF h
    match bs, vs, hF, h with
    | b :: u, v :: w, hF, h =>
      unfold an_mh at h
      split at h
      · rename_i k1 hk1
        obtain ⟨e1, i1, r1⟩ := an_mc_ok hT hI hF.1 hk1
        obtain ⟨e2, i2, r2⟩ := ih u w k1 k' (σ ++ e1) i1 hF.2 h
        exact ⟨e1 ++ e2, by rw [← List.append_assoc]; exact i2, by rw [← List.append_assoc]; exact ⟨an_rC_ext e2 r1, r2⟩⟩
      · cases h
    | [], _, _, h => cases h
    | _ :: _, [], hF, _ => exact hF.elim
theorem an_low_ok : ∀ (m : Nat) (Tg Tn : an_T) (s : Nat) (b : Int × Int), an_low m Tg Tn = true → s < m → Tn[s]? = some b → ∃ b', Tg[s]? = some b' ∧ b.1 ≤ b'.1 ∧ b'.2 ≤ b.2 := by
  intro m
  induction m with
  | zero => intro _ _ s b _ hs; omega
  | succ m ih =>
    intro Tg Tn s b h hs hb
    match Tg, Tn, h with
    | p :: t, q :: u, h =>
      unfold an_low at h
      rw [Bool.and_eq_true, Bool.and_eq_true, ile_iff, ile_iff] at h
      match s, hs, hb with
      | 0, _, hb => cases hb; exact ⟨p, rfl, h.1, h.2.1⟩
      | s + 1, hs, hb => exact ih t u s b h.2.2 (by omega) hb
    | [], _, h => cases h
    | _ :: _, [], h => cases h
theorem an_fits_ok {ls ls' : an_L} {st st' : List an_S} {Z Z' : an_Z} {lc : sm_L} {sc : List Value} {h0 hp : sm_H} (hm : m ≤ ρ.length) (h : an_fits m ls st Z ls' st' Z' = true) (hL : an_rL ρ ls lc) (hS : an_rF ρ st sc) (hZ : an_rZ ρ Z h0 hp) : ∃ σ : List Int, (∀ s, s < m → σ[s]? = ρ[s]?) ∧ m ≤ σ.length ∧ an_rL σ ls' lc ∧ an_rF σ st' sc ∧ an_rZ σ Z' h0 hp := by
  unfold an_fits at h
  rw [Bool.and_eq_true, Bool.and_eq_true] at h
  obtain ⟨⟨h1, h2⟩, h3⟩ := h
  rw [Bool.and_eq_true] at h2
  have hI : an_MI m Z'.1 ρ m (ρ.take m) := by
    refine ⟨by simp; omega, Nat.le_refl _, hm, fun s hs => List.getElem?_take_of_lt hs, fun s b r hb hr => ?_⟩
    have hs : s < m := by
      rcases Nat.lt_or_ge s m with z | z
      · exact z
      · rw [List.getElem?_eq_none (by simp; omega)] at hr; cases hr
    rw [List.getElem?_take_of_lt hs] at hr
    obtain ⟨b', e1, e2, e3⟩ := an_low_ok m _ _ s b h1 hs hb
    have := hZ.1.2 s b' r e1 hr
    omega
  split at h3
  · rename_i k1 hk1
    obtain ⟨e1, i1, r1⟩ := an_mo_ok hZ.1 _ _ _ _ _ _ hI hL hk1
    split at h3
    · rename_i k2 hk2
      obtain ⟨e2, i2, r2⟩ := an_ml_ok hZ.1 _ _ _ _ _ _ i1 hS hk2
      split at h3
      · rename_i k3 hk3
        obtain ⟨e3, i3, r3⟩ := an_mh_ok hZ.1 _ _ _ _ _ _ i2 hZ.2.1 hk3
        have h3 := Nat.beq_eq.mp h3
        refine ⟨_, i3.2.2.2.1, by rw [i3.1]; exact i3.2.1, an_rL_ext e3 (an_rL_ext e2 r1), an_rF_ext e3 r2, ⟨by rw [i3.1]; exact h3.symm, i3.2.2.2.2⟩, r3, ⟨⟨fun k c hk hn => hZ.2.2.1.1.1 k c hk fun z => hn (an_ein_ok (List.all_eq_true.mp h2.1 k z)), an_rS_sub hZ.2.2.1.1.2 (fun w hw => an_ein_ok (List.all_eq_true.mp h2.1 w hw))⟩, hZ.2.2.1.2⟩, by rw [an_nil_eq h2.2]; exact an_rM_nil⟩
      · cases h3
    · cases h3
  · cases h3
end ANM
