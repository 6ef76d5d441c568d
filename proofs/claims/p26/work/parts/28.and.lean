/-! the driver: a method's places from one on, until its ends or a node; calls by a function that is given -/
abbrev an_E : Type := Option an_S × an_Z
abbrev an_KT : Type := Nat → List an_S → an_Z → Option (List an_E)
noncomputable def an_take (st : List an_S) (k : Nat) : Option (List an_S × List an_S) := cond (Nat.ble k st.length && Nat.ble (an_w (st.drop k)) 8) (some ((st.take k).reverse, st.drop k)) none
noncomputable def an_cS (st : List an_S) (μ : Nat) : Option (Nat × List an_S × List an_S) := match sm_mt μ with
  | some E => cond (Nat.beq E.2.2.2.2.2.2.1 0) (match an_take st E.2.2.2.2.2.1 with
    | some q => some (μ, q.1, q.2)
    | none => none) none
  | none => none
noncomputable def an_cV (st : List an_S) (μ : Nat) (Z : an_Z) : Option (Nat × List an_S × List an_S) := match sm_mt μ with
  | some E => cond (Nat.beq E.2.2.2.2.2.2.1 1) (match an_take st (E.2.2.2.2.2.1 + 1) with
    | some (.inr (.inl q) :: as, r) => (match Z.2.1[q]? with
      | some (.inr o) => cond (Nat.beq o.1 E.2.2.2.2.1) (some (μ, .inr (.inl q) :: as, r)) none
      | _ => none)
    | _ => none) none
  | none => none
noncomputable def an_cI (st : List an_S) (μ : Nat) : Option (Nat × List an_S × List an_S) := match sm_mt μ with
  | some E => cond (Nat.beq E.2.2.2.2.2.2.1 2) (match an_take st (E.2.2.2.2.2.1 + 1) with
    | some (.inr (.inl q) :: as, r) => some (μ, .inr (.inl q) :: as, r)
    | _ => none) none
  | none => none
noncomputable def an_cal (i : Instr) (a : Nat) (st : List an_S) (Z : an_Z) : Option (Nat × List an_S × List an_S) := match i with
  | .invokestatic _ => cond (Nat.blt a 9990) (an_cS st a) none
  | .invokevirtual _ => cond (Nat.blt a 9990) (an_cV st a Z) none
  | .invokespecial _ => cond (Nat.blt a 9990) (an_cI st a) none
  | _ => none
noncomputable def an_end (i : Instr) (b : Nat) (st : List an_S) (Z : an_Z) : Option an_E := match i with
  | .ireturn => match st with
    | [.inl a] => cond (Nat.beq b 0) (some (some (.inl a), Z)) (match an_iv Z.1 (.inl a) with
      | some p => cond (Nat.beq b 1 && ile 0 p.1 && ile p.2 1) (some (some (.inl a), Z)) none
      | none => none)
    | _ => none
  | .lreturn => match st with
    | [.inr (.inr _)] => some (some (.inr (.inr ())), Z)
    | _ => none
  | .return_ => match st with
    | [] => some (none, Z)
    | _ => none
  | _ => none
noncomputable def an_all {α β : Type} (f : α → Option (List β)) : List α → Option (List β)
  | [] => some []
  | [a] => f a
  | a :: b :: t => match f a with
    | some x => match an_all f (b :: t) with
      | some y => some (x ++ y)
      | none => none
    | none => none
abbrev an_N : Type := Nat → Option (an_L → List an_S → an_Z → Bool)
abbrev an_X : Type := Nat → an_L → List an_S → an_Z → Option (List an_E)
noncomputable def an_in' (nd : an_N) (ih : an_X) (g : an_G) : Option (List an_E) := match nd g.1 with
  | some c => cond (c g.2.1 g.2.2.1 g.2.2.2) (some []) none
  | none => ih g.1 g.2.1 g.2.2.1 g.2.2.2
noncomputable def an_go (K : an_KT) (nd : an_N) (ih : an_X) (q : Option sm_I) : an_X := fun pc ls st Z => match q with
  | none => none
  | some q => match an_cal q.1 q.2.2.1 st Z with
    | some f => match K f.1 f.2.1 Z with
      | some Es => an_all (fun E : an_E => an_in' nd ih (pc + 3, ls, E.1.toList ++ f.2.2, E.2)) Es
      | none => none
    | none => match an_end q.1 q.2.2.2 st Z with
      | some E => some [E]
      | none => match an_x0 q.1 q.2.2.1 q.2.2.2 pc ls st Z with
        | some L => an_all (an_in' nd ih) L
        | none => none
noncomputable def an_ex (K : an_KT) (cd : Nat → Option sm_I) (nd : an_N) (n : Nat) : an_X := Nat.rec (fun _ _ _ _ => none) (fun _ ih pc => an_go K nd ih (cd pc) pc) n
section AND
variable {ρ : List Int} {h0 hp : sm_H} {Z : an_Z} {ls : an_L} {lc : sm_L} {st : List an_S} {sc : List Value} {pc : Nat}
noncomputable def an_rr (ρ : List Int) (o : Option an_S) (v : Option Value) : Prop := an_rF ρ o.toList v.toList
/-- the calls' function tells the truth, d deep -/
noncomputable def an_KO (d : Nat) (K : an_KT) : Prop := ∀ (μ : Nat) (as : List an_S) (Z : an_Z) (Es : List an_E) (ρ : List Int) (h0 hp : sm_H) (vs : List Value), K μ as Z = some Es → an_WF h0 → an_rF ρ as vs → an_rZ ρ Z h0 hp → ∃ v hp', EM d μ vs hp v hp' ∧ ∃ E ∈ Es, ∃ e : List Int, an_rr (ρ ++ e) E.1 v ∧ an_rZ (ρ ++ e) E.2 h0 hp'
theorem an_rF_drop : ∀ (k : Nat) {st : List an_S} {sc : List Value}, an_rF ρ st sc → an_rF ρ (st.drop k) (sc.drop k)
  | 0, _, _, h => h
  | k + 1, [], [], _ => trivial
  | k + 1, _ :: _, _ :: _, h => an_rF_drop k h.2
  | _ + 1, [], _ :: _, h => h.elim
  | _ + 1, _ :: _, [], h => h.elim
theorem an_rF_take : ∀ (k : Nat) {st : List an_S} {sc : List Value}, an_rF ρ st sc → an_rF ρ (st.take k) (sc.take k)
  | 0, _, _, _ => trivial
  | k + 1, [], [], _ => trivial
  | k + 1, _ :: _, _ :: _, h => ⟨h.1, an_rF_take k h.2⟩
  | _ + 1, [], _ :: _, h => h.elim
  | _ + 1, _ :: _, [], h => h.elim
theorem an_rF_app : ∀ {a b : List an_S} {c d : List Value}, an_rF ρ a c → an_rF ρ b d → an_rF ρ (a ++ b) (c ++ d)
  | [], _, [], _, _, h => h
  | _ :: _, _, _ :: _, _, h, h' => ⟨h.1, an_rF_app h.2 h'⟩
  | [], _, _ :: _, _, h, _ => h.elim
  | _ :: _, _, [], _, h, _ => h.elim
theorem an_rF_rev : ∀ {a : List an_S} {c : List Value}, an_rF ρ a c → an_rF ρ a.reverse c.reverse
  | [], [], _ => trivial
  | _ :: _, _ :: _, h => by
    rw [List.reverse_cons, List.reverse_cons]
    exact an_rF_app (an_rF_rev h.2) ⟨h.1, trivial⟩
  | [], _ :: _, h => h.elim
  | _ :: _, [], h => h.elim
theorem an_take_ok {k : Nat} {q : List an_S × List an_S} (hS : an_rF ρ st sc) (h : an_take st k = some q) : ∃ p, sm_take sc k = some p ∧ an_rF ρ q.1 p.1 ∧ an_rF ρ q.2 p.2 := by
  unfold an_take at h
  cases hb : (Nat.ble k st.length && Nat.ble (an_w (st.drop k)) 8) with
  | false => rw [hb] at h; cases h
  | true =>
    rw [hb] at h
    cases h
    rw [Bool.and_eq_true, Nat.ble_eq, Nat.ble_eq] at hb
    refine ⟨((sc.take k).reverse, sc.drop k), ?_, an_rF_rev (an_rF_take k hS), an_rF_drop k hS⟩
    unfold sm_take
    rw [if_pos ⟨by rw [← an_rF_len hS]; exact hb.1, by rw [an_w_ok (an_rF_drop k hS)]; exact hb.2⟩]
theorem an_cS_ok {μ : Nat} {f : Nat × List an_S × List an_S} (hS : an_rF ρ st sc) (h : an_cS st μ = some f) : ∃ as r, sm_cS sc μ = some (.inr (.inl (f.1, as, r))) ∧ an_rF ρ f.2.1 as ∧ an_rF ρ f.2.2 r := by
  unfold an_cS at h
  unfold sm_cS
  split at h
  · rename_i E hE
    cases hb : Nat.beq E.2.2.2.2.2.2.1 0 with
    | false => rw [hb] at h; cases h
    | true =>
      rw [hb] at h
      dsimp only [cond_true] at h
      split at h
      · rename_i q hq
        cases h
        obtain ⟨p, p1, p2, p3⟩ := an_take_ok hS hq
        refine ⟨p.1, p.2, ?_, p2, p3⟩
        rw [hE]
        dsimp only
        rw [if_pos (Nat.beq_eq.mp hb), p1]
      · cases h
  · cases h
theorem an_cI_ok {μ : Nat} {f : Nat × List an_S × List an_S} (hS : an_rF ρ st sc) (h : an_cI st μ = some f) : ∃ as r, sm_cI sc μ = some (.inr (.inl (f.1, as, r))) ∧ an_rF ρ f.2.1 as ∧ an_rF ρ f.2.2 r := by
  unfold an_cI at h
  unfold sm_cI
  split at h
  · rename_i E hE
    cases hb : Nat.beq E.2.2.2.2.2.2.1 2 with
    | false => rw [hb] at h; cases h
    | true =>
      rw [hb] at h
      dsimp only [cond_true] at h
      split at h
      · rename_i q as r hq
        cases h
        obtain ⟨p, p1, p2, p3⟩ := an_take_ok hS hq
        obtain ⟨pa, pr⟩ := p
        match pa, p1, p2 with
        | w :: pa, p1, p2 =>
          have hw : w = .ref q := p2.1
          subst hw
          refine ⟨.ref q :: pa, pr, ?_, p2, p3⟩
          rw [hE]
          dsimp only
          rw [if_pos (Nat.beq_eq.mp hb), p1]
        | [], _, p2 => exact p2.elim
      · cases h
  · cases h
theorem an_cV_ok {μ : Nat} {f : Nat × List an_S × List an_S} (hS : an_rF ρ st sc) (hZ : an_rZ ρ Z h0 hp) (h : an_cV st μ Z = some f) : ∃ as r, sm_cV sc μ hp = some (.inr (.inl (f.1, as, r))) ∧ an_rF ρ f.2.1 as ∧ an_rF ρ f.2.2 r := by
  unfold an_cV at h
  unfold sm_cV
  split at h
  · rename_i E hE
    cases hb : Nat.beq E.2.2.2.2.2.2.1 1 with
    | false => rw [hb] at h; cases h
    | true =>
      rw [hb] at h
      dsimp only [cond_true] at h
      split at h
      · rename_i q as r hq
        split at h
        · rename_i o ho
          cases hc : Nat.beq o.1 E.2.2.2.2.1 with
          | false => rw [hc] at h; cases h
          | true =>
            rw [hc] at h
            cases h
            obtain ⟨p, p1, p2, p3⟩ := an_take_ok hS hq
            obtain ⟨pa, pr⟩ := p
            obtain ⟨d, d1, d2⟩ := an_rH_get hZ.2.1 ho
            match d, d2 with
            | .inr o', d2 =>
              match pa, p1, p2 with
              | w :: pa, p1, p2 =>
                have hw : w = .ref q := p2.1
                subst hw
                refine ⟨.ref q :: pa, pr, ?_, p2, p3⟩
                rw [hE]
                dsimp only
                rw [if_pos (Nat.beq_eq.mp hb), p1]
                dsimp only
                rw [d1]
                dsimp only
                rw [if_pos (by rw [← d2.1]; exact Nat.beq_eq.mp hc)]
              | [], _, p2 => exact p2.elim
            | .inl (_, .inl _), d2 => exact d2.elim
            | .inl (_, .inr _), d2 => exact d2.elim
        · cases h
      · cases h
  · cases h
theorem an_cal_ok {i : Instr} {a b : Nat} {f : Nat × List an_S × List an_S} (hS : an_rF ρ st sc) (hZ : an_rZ ρ Z h0 hp) (h : an_cal i a st Z = some f) : ∃ as r, sm_x0 i a b pc lc sc hp = some (.inr (.inl (f.1, as, r))) ∧ an_rF ρ f.2.1 as ∧ an_rF ρ f.2.2 r := by
  unfold an_cal at h
  split at h
  · cases hb : Nat.blt a 9990 with
    | false => rw [hb] at h; cases h
    | true =>
      rw [hb] at h
      have hb := Nat.blt_eq.mp hb
      obtain ⟨as, r, h1, h2⟩ := an_cS_ok hS h
      refine ⟨as, r, ?_, h2⟩
      show (if a = 9998 then none else if a = 9997 then sm_ac sc pc lc hp else sm_cS sc a) = _
      rw [if_neg (by omega), if_neg (by omega)]
      exact h1
  · cases hb : Nat.blt a 9990 with
    | false => rw [hb] at h; cases h
    | true =>
      rw [hb] at h
      have hb := Nat.blt_eq.mp hb
      obtain ⟨as, r, h1, h2⟩ := an_cV_ok hS hZ h
      refine ⟨as, r, ?_, h2⟩
      show (if a = 9998 then none else sm_cV sc a hp) = _
      rw [if_neg (by omega)]
      exact h1
  · cases hb : Nat.blt a 9990 with
    | false => rw [hb] at h; cases h
    | true =>
      rw [hb] at h
      have hb := Nat.blt_eq.mp hb
      obtain ⟨as, r, h1, h2⟩ := an_cI_ok hS h
      refine ⟨as, r, ?_, h2⟩
      show (if a = 9999 then sm_oi sc pc lc hp else sm_cI sc a) = _
      rw [if_neg (by omega)]
      exact h1
  · cases h
theorem an_end_ok {i : Instr} {a b : Nat} {E : an_E} (hS : an_rF ρ st sc) (hZ : an_rZ ρ Z h0 hp) (h : an_end i b st Z = some E) : ∃ v, sm_x0 i a b pc lc sc hp = some (.inr (.inr v)) ∧ an_rr ρ E.1 v ∧ E.2 = Z := by
  unfold an_end at h
  split at h
  · split at h
    · rename_i w
      match sc, hS with
      | [v], hS =>
        obtain ⟨x, rfl⟩ := an_isint hS.1
        have key : b = 0 ∨ (b = 1 ∧ (x = 0 ∨ x = 1)) ∧ True → E = (some (.inl w), Z) → ∃ v, sm_x0 .ireturn a b pc lc [.int x] hp = some (.inr (.inr v)) ∧ an_rr ρ E.1 v ∧ E.2 = Z := fun k e => by
          subst e
          refine ⟨some (.int x), ?_, hS, rfl⟩
          show (if b = 0 ∨ (b = 1 ∧ (x = 0 ∨ x = 1)) then (some (.inr (.inr (some (.int x)))) : Option sm_R) else none) = _
          rw [if_pos (k.imp id fun z => z.1)]
        cases hb : Nat.beq b 0 with
        | true =>
          rw [hb] at h
          cases h
          exact key (Or.inl (Nat.beq_eq.mp hb)) rfl
        | false =>
          rw [hb] at h
          dsimp only [cond_false] at h
          split at h
          · rename_i p hp'
            cases hc : (Nat.beq b 1 && ile 0 p.1 && ile p.2 1) with
            | false => rw [hc] at h; cases h
            | true =>
              rw [hc] at h
              cases h
              rw [Bool.and_eq_true, Bool.and_eq_true, Nat.beq_eq, ile_iff, ile_iff] at hc
              obtain ⟨y, e, y1, y2⟩ := an_iv_ok hZ.1 hS.1 hp'
              cases e
              refine key (Or.inr ⟨⟨hc.1.1, ?_⟩, trivial⟩) rfl
              rcases (show x.toInt = 0 ∨ x.toInt = 1 by omega) with z | z
              · exact Or.inl (Int32.toInt_inj.mp z)
              · exact Or.inr (Int32.toInt_inj.mp z)
          · cases h
      | [], hS => exact hS.elim
      | _ :: _ :: _, hS => exact hS.2.elim
    · cases h
  · split at h
    · cases h
      match sc, hS with
      | [v], hS =>
        obtain ⟨y, rfl⟩ := hS.1
        exact ⟨some (.long y), rfl, ⟨⟨y, rfl⟩, trivial⟩, rfl⟩
      | [], hS => exact hS.elim
      | _ :: _ :: _, hS => exact hS.2.elim
    · cases h
  · split at h
    · cases h
      match sc, hS with
      | [], _ => exact ⟨none, rfl, trivial, rfl⟩
    · cases h
  · cases h
theorem an_all_ok {α β : Type} {f : α → Option (List β)} : ∀ {l : List α} {r : List β}, an_all f l = some r → ∀ a ∈ l, ∃ x, f a = some x ∧ ∀ b ∈ x, b ∈ r
  | [], _, _, a, ha => by cases ha
  | [c], r, h, a, ha => by
    cases List.mem_singleton.mp ha
    exact ⟨r, h, fun b hb => hb⟩
  | c :: c' :: t, r, h, a, ha => by
    unfold an_all at h
    split at h
    · rename_i x hx
      split at h
      · rename_i y hy
        cases h
        rcases List.mem_cons.mp ha with rfl | ha
        · exact ⟨x, hx, fun b hb => List.mem_append_left _ hb⟩
        · obtain ⟨z, z1, z2⟩ := an_all_ok hy a ha
          exact ⟨z, z1, fun b hb => List.mem_append_right _ (z2 b hb)⟩
      · cases h
    · cases h
/-- at a node the run is known -/
noncomputable def an_HN (d : Nat) (cd : Nat → Option sm_I) (nd : an_N) (h0 : sm_H) (Q : Option Value → sm_H → Prop) (ρ : List Int) : Prop := ∀ (pc : Nat) (c : an_L → List an_S → an_Z → Bool) (ls : an_L) (st : List an_S) (Z : an_Z) (e : List Int) (lc : sm_L) (sc : List Value) (hp : sm_H), nd pc = some c → c ls st Z = true → an_rL (ρ ++ e) ls lc → an_rF (ρ ++ e) st sc → an_rZ (ρ ++ e) Z h0 hp → ∃ v hp', EV d cd pc lc sc hp v hp' ∧ Q v hp'
theorem an_HN_ext {d : Nat} {cd : Nat → Option sm_I} {nd : an_N} {Q : Option Value → sm_H → Prop} (e : List Int) (h : an_HN d cd nd h0 Q ρ) : an_HN d cd nd h0 Q (ρ ++ e) := fun pc c ls st Z e' lc sc hp h1 h2 h3 h4 h5 => by
  rw [List.append_assoc] at h3 h4 h5
  exact h pc c ls st Z (e ++ e') lc sc hp h1 h2 h3 h4 h5
noncomputable def an_HE (h0 : sm_H) (Q : Option Value → sm_H → Prop) (ρ : List Int) (Es : List an_E) : Prop := ∀ E ∈ Es, ∀ (e : List Int) (v : Option Value) (hp' : sm_H), an_rr (ρ ++ e) E.1 v → an_rZ (ρ ++ e) E.2 h0 hp' → Q v hp'
theorem an_HE_ext {Q : Option Value → sm_H → Prop} {Es Es' : List an_E} (e : List Int) (h : an_HE h0 Q ρ Es) (hs : ∀ E ∈ Es', E ∈ Es) : an_HE h0 Q (ρ ++ e) Es' := fun E hE e' v hp' h1 h2 => by
  rw [List.append_assoc] at h1 h2
  exact h E (hs E hE) (e ++ e') v hp' h1 h2
theorem an_ex_ok {d : Nat} {K : an_KT} {cd : Nat → Option sm_I} {nd : an_N} {Q : Option Value → sm_H → Prop} (hwf : an_WF h0) (hK : an_KO d K) : ∀ (n pc : Nat) (ls : an_L) (st : List an_S) (Z : an_Z) (Es : List an_E) (ρ : List Int) (lc : sm_L) (sc : List Value) (hp : sm_H), an_ex K cd nd n pc ls st Z = some Es → an_rL ρ ls lc → an_rF ρ st sc → an_rZ ρ Z h0 hp → an_HN d cd nd h0 Q ρ → an_HE h0 Q ρ Es → ∃ v hp', EV d cd pc lc sc hp v hp' ∧ Q v hp' := by
  intro n
  induction n with
  | zero => intro pc ls st Z Es ρ lc sc hp h; cases h
  | succ n ih =>
    intro pc ls st Z Es ρ lc sc hp h hL hS hZ hN hE
    have h : an_go K nd (an_ex K cd nd n) (cd pc) pc ls st Z = some Es := h
    have next : ∀ (g : an_G) (Es' : List an_E) (e : List Int) (lc' : sm_L) (sc' : List Value) (hp' : sm_H), an_in' nd (an_ex K cd nd n) g = some Es' → (∀ E ∈ Es', E ∈ Es) → an_rL (ρ ++ e) g.2.1 lc' → an_rF (ρ ++ e) g.2.2.1 sc' → an_rZ (ρ ++ e) g.2.2.2 h0 hp' → ∃ v hp'', EV d cd g.1 lc' sc' hp' v hp'' ∧ Q v hp'' := fun g Es' e lc' sc' hp' hg hs gL gS gZ => by
      unfold an_in' at hg
      split at hg
      · rename_i c hc
        cases hb : c g.2.1 g.2.2.1 g.2.2.2 with
        | false => rw [hb] at hg; cases hg
        | true => exact hN g.1 c g.2.1 g.2.2.1 g.2.2.2 e lc' sc' hp' hc hb gL gS gZ
      · exact ih g.1 g.2.1 g.2.2.1 g.2.2.2 Es' (ρ ++ e) lc' sc' hp' hg gL gS gZ (an_HN_ext e hN) (an_HE_ext e hE hs)
    unfold an_go at h
    split at h
    · cases h
    · rename_i q hq
      split at h
      · rename_i f hf
        split at h
        · rename_i Es1 hEs1
          obtain ⟨as, r, x1, x2, x3⟩ := an_cal_ok (b := q.2.2.2) (pc := pc) (lc := lc) hS hZ hf
          obtain ⟨v, hp1, y1, E, hE1, e, y2, y3⟩ := hK f.1 f.2.1 Z Es1 ρ h0 hp as hEs1 hwf x2 hZ
          obtain ⟨Es2, z1, z2⟩ := an_all_ok h E hE1
          obtain ⟨w, hp2, w1, w2⟩ := next _ Es2 e lc (v.toList ++ r) hp1 z1 z2 (an_rL_ext e hL) (an_rF_app y2 (an_rF_ext e x3)) y3
          exact ⟨w, hp2, ev_call hq x1 y1 w1, w2⟩
        · cases h
      · split at h
        · rename_i E hE'
          cases h
          obtain ⟨v, x1, x2, x3⟩ := an_end_ok (a := q.2.2.1) (pc := pc) (lc := lc) hS hZ hE'
          exact ⟨v, hp, ev_ret hq x1, hE E (List.mem_singleton.mpr rfl) [] v hp (by simpa using x2) (by rw [x3]; simpa using hZ)⟩
        · split at h
          · rename_i L hLs
            obtain ⟨f, x1, g, hg, e, y1, y2, y3, y4⟩ := an_step hLs hL hS hZ
            obtain ⟨Es2, z1, z2⟩ := an_all_ok h g hg
            obtain ⟨w, hp2, w1, w2⟩ := next g Es2 e f.2.1 f.2.2.1 f.2.2.2 z1 z2 y2 y3 y4
            rw [y1] at w1
            exact ⟨w, hp2, ev_step hq x1 w1, w2⟩
          · cases h
end AND
