/-! a contract's ends, and the contract out of its checks -/
noncomputable def an_same (m : Nat) (a b : an_S) : Bool := match a, b with
  | .inl (none, c), .inl (none, c') => ieq c c'
  | .inl (some s, c), .inl (some s', c') => Nat.beq s s' && Nat.blt s m && ieq c c'
  | .inr (.inl r), .inr (.inl r') => Nat.beq r r'
  | _, _ => false
theorem an_same_ok {m : Nat} {ρ0 ρ : List Int} {a b : an_S} {v w : Value} (h : an_same m a b = true) (ha : an_rv ρ0 a v) (hb : an_rv ρ b w) (hag : ∀ s, s < m → ρ[s]? = ρ0[s]?) : w = v := by
  unfold an_same at h
  split at h
  · rw [ieq_iff] at h
    obtain ⟨x, rfl, hx⟩ := ha
    obtain ⟨y, rfl, hy⟩ := hb
    rw [Int32.toInt_inj.mp (show y.toInt = x.toInt by omega)]
  · rw [Bool.and_eq_true, Bool.and_eq_true, Nat.beq_eq, Nat.blt_eq, ieq_iff] at h
    obtain ⟨⟨rfl, h1⟩, rfl⟩ := h
    obtain ⟨x, r, rfl, hr, hx⟩ := ha
    obtain ⟨y, r', rfl, hr', hy⟩ := hb
    rw [hag _ h1, hr] at hr'
    cases hr'
    rw [Int32.toInt_inj.mp (show y.toInt = x.toInt by omega)]
  · have h := Nat.beq_eq.mp h
    subst h
    have ha : v = _ := ha
    have hb : w = _ := hb
    rw [ha, hb]
  · cases h
noncomputable def an_eF (md : an_Md) (m k : Nat) (T : an_T) : Nat → List an_S → List an_S → Bool
  | _, [], [] => true
  | b, a0 :: t0, a :: t => (match an_fm md k b with
      | some bd => match an_iv T a with
        | some p => ile bd.1 p.1 && ile p.2 bd.2
        | none => false
      | none => an_same m a0 a) && an_eF md m k T (b + 1) t0 t
  | _, _, _ => false
noncomputable def an_eC (md : an_Md) (m k : Nat) (T : an_T) (c0 c : an_C) : Bool := match c0, c with
  | .inl p, .inl q => Nat.beq p.1 q.1 && an_sgi p.2 q.2
  | .inr p, .inr q => Nat.beq p.1 q.1 && an_eF md m k T 0 p.2 q.2
  | _, _ => false
noncomputable def an_eH (md : an_Md) (m : Nat) (T : an_T) : Nat → an_H → an_H → Bool
  | _, [], [] => true
  | k, c0 :: t0, c :: t => an_eC md m k T c0 c && an_eH md m T (k + 1) t0 t
  | _, _, _ => false
noncomputable def an_es (r : Option (Option (Int × Int))) (o : Option an_S) (T : an_T) : Bool := match r, o with
  | none, none => true
  | some none, some (.inr (.inr _)) => true
  | some (some b), some a => match an_iv T a with
    | some p => ile b.1 p.1 && ile p.2 b.2
    | none => false
  | _, _ => false
noncomputable def an_ec (C : an_Ct) (E : an_E) : Bool := an_es C.2.2.2.1 E.1 E.2.1 && an_sub' E.2.2.2.1 C.2.2.2.2.2 && an_eH C.2.2.2.2.1 C.2.2.1.1.length E.2.1 0 C.2.2.1.2.1 E.2.2.1
section ANP
variable {m : Nat} {ρ0 ρ : List Int} {T : an_T}
theorem an_eF_ok {md : an_Md} {k : Nat} (hT : an_rT T ρ) (hag : ∀ s, s < m → ρ[s]? = ρ0[s]?) : ∀ (as bs : List an_S) (b : Nat) (vs ws : List Value), an_eF md m k T b as bs = true → an_rF ρ0 as vs → an_rF ρ bs ws → an_cF md k b vs ws := by
  intro as
  induction as with
  | nil =>
    intro bs b vs ws h h1 h2
    match bs, vs, ws, h, h1, h2 with
    | [], [], [], _, _, _ => trivial
    | [], [], _ :: _, _, _, h2 => exact h2.elim
    | [], _ :: _, _, _, h1, _ => exact h1.elim
    | _ :: _, _, _, h, _, _ => cases h
  | cons a0 t0 ih =>
    intro bs b vs ws h h1 h2
    match bs, vs, ws, h, h1, h2 with
    | a :: t, v :: vs, w :: ws, h, h1, h2 =>
      unfold an_eF at h
      rw [Bool.and_eq_true] at h
      refine ⟨?_, ih t (b + 1) vs ws h.2 h1.2 h2.2⟩
      have h := h.1
      split at h
      · rename_i bd hbd
        split at h
        · rename_i p hp
          rw [Bool.and_eq_true, ile_iff, ile_iff] at h
          obtain ⟨x, rfl, x1, x2⟩ := an_iv_ok hT h2.1 hp
          first
            | exact ⟨x, rfl, by omega, by omega⟩
            | (rw [hbd]; exact ⟨x, rfl, by omega, by omega⟩)
        · cases h
      · rename_i hbd
        first
          | exact an_same_ok h h1.1 h2.1 hag
          | (rw [hbd]; exact an_same_ok h h1.1 h2.1 hag)
    | [], _, _, h, _, _ => cases h
    | _ :: _, [], _, _, h1, _ => exact h1.elim
    | _ :: _, _ :: _, [], _, _, h2 => exact h2.elim
theorem an_eC_ok {md : an_Md} {wr : List Nat} {k : Nat} {c0 c : an_C} {d d' : sm_C} (hT : an_rT T ρ) (hag : ∀ s, s < m → ρ[s]? = ρ0[s]?) (h : an_eC md m k T c0 c = true) (h1 : an_rC ρ0 c0 d) (h2 : an_rC ρ c d') (hw : ∀ x, d = .inl x → k ∉ wr → d' = .inl x) : an_cC md wr k c0 d d' := by
  unfold an_eC at h
  split at h
  · rename_i p q
    rw [Bool.and_eq_true, Nat.beq_eq] at h
    match d, d', h1, h2, hw with
    | .inl x, .inl y, h1, h2, hw => exact ⟨fun z => by have := hw x rfl z; cases this; rfl, an_rC_sgi h.1 h.2 h2⟩
    | .inr _, _, h1, _, _ => exact h1.elim
    | .inl (_, .inl _), .inr _, _, h2, _ => exact h2.elim
    | .inl (_, .inr _), .inr _, _, h2, _ => exact h2.elim
  · rename_i p q
    rw [Bool.and_eq_true, Nat.beq_eq] at h
    match d, d', h1, h2 with
    | .inr o, .inr o', h1, h2 => exact ⟨by rw [← h1.1, ← h2.1]; exact h.1.symm, an_eF_ok hT hag _ _ _ _ _ h.2 h1.2 h2.2⟩
    | .inl (_, .inl _), _, h1, _ => exact h1.elim
    | .inl (_, .inr _), _, h1, _ => exact h1.elim
    | .inr _, .inl (_, .inl _), _, h2 => exact h2.elim
    | .inr _, .inl (_, .inr _), _, h2 => exact h2.elim
  · cases h
theorem an_eH_ok {md : an_Md} {wr : List Nat} (hT : an_rT T ρ) (hag : ∀ s, s < m → ρ[s]? = ρ0[s]?) : ∀ (H0 H : an_H) (k : Nat) (hp hp' : sm_H), an_eH md m T k H0 H = true → an_rH ρ0 H0 hp → an_rH ρ H hp' → (∀ (j : Nat) (x : Nat × (List Int32 ⊕ List Int64)), hp[j]? = some (.inl x) → k + j ∉ wr → hp'[j]? = some (.inl x)) → an_cH md wr k H0 hp hp' := by
  intro H0
  induction H0 with
  | nil =>
    intro H k hp hp' h h1 h2 hw
    match H, hp, hp', h, h1, h2 with
    | [], [], [], _, _, _ => trivial
    | [], [], _ :: _, _, _, h2 => exact h2.elim
    | [], _ :: _, _, _, h1, _ => exact h1.elim
    | _ :: _, _, _, h, _, _ => cases h
  | cons c0 t0 ih =>
    intro H k hp hp' h h1 h2 hw
    match H, hp, hp', h, h1, h2, hw with
    | c :: t, d :: u, d' :: u', h, h1, h2, hw =>
      unfold an_eH at h
      rw [Bool.and_eq_true] at h
      refine ⟨an_eC_ok hT hag h.1 h1.1 h2.1 fun x hx hn => ?_, ih t (k + 1) u u' h.2 h1.2 h2.2 fun j x hj hn => hw (j + 1) x hj (by rw [show k + (j + 1) = k + 1 + j by omega]; exact hn)⟩
      have := hw 0 x (by rw [hx]; rfl) hn
      simpa using this
    | [], _, _, h, _, _, _ => cases h
    | _ :: _, [], _, _, h1, _, _ => exact h1.elim
    | _ :: _, _ :: _, [], _, _, h2, _ => exact h2.elim
theorem an_es_ok {r : Option (Option (Int × Int))} {o : Option an_S} {v : Option Value} (hT : an_rT T ρ) (h : an_es r o T = true) (hr : an_rr ρ o v) : an_rs r v := by
  unfold an_es at h
  split at h
  · cases v with
    | none => rfl
    | some v => exact hr.elim
  · cases v with
    | none => exact hr.elim
    | some v =>
      obtain ⟨y, e⟩ := hr.1
      exact ⟨y, by rw [e]⟩
  · rename_i b a
    split at h
    · rename_i p hp
      rw [Bool.and_eq_true, ile_iff, ile_iff] at h
      cases v with
      | none => exact hr.elim
      | some v =>
        obtain ⟨x, rfl, x1, x2⟩ := an_iv_ok hT hr.1 hp
        exact ⟨x, rfl, by omega, by omega⟩
    · cases h
  · cases h
theorem an_ec_ok {C : an_Ct} {E : an_E} {v : Option Value} {h0 hp : sm_H} (h : an_ec C E = true) (hag : ∀ s, s < C.2.2.1.1.length → ρ[s]? = ρ0[s]?) (h0' : an_rH ρ0 C.2.2.1.2.1 h0) (hr : an_rr ρ E.1 v) (hZ : an_rZ ρ E.2 h0 hp) : an_rs C.2.2.2.1 v ∧ an_cH C.2.2.2.2.1 C.2.2.2.2.2 0 C.2.2.1.2.1 h0 hp ∧ an_rS C.2.2.2.2.2 h0 hp := by
  unfold an_ec at h
  rw [Bool.and_eq_true, Bool.and_eq_true] at h
  refine ⟨an_es_ok hZ.1 h.1.1 hr, an_eH_ok hZ.1 hag _ _ _ _ _ h.2 h0' hZ.2.1 fun j x hj hn => hZ.2.2.1.1.1 j x hj fun z => hn ?_, an_rS_sub hZ.2.2.1.1.2 (fun w hw => an_ein_ok (List.all_eq_true.mp h.1.2 w hw))⟩
  have := List.all_eq_true.mp h.1.2 j z
  rw [Nat.zero_add]
  exact an_ein_ok this
end ANP
theorem an_ev_ext' {T : an_T} {σ : List Int} (hT : an_rT T σ) (e : List Int) : ∀ (l : List (Nat × Int)) (r : Int), an_lb T l = some r → an_ev (σ ++ e) l = an_ev σ l
  | [], _, _ => rfl
  | q :: t, r, h => by
    unfold an_lb at h
    split at h
    · rename_i b r' hb hr
      have hs : q.1 < σ.length := by rw [← hT.1]; exact (List.getElem?_eq_some_iff.mp hb).1
      show q.2 * (σ ++ e).getD q.1 0 + an_ev (σ ++ e) t = q.2 * σ.getD q.1 0 + an_ev σ t
      rw [an_ev_ext' hT e t r' hr, List.getD_eq_getElem?_getD, List.getD_eq_getElem?_getD, List.getElem?_append_left hs]
    · cases h
theorem an_ev_ext {T : an_T} {σ : List Int} {F : an_Fm} (h : (match an_lb T F.1 with
    | some r => ile 0 (r + F.2)
    | none => false) = true) (hT : an_rT T σ) (e : List Int) : an_ev (σ ++ e) F.1 = an_ev σ F.1 := by
  split at h
  · rename_i r hr
    exact an_ev_ext' hT e _ r hr
  · cases h
/-- the checks: from the start, and from each node -/
noncomputable def an_ck0 (K : an_KT) (C : an_Ct) (E : sm_M) (N : List an_Nd) (f : Nat) : Bool := match an_in' (an_nd C.2.2.1.1.length none N) (an_ex K E.2.2.2.2.2.2.2.2 (an_nd C.2.2.1.1.length none N) f) (0, an_loc C.2.1 E.2.2.1, [], C.2.2.1) with
  | some Es => Es.all (an_ec C)
  | none => false
noncomputable def an_ckn (K : an_KT) (C : an_Ct) (E : sm_M) (N : List an_Nd) (f : Nat) (n : an_Nd) : Bool := match an_mf 1 n.2.1 n.2.2.2.2.1 ([], n.2.2.2.2.2) with
  | some F => (match an_lb n.2.2.2.1.1 F.1 with
    | some r => ile 0 (r + F.2)
    | none => false) && (match an_ex K E.2.2.2.2.2.2.2.2 (an_nd C.2.2.1.1.length (some F) N) f n.1 n.2.1 n.2.2.1 n.2.2.2.1 with
    | some Es => Es.all (an_ec C)
    | none => false)
  | none => false
theorem an_ck_ok {d f : Nat} {K : an_KT} {C : an_Ct} {E : sm_M} {N : List an_Nd} (hK : an_KO d K) (hE : sm_mt C.1 = some E) (hl : (an_l0 C.2.1).length ≤ E.2.2.1 ∧ E.2.2.1 ≤ 45) (hc0 : an_ck0 K C E N f = true) (hcn : ∀ n ∈ N, an_ckn K C E N f n = true) : an_CO (d + 1) C := fun ρ0 vs hp0 hwf hF hZ => by
  have hm0 : C.2.2.1.1.length = ρ0.length := hZ.1.1
  have posn : ∀ (n : an_Nd), n ∈ N → ∀ (σ : List Int) (lc : sm_L) (hp : sm_H), an_rL σ n.2.1 lc → an_rZ σ n.2.2.2.1 hp0 hp → 0 ≤ an_mv lc n.2.2.2.2.1 + n.2.2.2.2.2 := by
    intro n hn σ lc hp gL gZ
    have hc := hcn n hn
    unfold an_ckn at hc
    split at hc
    · rename_i F hF'
      rw [Bool.and_eq_true] at hc
      have hc1 := hc.1
      have eF := an_mf_ok gL _ _ _ hF'
      dsimp only [an_ev] at eF
      split at hc1
      · rename_i r hr
        rw [ile_iff] at hc1
        have := an_lb_ok gZ.1 _ _ hr
        omega
      · cases hc1
    · cases hc
  have nodes : ∀ (k : Nat) (n : an_Nd), n ∈ N → ∀ (σ : List Int) (lc : sm_L) (sc : List Value) (hp : sm_H), (∀ s, s < C.2.2.1.1.length → σ[s]? = ρ0[s]?) → C.2.2.1.1.length ≤ σ.length → an_rL σ n.2.1 lc → an_rF σ n.2.2.1 sc → an_rZ σ n.2.2.2.1 hp0 hp → an_mv lc n.2.2.2.2.1 + n.2.2.2.2.2 ≤ (k : Int) → ∃ v hp', EV d E.2.2.2.2.2.2.2.2 n.1 lc sc hp v hp' ∧ (an_rs C.2.2.2.1 v ∧ an_cH C.2.2.2.2.1 C.2.2.2.2.2 0 C.2.2.1.2.1 hp0 hp' ∧ an_rS C.2.2.2.2.2 hp0 hp') := by
    intro k
    induction k using Nat.strongRecOn with
    | ind k ih =>
      intro n hn σ lc sc hp hag hlen gL gS gZ hk
      have hc := hcn n hn
      unfold an_ckn at hc
      split at hc
      · rename_i F hF'
        rw [Bool.and_eq_true] at hc
        obtain ⟨hc1, hc2⟩ := hc
        have eF := an_mf_ok gL _ _ _ hF'
        dsimp only [an_ev] at eF
        have hc9 := hc1
        have pos : 0 ≤ an_ev σ F.1 + F.2 := by
          split at hc1
          · rename_i r hr
            rw [ile_iff] at hc1
            have := an_lb_ok gZ.1 _ _ hr
            omega
          · cases hc1
        split at hc2
        · rename_i Es hEs
          refine an_ex_ok (Q := fun v hp' => an_rs C.2.2.2.1 v ∧ an_cH C.2.2.2.2.1 C.2.2.2.2.2 0 C.2.2.1.2.1 hp0 hp' ∧ an_rS C.2.2.2.2.2 hp0 hp') hwf hK f n.1 n.2.1 n.2.2.1 n.2.2.2.1 Es σ lc sc hp hEs gL gS gZ ?_ ?_
          · intro pc c ls st Z e lc' sc' hp' hnd hch hL' hS' hZ'
            obtain ⟨n', hn', rfl, hch⟩ := an_nd_mem hnd hch
            unfold an_nc' at hch
            rw [Bool.and_eq_true] at hch
            obtain ⟨g1, g2⟩ := hch
            have dec := an_dec_ok hZ'.1 hZ'.2.2.2 hL' g2
            obtain ⟨τ, t1, t2, t3, t4, t5⟩ := an_fits_ok (by rw [List.length_append]; omega) g1 hL' hS' (an_tg_ok hZ')
            have eE : an_ev (σ ++ e) F.1 = an_ev σ F.1 := an_ev_ext hc9 gZ.1 e
            have pn := posn n' hn' τ lc' hp' t3 t5
            have lt : (an_mv lc' n'.2.2.2.2.1 + n'.2.2.2.2.2).toNat < k := by omega
            refine ih _ lt n' hn' τ lc' sc' hp' (fun s hs => ?_) t2 t3 t4 t5 (by omega)
            rw [t1 s hs, List.getElem?_append_left (by omega)]
            exact hag s hs
          · intro E' hE' e v hp' y1 y2
            refine an_ec_ok (List.all_eq_true.mp hc2 E' hE') (fun s hs => ?_) hZ.2.1 y1 y2
            rw [List.getElem?_append_left (by omega)]
            exact hag s hs
        · cases hc2
      · cases hc
  obtain ⟨l1, l2⟩ := an_loc_ok E.2.2.1 hF
  have hNode : ∀ (F : Option an_Fm) (ρ : List Int), (∀ s, s < C.2.2.1.1.length → ρ[s]? = ρ0[s]?) → C.2.2.1.1.length ≤ ρ.length → an_HN d E.2.2.2.2.2.2.2.2 (an_nd C.2.2.1.1.length F N) hp0 (fun v hp' => an_rs C.2.2.2.1 v ∧ an_cH C.2.2.2.2.1 C.2.2.2.2.2 0 C.2.2.1.2.1 hp0 hp' ∧ an_rS C.2.2.2.2.2 hp0 hp') ρ := fun F ρ hag hlen pc c ls st Z e lc' sc' hp' hnd hch hL' hS' hZ' => by
    obtain ⟨n', hn', rfl, hch⟩ := an_nd_mem hnd hch
    unfold an_nc' at hch
    rw [Bool.and_eq_true] at hch
    obtain ⟨τ, t1, t2, t3, t4, t5⟩ := an_fits_ok (by rw [List.length_append]; omega) hch.1 hL' hS' (an_tg_ok hZ')
    refine nodes (an_mv lc' n'.2.2.2.2.1 + n'.2.2.2.2.2).toNat n' hn' τ lc' sc' hp' (fun s hs => ?_) t2 t3 t4 t5 (by omega)
    rw [t1 s hs, List.getElem?_append_left (by omega)]
    exact hag s hs
  have hN0 := hNode none ρ0 (fun s _ => rfl) (by omega)
  unfold an_ck0 at hc0
  split at hc0
  · rename_i Es hEs
    unfold an_in' at hEs
    split at hEs
    · rename_i c hc
      cases hb : c (an_loc C.2.1 E.2.2.1) [] C.2.2.1 with
      | false => dsimp only at hEs; rw [hb] at hEs; cases hEs
      | true =>
        obtain ⟨v, hp', x1, x2⟩ := hN0 0 c _ [] _ [] (sm_loc vs E.2.2.1) [] hp0 hc hb (by simpa using l1) trivial (by simpa using hZ)
        exact ⟨v, hp', em_in hE ⟨by rw [l2]; exact hl.1, hl.2⟩ x1, x2⟩
    · obtain ⟨v, hp', x1, x2⟩ := an_ex_ok (Q := fun v hp' => an_rs C.2.2.2.1 v ∧ an_cH C.2.2.2.2.1 C.2.2.2.2.2 0 C.2.2.1.2.1 hp0 hp' ∧ an_rS C.2.2.2.2.2 hp0 hp') hwf hK f 0 _ [] _ Es ρ0 (sm_loc vs E.2.2.1) [] hp0 hEs l1 trivial hZ hN0 (fun E' hE' e v hp' y1 y2 => an_ec_ok (List.all_eq_true.mp hc0 E' hE') (fun s hs => by rw [List.getElem?_append_left (by omega)]) hZ.2.1 y1 y2)
      exact ⟨v, hp', em_in hE ⟨by rw [l2]; exact hl.1, hl.2⟩ x1, x2⟩
  · cases hc0
