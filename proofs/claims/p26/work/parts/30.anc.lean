/-! contracts of methods: what comes in, what goes out, which fields and arrays may change -/
abbrev an_Md : Type := List (Nat × Nat × Int × Int)
noncomputable def an_fm : an_Md → Nat → Nat → Option (Int × Int)
  | [], _, _ => none
  | q :: t, k, b => cond (Nat.beq q.1 k && Nat.beq q.2.1 b) (some q.2.2) (an_fm t k b)
/-- method, arguments, state, answer, fields that may change, arrays that may be written -/
abbrev an_Ct : Type := Nat × List an_S × an_Z × Option (Option (Int × Int)) × an_Md × List Nat
noncomputable def an_cF (md : an_Md) (k : Nat) : Nat → List Value → List Value → Prop
  | _, [], [] => True
  | b, v :: t, w :: u => (match an_fm md k b with
      | some bd => ∃ x : Int32, w = .int x ∧ bd.1 ≤ x.toInt ∧ x.toInt ≤ bd.2
      | none => w = v) ∧ an_cF md k (b + 1) t u
  | _, _, _ => False
noncomputable def an_cC (md : an_Md) (wr : List Nat) (k : Nat) (c0 : an_C) (c c' : sm_C) : Prop := match c, c' with
  | .inl x, .inl y => (k ∉ wr → y = x) ∧ an_rC [] c0 (.inl y)
  | .inr o, .inr o' => o'.1 = o.1 ∧ an_cF md k 0 o.2 o'.2
  | _, _ => False
noncomputable def an_cH (md : an_Md) (wr : List Nat) : Nat → an_H → sm_H → sm_H → Prop
  | _, [], [], [] => True
  | k, c0 :: t0, c :: t, c' :: t' => an_cC md wr k c0 c c' ∧ an_cH md wr (k + 1) t0 t t'
  | _, _, _, _ => False
noncomputable def an_rs (r : Option (Option (Int × Int))) (v : Option Value) : Prop := match r with
  | none => v = none
  | some none => ∃ y : Int64, v = some (.long y)
  | some (some b) => ∃ x : Int32, v = some (.int x) ∧ b.1 ≤ x.toInt ∧ x.toInt ≤ b.2
/-- the contract is kept, d deep -/
noncomputable def an_CO (d : Nat) (C : an_Ct) : Prop := ∀ (ρ : List Int) (vs : List Value) (hp : sm_H), an_WF hp → an_rF ρ C.2.1 vs → an_rZ ρ C.2.2.1 hp hp → ∃ v hp', EM d C.1 vs hp v hp' ∧ an_rs C.2.2.2.1 v ∧ an_cH C.2.2.2.2.1 C.2.2.2.2.2 0 C.2.2.1.2.1 hp hp' ∧ an_rS C.2.2.2.2.2 hp hp'
noncomputable def an_hF (md : an_Md) (k : Nat) : Nat → List an_S → an_T → List an_S × an_T
  | _, [], T => ([], T)
  | b, a :: t, T => match an_fm md k b with
    | some bd => ((.inl (some T.length, 0)) :: (an_hF md k (b + 1) t (T ++ [bd])).1, (an_hF md k (b + 1) t (T ++ [bd])).2)
    | none => (a :: (an_hF md k (b + 1) t T).1, (an_hF md k (b + 1) t T).2)
noncomputable def an_hC (md : an_Md) (wr : List Nat) (k : Nat) (c0 c : an_C) (T : an_T) : an_C × an_T := match c with
  | .inl a => (cond (an_ein wr k) c0 (.inl a), T)
  | .inr o => (.inr (o.1, (an_hF md k 0 o.2 T).1), (an_hF md k 0 o.2 T).2)
noncomputable def an_hH (md : an_Md) (wr : List Nat) : Nat → an_H → an_H → an_T → an_H × an_T
  | k, c0 :: t0, c :: t, T => ((an_hC md wr k c0 c T).1 :: (an_hH md wr (k + 1) t0 t (an_hC md wr k c0 c T).2).1, (an_hH md wr (k + 1) t0 t (an_hC md wr k c0 c T).2).2)
  | _, _, _, T => ([], T)
noncomputable def an_kbs (wr : List Nat) (f : an_Fc) : Bool := match f with
  | .inl q => !an_ein wr q.1
  | _ => true
noncomputable def an_out (C : an_Ct) (q : an_H × an_T) (W : List Nat × List an_Fc) : an_E := match C.2.2.2.1 with
  | none => (none, q.2, q.1, C.2.2.2.2.2 ++ W.1, W.2.filter (an_kbs C.2.2.2.2.2))
  | some none => (some (.inr (.inr ())), q.2, q.1, C.2.2.2.2.2 ++ W.1, W.2.filter (an_kbs C.2.2.2.2.2))
  | some (some b) => (some (an_new q.2 b).1, (an_new q.2 b).2, q.1, C.2.2.2.2.2 ++ W.1, W.2.filter (an_kbs C.2.2.2.2.2))
/-- the contract leaves THE LAW as it is -/
noncomputable def an_prot (C : an_Ct) : Bool := (!C.2.2.2.2.2.any an_prc) && (match an_fm C.2.2.2.2.1 67 17 with
  | none => true
  | some _ => false)
noncomputable def an_kc (C : an_Ct) : an_KT := fun μ as Z => cond (Nat.beq μ C.1 && an_prot C && an_fits 0 [] as (Z.1, (an_tg Z).2.1, [], []) [] C.2.1 C.2.2.1) (some [an_out C (an_hH C.2.2.2.2.1 C.2.2.2.2.2 0 C.2.2.1.2.1 (an_tg Z).2.1 Z.1) Z.2.2]) none
section ANC
variable {ρ : List Int}
theorem an_rT_app {T : an_T} {b : Int × Int} {x : Int} (hT : an_rT T ρ) (h1 : b.1 ≤ x) (h2 : x ≤ b.2) : an_rT (T ++ [b]) (ρ ++ [x]) := ⟨by rw [List.length_append, List.length_append, hT.1]; rfl, fun s b' r hb hr => by
  by_cases c : s < T.length
  · rw [List.getElem?_append_left c] at hb
    rw [List.getElem?_append_left (by rw [← hT.1]; exact c)] at hr
    exact hT.2 s b' r hb hr
  · by_cases c2 : s = T.length
    · subst c2
      rw [List.getElem?_append_right (Nat.le_refl _), Nat.sub_self] at hb
      rw [List.getElem?_append_right (by rw [hT.1]; exact Nat.le_refl _), hT.1, Nat.sub_self] at hr
      cases hb
      cases hr
      exact ⟨h1, h2⟩
    · rw [List.getElem?_eq_none (by simp; omega)] at hb
      cases hb⟩
theorem an_hF_ok (md : an_Md) (k : Nat) : ∀ (as : List an_S) (b : Nat) (T : an_T) (ρ : List Int) (vs ws : List Value), an_rT T ρ → an_rF ρ as vs → an_cF md k b vs ws → ∃ e : List Int, an_rT (an_hF md k b as T).2 (ρ ++ e) ∧ an_rF (ρ ++ e) (an_hF md k b as T).1 ws := by
  intro as
  induction as with
  | nil =>
    intro b T ρ vs ws hT hF hC
    match vs, ws, hF, hC with
    | [], [], _, _ => exact ⟨[], by rw [List.append_nil]; exact hT, trivial⟩
    | [], _ :: _, _, hC => exact hC.elim
    | _ :: _, _, hF, _ => exact hF.elim
  | cons a t ih =>
    intro b T ρ vs ws hT hF hC
    match vs, ws, hF, hC with
    | v :: vs, w :: ws, hF, hC =>
      obtain ⟨hC1, hC2⟩ := hC
      unfold an_hF
      split at hC1
      · rename_i bd hbd
        dsimp only
        obtain ⟨x, rfl, x1, x2⟩ := hC1
        obtain ⟨e, e1, e2⟩ := ih (b + 1) (T ++ [bd]) (ρ ++ [x.toInt]) vs ws (an_rT_app hT x1 x2) (an_rF_ext _ hF.2) hC2
        refine ⟨x.toInt :: e, ?_, ?_, ?_⟩
        · rw [show ρ ++ x.toInt :: e = ρ ++ [x.toInt] ++ e by simp]; exact e1
        · refine ⟨x, x.toInt, rfl, ?_, by omega⟩
          rw [List.getElem?_append_right (by rw [hT.1]; exact Nat.le_refl _), hT.1, Nat.sub_self]
          rfl
        · rw [show ρ ++ x.toInt :: e = ρ ++ [x.toInt] ++ e by simp]; exact e2
      · rename_i hbd
        dsimp only
        subst hC1
        obtain ⟨e, e1, e2⟩ := ih (b + 1) T ρ vs ws hT hF.2 hC2
        exact ⟨e, e1, an_rv_ext e hF.1, e2⟩
    | _ :: _, [], _, hC => exact hC.elim
    | [], _, hF, _ => exact hF.elim
theorem an_ein_mem : ∀ {l : List Nat} {k : Nat}, k ∈ l → an_ein l k = true
  | a :: t, k, h => by
    unfold an_ein
    rw [Bool.or_eq_true, Nat.beq_eq]
    rcases List.mem_cons.mp h with h | h
    · exact Or.inl h.symm
    · exact Or.inr (an_ein_mem h)
  | [], _, h => by cases h
theorem an_hC_ok {md : an_Md} {wr : List Nat} {k : Nat} {c0 : an_C} {c : an_C} {d d' : sm_C} {T : an_T} (hT : an_rT T ρ) (hc : an_rC ρ c d) (h : an_cC md wr k c0 d d') : ∃ e : List Int, an_rT (an_hC md wr k c0 c T).2 (ρ ++ e) ∧ an_rC (ρ ++ e) (an_hC md wr k c0 c T).1 d' := by
  match d, d', h, hc with
  | .inl x, .inl y, h, hc =>
    match c, hc with
    | .inl a, hc =>
      refine ⟨[], by rw [List.append_nil]; exact hT, ?_⟩
      rw [List.append_nil]
      show an_rC ρ (cond (an_ein wr k) c0 (.inl a)) (.inl y)
      cases hb : an_ein wr k with
      | true => exact an_rC_ext (ρ := []) ρ h.2
      | false =>
        have e := h.1 (fun z => by rw [an_ein_mem z] at hb; cases hb)
        rw [e]
        exact hc
    | .inr o, hc => exact hc.elim
  | .inr o, .inr o', h, hc =>
    match c, hc with
    | .inr p, hc =>
      obtain ⟨e, e1, e2⟩ := an_hF_ok md k p.2 0 T ρ o.2 o'.2 hT hc.2 h.2
      exact ⟨e, e1, by rw [h.1]; exact hc.1, e2⟩
    | .inl a, hc => exact hc.elim
  | .inl _, .inr _, h, _ => exact h.elim
  | .inr _, .inl _, h, _ => exact h.elim
theorem an_hH_ok (md : an_Md) (wr : List Nat) : ∀ (H0 H : an_H) (k : Nat) (T : an_T) (ρ : List Int) (hp hp' : sm_H), an_rT T ρ → an_rH ρ H hp → an_cH md wr k H0 hp hp' → ∃ e : List Int, an_rT (an_hH md wr k H0 H T).2 (ρ ++ e) ∧ an_rH (ρ ++ e) (an_hH md wr k H0 H T).1 hp' := by
  intro H0
  induction H0 with
  | nil =>
    intro H k T ρ hp hp' hT hH hC
    match H, hp, hp', hH, hC with
    | [], [], [], _, _ => exact ⟨[], by rw [List.append_nil]; exact hT, trivial⟩
    | _, [], _ :: _, _, hC => exact hC.elim
    | _, _ :: _, _, _, hC => exact hC.elim
    | _ :: _, [], _, hH, _ => exact hH.elim
  | cons c0 t0 ih =>
    intro H k T ρ hp hp' hT hH hC
    match H, hp, hp', hH, hC with
    | c :: t, d :: u, d' :: u', hH, hC =>
      obtain ⟨e1, f1, f2⟩ := an_hC_ok (ρ := ρ) (T := T) hT hH.1 hC.1
      obtain ⟨e2, g1, g2⟩ := ih t (k + 1) (an_hC md wr k c0 c T).2 (ρ ++ e1) u u' f1 (an_rH_ext e1 hH.2) hC.2
      exact ⟨e1 ++ e2, by rw [← List.append_assoc]; exact g1, by rw [← List.append_assoc]; exact ⟨an_rC_ext e2 f2, g2⟩⟩
    | [], _ :: _, _, hH, _ => exact hH.elim
    | _, [], _, _, hC => exact hC.elim
    | _, _ :: _, [], _, hC => exact hC.elim
theorem an_cH_W {md : an_Md} {wr W : List Nat} {h0 : sm_H} : ∀ (H0 : an_H) (k : Nat) (hp hp' : sm_H), an_cH md wr k H0 hp hp' → ∀ (j : Nat) (c : Nat × (List Int32 ⊕ List Int64)), hp[j]? = some (.inl c) → k + j ∉ wr → hp'[j]? = some (.inl c) := by
  intro H0
  induction H0 with
  | nil =>
    intro k hp hp' h j c hj
    match hp, hp', h with
    | [], [], _ => cases hj
    | [], _ :: _, h => exact h.elim
    | _ :: _, _, h => exact h.elim
  | cons c0 t ih =>
    intro k hp hp' h j c hj hn
    match hp, hp', h with
    | d :: u, d' :: u', h =>
      match j, hj, hn with
      | 0, hj, hn =>
        cases hj
        match d', h with
        | .inl y, h => rw [h.1.1 hn]; rfl
        | .inr _, h => exact h.1.elim
      | j + 1, hj, hn => exact ih (k + 1) u u' h.2 j c hj (by rw [show k + 1 + j = k + (j + 1) by omega]; exact hn)
    | [], _, h => exact h.elim
    | _ :: _, [], h => exact h.elim
theorem an_cF_get {md : an_Md} {k : Nat} : ∀ (vs ws : List Value) (b j : Nat) (v : Value), an_cF md k b vs ws → vs[j]? = some v → an_fm md k (b + j) = none → ws[j]? = some v
  | v0 :: t, w0 :: u, b, 0, v, h, hv, hn => by
    cases hv
    have h1 := h.1
    rw [Nat.add_zero] at hn
    rw [hn] at h1
    dsimp only at h1
    rw [h1]
    rfl
  | v0 :: t, w0 :: u, b, j + 1, v, h, hv, hn => an_cF_get t u (b + 1) j v h.2 hv (by rw [show b + 1 + j = b + (j + 1) by omega]; exact hn)
  | [], [], _, _, _, _, hv, _ => by cases hv
  | [], _ :: _, _, _, _, h, _, _ => h.elim
  | _ :: _, [], _, _, _, h, _, _ => h.elim
theorem an_cH_at {md : an_Md} {wr : List Nat} : ∀ (H0 : an_H) (k : Nat) (hp hp' : sm_H), an_cH md wr k H0 hp hp' → ∀ (j : Nat) (d : sm_C), hp[j]? = some d → ∃ c0 d', hp'[j]? = some d' ∧ an_cC md wr (k + j) c0 d d'
  | c0 :: t, k, d :: u, d' :: u', h, 0, e, he => by cases he; exact ⟨c0, d', rfl, h.1⟩
  | c0 :: t, k, d :: u, d' :: u', h, j + 1, e, he => by
    obtain ⟨c1, e', h1, h2⟩ := an_cH_at t (k + 1) u u' h.2 j e he
    exact ⟨c1, e', h1, by rw [show k + (j + 1) = k + 1 + j by omega]; exact h2⟩
  | [], _, [], [], _, _, _, he => by cases he
  | [], _, [], _ :: _, h, _, _, _ => h.elim
  | [], _, _ :: _, _, h, _, _, _ => h.elim
  | _ :: _, _, [], _, h, _, _, _ => h.elim
  | _ :: _, _, _ :: _, [], h, _, _, _ => h.elim
theorem an_cH_P {C : an_Ct} {hp hp' : sm_H} (hpr : an_prot C = true) (h : an_cH C.2.2.2.2.1 C.2.2.2.2.2 0 C.2.2.1.2.1 hp hp') : an_rP hp hp' := by
  unfold an_prot at hpr
  rw [Bool.and_eq_true, Bool.not_eq_true'] at hpr
  refine ⟨fun k c hk hc => an_cH_W (W := []) (h0 := hp) C.2.2.1.2.1 0 hp hp' h k c hc (fun z => ?_), fun v hv => ?_⟩
  · rw [Nat.zero_add] at z
    have := hpr.1
    rw [List.any_eq_true.mpr ⟨k, z, hk⟩] at this
    cases this
  · unfold an_fld17 at hv ⊢
    split at hv
    · rename_i o ho
      obtain ⟨c0, d', h1, h2⟩ := an_cH_at _ _ _ _ h 67 _ ho
      match d', h2 with
      | .inr o', h2 =>
        rw [h1]
        dsimp only
        refine an_cF_get o.2 o'.2 0 17 v h2.2 hv ?_
        have h3 := hpr.2
        split at h3
        · rename_i hn; exact hn
        · cases h3
      | .inl _, h2 => exact h2.elim
    · cases hv
theorem an_kc_ok {d : Nat} {C : an_Ct} (hC : an_CO d C) : an_KO d (an_kc C) := fun μ as Z Es ρ h0 hp vs h hwf hF hZ0 => by
  have hZ := an_tg_ok hZ0
  unfold an_kc at h
  cases hb : (Nat.beq μ C.1 && an_prot C && an_fits 0 [] as (Z.1, (an_tg Z).2.1, [], []) [] C.2.1 C.2.2.1) with
  | false => rw [hb] at h; cases h
  | true =>
    rw [hb] at h
    cases h
    rw [Bool.and_eq_true, Bool.and_eq_true, Nat.beq_eq] at hb
    obtain ⟨⟨rfl, hpr⟩, hb⟩ := hb
    obtain ⟨σ, _, _, _, s1, s2⟩ := an_fits_ok (h0 := hp) (hp := hp) (lc := []) (Nat.zero_le _) hb ⟨rfl, fun i a z => by cases z⟩ hF ⟨hZ.1, hZ.2.1, an_rW_rf, an_rM_nil⟩
    obtain ⟨v, hp', r1, r2, r3, r4⟩ := hC σ vs hp (an_WF_keep hZ0.2.2.1.2 hwf) s1 s2
    refine ⟨v, hp', r1, _, List.mem_singleton.mpr rfl, ?_⟩
    obtain ⟨e, e1, e2⟩ := an_hH_ok C.2.2.2.2.1 C.2.2.2.2.2 C.2.2.1.2.1 (an_tg Z).2.1 0 Z.1 ρ hp hp' hZ.1 hZ.2.1 r3
    have hW : an_rW (C.2.2.2.2.2 ++ Z.2.2.1) h0 hp' := by
     refine ⟨⟨fun k c hk hn => ?_, an_rS_tr hZ0.2.2.1.1.2 r4⟩, an_rP_tr hZ0.2.2.1.2 (an_cH_P hpr r3)⟩
     · have n1 : k ∉ C.2.2.2.2.2 := fun z => hn (List.mem_append_left _ z)
       have n2 : k ∉ Z.2.2.1 := fun z => hn (List.mem_append_right _ z)
       exact an_cH_W (W := []) (h0 := h0) C.2.2.1.2.1 0 hp hp' r3 k c (hZ0.2.2.1.1.1 k c hk n2) (by rw [Nat.zero_add]; exact n1)
    have hM : an_rM ρ (Z.2.2.2.filter (an_kbs C.2.2.2.2.2)) hp' := fun f hf => by
      obtain ⟨f0, fb⟩ := List.mem_filter.mp hf
      have h1 := hZ0.2.2.2 f f0
      match f, h1, fb with
      | .inl q, ⟨kd, l, x, y, g1, g2⟩, fb =>
        refine ⟨kd, l, x, y, an_cH_W (W := []) (h0 := h0) C.2.2.1.2.1 0 hp hp' r3 q.1 _ g1 (fun z => ?_), g2⟩
        rw [Nat.zero_add] at z
        unfold an_kbs at fb
        dsimp only at fb
        rw [an_ein_mem z] at fb
        cases fb
      | .inr (.inl q), h1, _ => exact h1
      | .inr (.inr q), h1, _ => exact h1
    unfold an_out
    unfold an_rs at r2
    split at r2
    · rename_i hr
      subst r2
      exact ⟨e, trivial, e1, e2, hW, an_rM_ext e hM⟩
    · rename_i hr
      obtain ⟨y, rfl⟩ := r2
      exact ⟨e, ⟨⟨y, rfl⟩, trivial⟩, e1, e2, hW, an_rM_ext e hM⟩
    · rename_i b hr
      obtain ⟨x, rfl, x1⟩ := r2
      obtain ⟨e', g1, g2⟩ := an_new_ok (b := b) (x := x) e1 (fun _ => x1)
      rw [List.append_assoc] at g1 g2
      exact ⟨e ++ e', ⟨g2, trivial⟩, g1, by rw [← List.append_assoc]; exact an_rH_ext e' e2, hW, an_rM_ext _ hM⟩
end ANC
