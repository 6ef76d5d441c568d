/-! all calls return and keep the bounds -/
theorem al_n {α : Type} {P : α → Prop} : ∀ x ∈ ([] : List α), P x := fun _ h => by cases h
theorem al_c {α : Type} {P : α → Prop} {a : α} {l : List α} (h : P a) (t : ∀ x ∈ l, P x) : ∀ x ∈ a :: l, P x := fun x hx => by
  rcases List.mem_cons.mp hx with rfl | hx
  · exact h
  · exact t x hx
theorem iv_lk_all {fb : List (Nat × Int × Int)} {G : Nat → Int32} (h : ∀ q ∈ fb, q.2.1 ≤ (G q.1).toInt ∧ (G q.1).toInt ≤ q.2.2) : ∀ j b, iv_lk fb j = some b → b.1 ≤ (G j).toInt ∧ (G j).toInt ≤ b.2 := by
  induction fb with
  | nil => intro j b hb; cases hb
  | cons q t ih =>
    intro j b hb
    unfold iv_lk at hb
    cases e : Nat.beq q.1 j with
    | true =>
      rw [e] at hb
      cases hb
      have := h q List.mem_cons_self
      rw [Nat.beq_eq.mp e] at this
      exact this
    | false =>
      rw [e] at hb
      exact ih (fun q hq => h q (List.mem_cons_of_mem _ hq)) j b hb
noncomputable def iv_lhc (lh : List (Nat × Nat)) : Bool := lh.all (fun q => match hz_P[q.1]? with
  | some (.inl p) => Nat.beq p.2 q.2
  | _ => false)
theorem iv_up {fb : List (Nat × Int × Int)} {lh : List (Nat × Nat)} {F F' : Nat → Nat → Int32} {A A' : Nat → List Int32} {L : Nat → List Int64} (hc : (iv_uH fb (lh.map Prod.fst) 0 IV hz_P && iv_lhc lh) = true) (hI : ivH IV (hz F A L)) (hF : frF (fb.map Prod.fst) F F') (hA : frA (lh.map Prod.fst) A A') (hb : ∀ q ∈ fb, q.2.1 ≤ (F' 67 q.1).toInt ∧ (F' 67 q.1).toInt ≤ q.2.2) (hl : ∀ q ∈ lh, (A' q.1).length = q.2) : ivH IV (hz F' A' L) := by
  rw [Bool.and_eq_true] at hc
  rw [hz_rb] at hI ⊢
  refine iv_uH_ok (fun a b h => hF a b (fun z => h.elim (fun n => n z.1) (fun n => iv_lk_none n z.2))) (iv_lk_all (G := F' 67) hb) hA (fun k kd n hk hP => ?_) IV hz_P 0 (fun j => by rw [Nat.zero_add]) hc.1 hI
  obtain ⟨q, hq, rfl⟩ := List.mem_map.mp hk
  have h1 := List.all_eq_true.mp hc.2 q hq
  rw [hP] at h1
  have h1 : Nat.beq n q.2 = true := h1
  rw [hl q hq, Nat.beq_eq.mp h1]
theorem ivF_get : ∀ {fs : List (Nat ⊕ (Int × Int))} {vs : List Value} {j : Nat} {b : Int × Int}, ivF fs vs → fs[j]? = some (.inr b) → ∃ x : Int32, vs[j]? = some (.int x) ∧ b.1 ≤ x.toInt ∧ x.toInt ≤ b.2
  | .inr c :: t, v :: u, 0, b, h, e => by
    cases e
    obtain ⟨x, rfl, x1, x2⟩ := h.1
    exact ⟨x, rfl, x1, x2⟩
  | .inl c :: t, v :: u, 0, b, h, e => by cases e
  | .inl c :: t, v :: u, j + 1, b, h, e => ivF_get (fs := t) (vs := u) (j := j) h.2 e
  | .inr c :: t, v :: u, j + 1, b, h, e => ivF_get (fs := t) (vs := u) (j := j) h.2 e
  | [], [], _, _, _, e => by cases e
  | [], _ :: _, _, _, h, _ => h.elim
  | .inl _ :: _, [], _, _, h, _ => h.elim
  | .inr _ :: _, [], _, _, h, _ => h.elim
noncomputable def iv_bd (I : List iv_C) (k j : Nat) : Option (Int × Int) := match I[k]? with
  | some (.inr o) => (match o.2[j]? with
    | some (.inr b) => some b
    | _ => none)
  | _ => none
theorem iv_fb {I : List iv_C} {hp : sm_H} {k j : Nat} {b : Int × Int} (h : ivH I hp) (hb : iv_bd I k j = some b) : b.1 ≤ (exF hp k j).toInt ∧ (exF hp k j).toInt ≤ b.2 := by
  unfold iv_bd at hb
  split at hb
  · rename_i o ho
    split at hb
    · rename_i b' hb'
      cases hb
      obtain ⟨d, d1, d2⟩ := ivH_get h ho
      match d, d1, d2 with
      | .inr p, d1, d2 =>
        obtain ⟨x, x1, x2⟩ := ivF_get d2.2 hb'
        have e : exF hp k j = x := by
          unfold exF
          rw [d1]
          dsimp only
          rw [x1]
        rw [e]
        exact x2
      | .inl _, _, d2 => exact d2.elim
    · cases hb
  · cases hb
section INV
variable {hp : sm_H}
theorem iv_hI (hI : ivH IV hp) : ivH IV (hz (exF hp) (exA hp) (exL hp)) := (iv_hz hI) ▸ hI
theorem iv_hW (hI : ivH IV hp) (hW : an_WF hp) : an_WF (hz (exF hp) (exA hp) (exL hp)) := (iv_hz hI) ▸ hW
end INV
set_option maxRecDepth 100000 in
theorem iv_k151 : (iv_uH [(8, 0, 0), (9, 0, 240), (10, 0, 240), (11, (-2147483648), 2147483647), (12, (-2147483648), 2147483647), (13, (-2147483648), 2147483647), (14, (-2147483648), 2147483647), (15, (-2147483648), 2147483647), (16, (-2147483648), 2147483647), (17, 0, 16)] (([(72, 260), (73, 260), (74, 16), (75, 16), (76, 16), (77, 16), (78, 260), (79, 16), (80, 16), (81, 16), (82, 16)] : List (Nat × Nat)).map Prod.fst) 0 IV hz_P && iv_lhc [(72, 260), (73, 260), (74, 16), (75, 16), (76, 16), (77, 16), (78, 260), (79, 16), (80, 16), (81, 16), (82, 16)]) = true := by decide +kernel
theorem rt_m151 : cRet 151 1 67 := fun xs hp hl hW hI => by
  match xs, hl with
  | [x], _ =>
    have e := iv_hz hI
    have hI' := iv_hI hI
    have hW' := iv_hW hI hW
    have b17 := iv_fb (k := 67) (j := 17) (b := (0, 16)) hI rfl
    have key : wp_M 400 151 [.ref 67, .int x] (hz (exF hp) (exA hp) (exL hp)) (fun v hp' => ∃ r : Int32, v = some (.int r) ∧ an_WF hp' ∧ ivH IV hp') := by
      refine r_law (d := 391) ⟨iv_len hI rfl (by decide), iv_len hI rfl (by decide), iv_len hI rfl (by decide), iv_len hI rfl (by decide), iv_len hI rfl (by decide), iv_len hI rfl (by decide), iv_len hI rfl (by decide)⟩ ⟨iv_len hI rfl (by decide), iv_len hI rfl (by decide), iv_len hI rfl (by decide), iv_len hI rfl (by decide), iv_len hI rfl (by decide)⟩ ⟨_, rfl, hW', hI'⟩ (fun r F' A' hP => ⟨r, rfl, ?_, ?_⟩)
      · obtain ⟨f1, f2, p1, p2, p3, p4, p5, p6, l78, l79, l80, l81, l82, h⟩ := hP
        rcases h with ⟨g1, g2⟩ | ⟨g1, _⟩
        · exact wf_same hW' g1 (g2 78 (by decide) (by decide)) (g2 80 (by decide) (by decide)) (g2 81 (by decide) (by decide)) (g2 82 (by decide) (by decide))
        · exact g1
      · obtain ⟨f1, f2, p1, p2, p3, p4, p5, p6, l78, l79, l80, l81, l82, h⟩ := hP
        obtain ⟨q1, q2, q3, q4, q5, q6, q7⟩ := p6
        have h17 : 0 ≤ (F' 67 17).toInt ∧ (F' 67 17).toInt ≤ 16 := by
          rcases h with ⟨g1, _⟩ | ⟨_, g2, g3⟩
          · rw [g1]; exact b17
          · exact ⟨g2, g3⟩
        have h8 : 0 ≤ (F' 67 8).toInt ∧ (F' 67 8).toInt ≤ 0 := by rw [p5]; decide
        exact iv_up iv_k151 hI' f1 f2 (al_c h8 (al_c ⟨p1, p2⟩ (al_c ⟨p3, p4⟩ (al_c (an_top _) (al_c (an_top _) (al_c (an_top _) (al_c (an_top _) (al_c (an_top _) (al_c (an_top _) (al_c h17 al_n)))))))))) (al_c q2 (al_c q3 (al_c q4 (al_c q5 (al_c q6 (al_c q7 (al_c l78 (al_c l79 (al_c l80 (al_c l81 (al_c l82 al_n)))))))))))
    rw [← e] at key
    obtain ⟨v, hp', m1, r, rfl, w, i⟩ := key
    exact ⟨r, hp', m1, w, i⟩
  | [], h => cases h
  | _ :: _ :: _, h => cases h
set_option maxRecDepth 100000 in
theorem iv_k221 : (iv_uH [(8, 0, 260), (9, 0, 240), (10, 0, 240), (11, (-2147483648), 2147483647)] (([(91, 9)] : List (Nat × Nat)).map Prod.fst) 0 IV hz_P && iv_lhc [(91, 9)]) = true := by decide +kernel
theorem rt_m221 : cRet 221 1 67 := fun xs hp hl hW hI => by
  match xs, hl with
  | [x], _ =>
    have e := iv_hz hI
    have hI' := iv_hI hI
    have hW' := iv_hW hI hW
    obtain ⟨m, em, hm, -⟩ := iv_many hI
    have b8 := iv_fb (k := 67) (j := 8) (b := (0, 260)) hI rfl
    have b9 := iv_fb (k := 67) (j := 9) (b := (0, 240)) hI rfl
    have b10 := iv_fb (k := 67) (j := 10) (b := (0, 240)) hI rfl
    have key : wp_M 400 221 [.ref 67, .int x] (hz (exF hp) (exA hp) (exL hp)) (fun v hp' => ∃ r : Int32, v = some (.int r) ∧ an_WF hp' ∧ ivH IV hp') := by
      refine r_ag (d := 394) (iv_len hI rfl (by decide)) (iv_len hI rfl (by decide)) (iv_len hI rfl (by decide)) (by rw [em]; exact hm.1) (by rw [em]; exact hm.2) (fun r F' A' f1 f2 l91 hc => ⟨r, rfl, wf_same hW' (f1 67 17 (by decide)) (f2 78 (by decide)) (f2 80 (by decide)) (f2 81 (by decide)) (f2 82 (by decide)), ?_⟩)
      have hb : ((0 : Int) ≤ (F' 67 8).toInt ∧ (F' 67 8).toInt ≤ 260) ∧ ((0 : Int) ≤ (F' 67 9).toInt ∧ (F' 67 9).toInt ≤ 240) ∧ ((0 : Int) ≤ (F' 67 10).toInt ∧ (F' 67 10).toInt ≤ 240) := by
        rcases hc with rfl | ⟨c1, c2, c3⟩
        · exact ⟨b8, b9, b10⟩
        · rw [c1]
          exact ⟨by decide, ⟨c2.1, by omega⟩, ⟨c3.1, by omega⟩⟩
      exact iv_up iv_k221 hI' f1 f2 (al_c hb.1 (al_c hb.2.1 (al_c hb.2.2 (al_c (an_top _) al_n)))) (al_c l91 al_n)
    rw [← e] at key
    obtain ⟨v, hp', m1, r, rfl, w, i⟩ := key
    exact ⟨r, hp', m1, w, i⟩
  | [], h => cases h
  | _ :: _ :: _, h => cases h
set_option maxRecDepth 100000 in
theorem iv_k223 : (iv_uH [] (([(92, 6), (93, 6)] : List (Nat × Nat)).map Prod.fst) 0 IV hz_P && iv_lhc [(92, 6), (93, 6)]) = true := by decide +kernel
theorem rt_m223 : cRet 223 2 67 := fun xs hp hl hW hI => by
  match xs, hl with
  | [x, y], _ =>
    have e := iv_hz hI
    have hI' := iv_hI hI
    have hW' := iv_hW hI hW
    obtain ⟨m, em, hm, -⟩ := iv_many hI
    have key : wp_M 400 223 [.ref 67, .int x, .int y] (hz (exF hp) (exA hp) (exL hp)) (fun v hp' => ∃ r : Int32, v = some (.int r) ∧ an_WF hp' ∧ ivH IV hp') := by
      refine r_or (d := 394) (n := m.toInt.toNat) (by omega) (by omega) (by rw [em]; omega) (iv_len hI rfl (by decide)) (iv_len hI rfl (by decide)) (iv_len hI rfl (by decide)) (fun r A' f2 l92 l93 => ⟨r, rfl, wf_same hW' rfl (f2 78 (by decide)) (f2 80 (by decide)) (f2 81 (by decide)) (f2 82 (by decide)), ?_⟩)
      exact iv_up iv_k223 hI' frF_rf f2 al_n (al_c l92 (al_c l93 al_n))
    rw [← e] at key
    obtain ⟨v, hp', m1, r, rfl, w, i⟩ := key
    exact ⟨r, hp', m1, w, i⟩
  | [], h => cases h
  | [_], h => cases h
  | _ :: _ :: _ :: _, h => cases h
set_option maxRecDepth 100000 in
theorem iv_k234 : (iv_uH [] (([(87, 6), (89, 6), (92, 6), (93, 6), (94, 6)] : List (Nat × Nat)).map Prod.fst) 0 IV hz_P && iv_lhc [(87, 6), (89, 6), (92, 6), (93, 6), (94, 6)]) = true := by decide +kernel
theorem rt_m234 : cRet 234 2 67 := fun xs hp hl hW hI => by
  match xs, hl with
  | [x, y], _ =>
    have e := iv_hz hI
    have hI' := iv_hI hI
    have hW' := iv_hW hI hW
    obtain ⟨m, em, hm, -⟩ := iv_many hI
    have key : wp_M 400 234 [.ref 67, .int x, .int y] (hz (exF hp) (exA hp) (exL hp)) (fun v hp' => ∃ r : Int32, v = some (.int r) ∧ an_WF hp' ∧ ivH IV hp') := by
      refine r_li (d := 395) (n := m.toInt.toNat) (by omega) (by omega) (by rw [em]; omega) (iv_len hI rfl (by decide)) (iv_len hI rfl (by decide)) (iv_len hI rfl (by decide)) (iv_len hI rfl (by decide)) (iv_len hI rfl (by decide)) (iv_len hI rfl (by decide)) (fun r A' f2 l => ⟨r, rfl, wf_same hW' rfl (f2 78 (by decide)) (f2 80 (by decide)) (f2 81 (by decide)) (f2 82 (by decide)), ?_⟩)
      exact iv_up iv_k234 hI' frF_rf f2 al_n (al_c l.1 (al_c l.2.1 (al_c l.2.2.1 (al_c l.2.2.2.1 (al_c l.2.2.2.2 al_n)))))
    rw [← e] at key
    obtain ⟨v, hp', m1, r, rfl, w, i⟩ := key
    exact ⟨r, hp', m1, w, i⟩
  | [], h => cases h
  | [_], h => cases h
  | _ :: _ :: _ :: _, h => cases h
/-- at the start -/
noncomputable def ivFb : List (Nat ⊕ (Int × Int)) → List Value → Bool
  | [], [] => true
  | .inl r :: t, .ref k :: u => Nat.beq k r && ivFb t u
  | .inr b :: t, .int x :: u => ile b.1 x.toInt && (ile x.toInt b.2 && ivFb t u)
  | _, _ => false
noncomputable def iv_ae (sg : List (Nat × Int × Int)) : Nat → List Int32 → Bool
  | _, [] => true
  | i, x :: t => (match an_at sg i with
    | some b => ile b.1 x.toInt && ile x.toInt b.2
    | none => true) && iv_ae sg (i + 1) t
noncomputable def ivCb (c : iv_C) (d : sm_C) : Bool := match c, d with
  | .inl a, .inl (k, .inl l) => Nat.beq a.1 k && !Nat.beq k 1 && Nat.beq l.length (an_len a.2) && iv_ae a.2 0 l
  | .inl a, .inl (k, .inr l) => Nat.beq a.1 k && Nat.beq k 1 && Nat.beq l.length (an_len a.2)
  | .inr o, .inr p => Nat.beq o.1 p.1 && ivFb o.2 p.2
  | _, _ => false
noncomputable def ivHb : List iv_C → sm_H → Bool
  | [], [] => true
  | c :: t, d :: u => ivCb c d && ivHb t u
  | _, _ => false
theorem ivFb_ok : ∀ (I : List (Nat ⊕ (Int × Int))) (vs : List Value), ivFb I vs = true → ivF I vs
  | [], [], _ => trivial
  | .inl r :: t, .ref k :: u, h => by
    have h : (Nat.beq k r && ivFb t u) = true := h
    simp only [Bool.and_eq_true, Nat.beq_eq] at h
    exact ⟨by rw [h.1], ivFb_ok t u h.2⟩
  | .inr b :: t, .int x :: u, h => by
    have h : (ile b.1 x.toInt && (ile x.toInt b.2 && ivFb t u)) = true := h
    simp only [Bool.and_eq_true, ile_iff] at h
    exact ⟨⟨x, rfl, h.1, h.2.1⟩, ivFb_ok t u h.2.2⟩
  | [], _ :: _, h => by cases h
  | .inl _ :: _, [], h => by cases h
  | .inr _ :: _, [], h => by cases h
  | .inl _ :: _, .int _ :: _, h => by cases h
  | .inl _ :: _, .long _ :: _, h => by cases h
  | .inl _ :: _, .null :: _, h => by cases h
  | .inr _ :: _, .ref _ :: _, h => by cases h
  | .inr _ :: _, .long _ :: _, h => by cases h
  | .inr _ :: _, .null :: _, h => by cases h
theorem iv_ae_ok {sg : List (Nat × Int × Int)} : ∀ (l : List Int32) (i0 : Nat), iv_ae sg i0 l = true → ∀ (i : Nat) (x : Int32) (b : Int × Int), l[i]? = some x → an_at sg (i0 + i) = some b → b.1 ≤ x.toInt ∧ x.toInt ≤ b.2
  | [], _, _, i, x, b, hx, _ => by cases hx
  | y :: t, i0, h, i, x, b, hx, hb => by
    have h : ((match an_at sg i0 with
      | some b => ile b.1 y.toInt && ile y.toInt b.2
      | none => true) && iv_ae sg (i0 + 1) t) = true := h
    rw [Bool.and_eq_true] at h
    match i, hx, hb with
    | 0, hx, hb =>
      cases hx
      have h1 := h.1
      rw [Nat.add_zero] at hb
      rw [hb] at h1
      simp only [Bool.and_eq_true, ile_iff] at h1
      exact h1
    | i + 1, hx, hb => exact iv_ae_ok t (i0 + 1) h.2 i x b hx (by rw [show i0 + 1 + i = i0 + (i + 1) by omega]; exact hb)
theorem ivCb_ok {c : iv_C} {d : sm_C} (h : ivCb c d = true) : ivC c d := by
  match c, d, h with
  | .inl a, .inl (k, .inl l), h =>
    have h : (Nat.beq a.1 k && !Nat.beq k 1 && Nat.beq l.length (an_len a.2) && iv_ae a.2 0 l) = true := h
    simp only [Bool.and_eq_true, Nat.beq_eq, Bool.not_eq_true'] at h
    obtain ⟨⟨⟨h1, h2⟩, h3⟩, h4⟩ := h
    exact ⟨h1, (fun z => by rw [z] at h2; cases h2), h3, fun i x b hx hb => iv_ae_ok l 0 h4 i x b hx (by rw [Nat.zero_add]; exact hb)⟩
  | .inl a, .inl (k, .inr l), h =>
    have h : (Nat.beq a.1 k && Nat.beq k 1 && Nat.beq l.length (an_len a.2)) = true := h
    simp only [Bool.and_eq_true, Nat.beq_eq] at h
    exact ⟨h.1.1, h.1.2, h.2⟩
  | .inr o, .inr p, h =>
    have h : (Nat.beq o.1 p.1 && ivFb o.2 p.2) = true := h
    simp only [Bool.and_eq_true, Nat.beq_eq] at h
    exact ⟨h.1, ivFb_ok _ _ h.2⟩
  | .inl _, .inr _, h => cases h
  | .inr _, .inl _, h => cases h
theorem ivHb_ok : ∀ (I : List iv_C) (hp : sm_H), ivHb I hp = true → ivH I hp
  | [], [], _ => trivial
  | c :: t, d :: u, h => by
    have h : (ivCb c d && ivHb t u) = true := h
    rw [Bool.and_eq_true] at h
    exact ⟨ivCb_ok h.1, ivHb_ok t u h.2⟩
  | [], _ :: _, h => by cases h
  | _ :: _, [], h => by cases h
set_option maxRecDepth 100000 in
theorem iv_0b : ivHb IV lw_h0 = true := by decide +kernel
theorem iv_0 : ivH IV lw_h0 := ivHb_ok IV lw_h0 iv_0b
theorem wf_0 : an_WF lw_h0 := ⟨0, _, _, _, _, rfl, rfl, rfl, rfl, rfl, by decide, fun q hq => absurd hq (by rw [show (0 : Int32).toInt = 0 from rfl]; omega)⟩
theorem good_of {q : lw_D} {as : List Int32} {hp : sm_H} (hl : as.length = q.2.1) (h : cRet q.2.2.2.1 q.2.1 0) (h' : cRet q.2.2.2.2.2.1 q.2.1 67) (hW : an_WF hp) (hI : ivH IV hp) {J : sm_H → Prop} (hcmp : ∀ (r1 r2 : Int32) (hp1 hp2 : sm_H), EM 400 q.2.2.2.1 (.ref 0 :: as.map Value.int) hp (some (.int r1)) hp1 → an_WF hp1 → ivH IV hp1 → EM 400 q.2.2.2.2.2.1 (.ref 67 :: as.map Value.int) hp1 (some (.int r2)) hp2 → an_WF hp2 → ivH IV hp2 → (q.2.2.2.2.2.2 = true → r1 = r2) ∧ J hp2) : lw_good lw_kM 400 q as hp J := by
  obtain ⟨r1, hp1, m1, w1, i1⟩ := h as hp hl hW hI
  obtain ⟨r2, hp2, m2, w2, i2⟩ := h' as hp1 hl w1 i1
  obtain ⟨c1, c2⟩ := hcmp r1 r2 hp1 hp2 m1 w1 i1 m2 w2 i2
  refine ⟨?_, r1, r2, hp1, hp2, m1, ?_, m2, c1, c2⟩
  · obtain ⟨d, d1, d2⟩ := ivH_get (k := 0) hI rfl
    match d, d1, d2 with
    | .inr o, d1, d2 =>
      obtain ⟨c, fs⟩ := o
      have e : 7 = c := d2.1
      exact ⟨fs, by rw [e]; exact d1⟩
    | .inl _, _, d2 => exact d2.elim
  · obtain ⟨d, d1, d2⟩ := ivH_get (k := 67) i1 rfl
    match d, d1, d2 with
    | .inr o, d1, d2 =>
      obtain ⟨c, fs⟩ := o
      have e : 8 = c := d2.1
      exact ⟨fs, by rw [e]; exact d1⟩
    | .inl _, _, d2 => exact d2.elim
/-- an answer by the arguments alone -/
noncomputable def aRet (μ k : Nat) (bs : an_T) (v : Int) : Prop := ∀ (xs : List Int32) (hp : sm_H), iv_bs bs xs → an_WF hp → ivH IV hp → ∃ (r : Int32) (hp' : sm_H), EM 400 μ (.ref k :: xs.map Value.int) hp (some (.int r)) hp' ∧ r.toInt = v
theorem aRet_of {d k n : Nat} {C : an_Ct} {bs : an_T} {v : Int} (hC : an_CO d C) (hd : d ≤ 400) (h : iv_ck n C IV k bs IV = true) (hv : C.2.2.2.1 = some (some (v, v))) : aRet C.1 k bs v := fun xs hp hb hW hI => by
  obtain ⟨r, hp', m1, m2, m3, m4, -⟩ := iv_ok hC h hW hI hb
  rw [hv] at m4
  obtain ⟨x, e, x1, x2⟩ := m4
  cases e
  exact ⟨r, hp', em_up m1 hd, by omega⟩
theorem aRet_eq {μ μ' : Nat} {bs : an_T} {v : Int} {xs : List Int32} {hp hp1 h1 h2 : sm_H} {r1 r2 : Int32} (a : aRet μ 0 bs v) (b : aRet μ' 67 bs v) (hb : iv_bs bs xs) (hW : an_WF hp) (hI : ivH IV hp) (m1 : EM 400 μ (.ref 0 :: xs.map Value.int) hp (some (.int r1)) h1) (hW1 : an_WF hp1) (hI1 : ivH IV hp1) (m2 : EM 400 μ' (.ref 67 :: xs.map Value.int) hp1 (some (.int r2)) h2) : r1 = r2 := by
  obtain ⟨s1, g1, n1, e1⟩ := a xs hp hb hW hI
  obtain ⟨s2, g2, n2, e2⟩ := b xs hp1 hb hW1 hI1
  rw [em_v m1 n1, em_v m2 n2]
  exact Int32.toInt_inj.mp (e1.trans e2.symm)
