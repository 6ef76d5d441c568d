/-! what a call leaves as it is -/
theorem cF_len {md : an_Md} {k : Nat} : ∀ (vs ws : List Value) (b : Nat), an_cF md k b vs ws → ws.length = vs.length
  | [], [], _, _ => rfl
  | _ :: t, _ :: u, b, h => by
    show u.length + 1 = t.length + 1
    rw [cF_len t u (b + 1) h.2]
  | [], _ :: _, _, h => h.elim
  | _ :: _, [], _, h => h.elim
theorem cF_some {md : an_Md} {k : Nat} : ∀ (vs ws : List Value) (b j : Nat) (v : Value) (bd : Int × Int), an_cF md k b vs ws → vs[j]? = some v → an_fm md k (b + j) = some bd → ∃ x : Int32, ws[j]? = some (.int x) ∧ bd.1 ≤ x.toInt ∧ x.toInt ≤ bd.2
  | v0 :: t, w0 :: u, b, 0, v, bd, h, hv, hn => by
    have h1 := h.1
    rw [Nat.add_zero] at hn
    rw [hn] at h1
    obtain ⟨x, rfl, x1, x2⟩ := h1
    exact ⟨x, rfl, x1, x2⟩
  | v0 :: t, w0 :: u, b, j + 1, v, bd, h, hv, hn => cF_some t u (b + 1) j v bd h.2 hv (by rw [show b + 1 + j = b + (j + 1) by omega]; exact hn)
  | [], [], _, _, _, _, _, hv, _ => by cases hv
  | [], _ :: _, _, _, _, _, h, _, _ => h.elim
  | _ :: _, [], _, _, _, _, h, _, _ => h.elim
theorem cH_len {md : an_Md} {wr : List Nat} : ∀ (H : an_H) (k : Nat) (hp hp' : sm_H), an_cH md wr k H hp hp' → hp'.length = hp.length
  | [], _, [], [], _ => rfl
  | _ :: t0, k, _ :: t, _ :: t', h => by
    show t'.length + 1 = t.length + 1
    rw [cH_len t0 (k + 1) t t' h.2]
  | [], _, [], _ :: _, h => h.elim
  | [], _, _ :: _, _, h => h.elim
  | _ :: _, _, [], _, h => h.elim
  | _ :: _, _, _ :: _, [], h => h.elim
theorem cH_none {md : an_Md} {wr : List Nat} {H : an_H} {hp hp' : sm_H} {a : Nat} (h : an_cH md wr 0 H hp hp') (hn : hp[a]? = none) : hp'[a]? = none := by
  rw [List.getElem?_eq_none_iff] at hn ⊢
  rw [cH_len H 0 hp hp' h]
  exact hn
theorem cH_F {md : an_Md} {wr : List Nat} {H : an_H} {hp hp' : sm_H} (h : an_cH md wr 0 H hp hp') {a b : Nat} (hn : an_fm md a b = none) : exF hp' a b = exF hp a b := by
  unfold exF
  cases hc : hp[a]? with
  | none => rw [cH_none h hc]
  | some d =>
    obtain ⟨c0, d', h1, h2⟩ := an_cH_at H 0 hp hp' h a d hc
    rw [h1]
    rw [Nat.zero_add] at h2
    match d, d', h2 with
    | .inl _, .inl _, _ => rfl
    | .inr o, .inr o', h2 =>
      dsimp only
      cases hv : o.2[b]? with
      | none =>
        have : o'.2[b]? = none := by
          rw [List.getElem?_eq_none_iff] at hv ⊢
          rw [cF_len _ _ _ h2.2]
          exact hv
        rw [this]
      | some v => rw [an_cF_get o.2 o'.2 0 b v h2.2 hv (by rw [Nat.zero_add]; exact hn)]
    | .inl _, .inr _, h2 => exact h2.elim
    | .inr _, .inl _, h2 => exact h2.elim
theorem cH_A {md : an_Md} {wr : List Nat} {H : an_H} {hp hp' : sm_H} (h : an_cH md wr 0 H hp hp') {j : Nat} (hn : j ∉ wr) : exA hp' j = exA hp j ∧ exL hp' j = exL hp j := by
  unfold exA exL
  cases hc : hp[j]? with
  | none => rw [cH_none h hc]; exact ⟨rfl, rfl⟩
  | some d =>
    obtain ⟨c0, d', h1, h2⟩ := an_cH_at H 0 hp hp' h j d hc
    rw [h1]
    rw [Nat.zero_add] at h2
    match d, d', h2 with
    | .inl x, .inl y, h2 => rw [h2.1 hn]; exact ⟨rfl, rfl⟩
    | .inr _, .inr _, _ => exact ⟨rfl, rfl⟩
    | .inl _, .inr _, h2 => exact h2.elim
    | .inr _, .inl _, h2 => exact h2.elim
theorem cH_M {md : an_Md} {wr : List Nat} {H : an_H} {hp hp' : sm_H} {I : List iv_C} (h : an_cH md wr 0 H hp hp') {a b : Nat} {bd e : Int × Int} (hn : an_fm md a b = some bd) (hI : ivH I hp) (he : iv_bd I a b = some e) : bd.1 ≤ (exF hp' a b).toInt ∧ (exF hp' a b).toInt ≤ bd.2 := by
  unfold iv_bd at he
  split at he
  · rename_i o ho
    split at he
    · rename_i b' hb'
      obtain ⟨d, d1, d2⟩ := ivH_get hI ho
      match d, d1, d2 with
      | .inr p, d1, d2 =>
        obtain ⟨x, x1, x2⟩ := ivF_get d2.2 hb'
        obtain ⟨c0, d', h1, h2⟩ := an_cH_at H 0 hp hp' h a _ d1
        rw [Nat.zero_add] at h2
        match d', h1, h2 with
        | .inr o', h1, h2 =>
          obtain ⟨y, y1, y2⟩ := cF_some p.2 o'.2 0 b _ bd h2.2 x1 (by rw [Nat.zero_add]; exact hn)
          have e : exF hp' a b = y := by
            unfold exF
            rw [h1]
            dsimp only
            rw [y1]
          rw [e]
          exact y2
        | .inl _, _, h2 => exact h2.elim
      | .inl _, _, d2 => exact d2.elim
    · cases he
  · cases he
/-- fields and arrays that a call may change -/
noncomputable def fRm (M : List (Nat × Nat)) (W : List Nat) (hp hp' : sm_H) : Prop := (∀ a b, (a, b) ∉ M → exF hp' a b = exF hp a b) ∧ (∀ j, j ∉ W → exA hp' j = exA hp j ∧ exL hp' j = exL hp j) ∧ ∀ k i, an_is k = true → an_sc k i ∉ W → (exA hp' k)[i]? = (exA hp k)[i]?
noncomputable def fRet (μ n k : Nat) (M : List (Nat × Nat)) (W : List Nat) : Prop := ∀ (xs : List Int32) (hp : sm_H), xs.length = n → an_WF hp → ivH IV hp → ∃ (r : Int32) (hp' : sm_H), EM 400 μ (.ref k :: xs.map Value.int) hp (some (.int r)) hp' ∧ fRm M W hp hp'
noncomputable def frc (C : an_Ct) (M : List (Nat × Nat)) (W : List Nat) : Bool := C.2.2.2.2.1.all (fun q => M.any (fun m => Nat.beq m.1 q.1 && Nat.beq m.2 q.2.1)) && C.2.2.2.2.2.all (an_ein W)
theorem fm_none : ∀ {md : an_Md} {M : List (Nat × Nat)} {a b : Nat}, md.all (fun q => M.any (fun m => Nat.beq m.1 q.1 && Nat.beq m.2 q.2.1)) = true → (a, b) ∉ M → an_fm md a b = none
  | [], _, _, _, _, _ => rfl
  | q :: t, M, a, b, h, hn => by
    rw [List.all_cons, Bool.and_eq_true] at h
    unfold an_fm
    cases e : Nat.beq q.1 a && Nat.beq q.2.1 b with
    | false => exact fm_none h.2 hn
    | true =>
      obtain ⟨m, hm, e2⟩ := List.any_eq_true.mp h.1
      rw [Bool.and_eq_true, Nat.beq_eq, Nat.beq_eq] at e e2
      refine absurd ?_ hn
      rw [← e.1, ← e.2, ← e2.1, ← e2.2]
      exact hm
theorem iv_k3 {hp : sm_H} {k : Nat} (hI : ivH IV hp) (hk : an_is k = true) : hp[k]? = some (.inl (0, .inl (exA hp k))) := by
  have e := iv_hz hI
  have hk3 : k = 68 ∨ k = 69 ∨ k = 70 := by
    unfold an_is at hk
    rw [Bool.and_eq_true, Nat.ble_eq, Nat.ble_eq] at hk
    omega
  rcases hk3 with rfl | rfl | rfl
  · have h : (hz (exF hp) (exA hp) (exL hp))[68]? = some (.inl (0, .inl (exA hp 68))) := hz_g68
    rw [← e] at h
    exact h
  · have h : (hz (exF hp) (exA hp) (exL hp))[69]? = some (.inl (0, .inl (exA hp 69))) := hz_g69
    rw [← e] at h
    exact h
  · have h : (hz (exF hp) (exA hp) (exL hp))[70]? = some (.inl (0, .inl (exA hp 70))) := hz_g70
    rw [← e] at h
    exact h
theorem frc_ok {C : an_Ct} {M : List (Nat × Nat)} {W : List Nat} {H : an_H} {hp hp' : sm_H} (h : frc C M W = true) (hI : ivH IV hp) (c : an_cH C.2.2.2.2.1 C.2.2.2.2.2 0 H hp hp' ∧ an_rS C.2.2.2.2.2 hp hp') : fRm M W hp hp' := by
  unfold frc at h
  rw [Bool.and_eq_true] at h
  refine ⟨fun a b hn => cH_F c.1 (fm_none h.1 hn), fun j hj => cH_A c.1 (fun z => hj (an_ein_ok (List.all_eq_true.mp h.2 j z))), fun k i hk hi => ?_⟩
  have e := iv_k3 hI hk
  obtain ⟨l', g1, g2⟩ := c.2 k hk 0 (exA hp k) e
  have e2 : exA hp' k = l' := by unfold exA; rw [g1]
  rw [e2]
  exact g2 i (fun z => hi (an_ein_ok (List.all_eq_true.mp h.2 _ z)))
theorem fRet_of {d k n m : Nat} {C : an_Ct} {M : List (Nat × Nat)} {W : List Nat} (hC : an_CO d C) (hd : d ≤ 400) (h : iv_ck m C IV k (List.replicate n an_tp) IV = true) (hf : frc C M W = true) : fRet C.1 n k M W := fun xs hp hl hW hI => by
  obtain ⟨r, hp', m1, m2, m3, m4, m5⟩ := iv_ok hC h hW hI (iv_bs_tp xs n hl)
  exact ⟨r, hp', em_up m1 hd, frc_ok hf hI m5⟩
section RB
variable {F F' : Nat → Nat → Int32} {A A' : Nat → List Int32} {L L' : Nat → List Int64}
theorem rbH_get : ∀ (P : List ((Nat × Nat) ⊕ (Nat × List (Option Nat)))) (k a : Nat), (rbH F A L k P)[a]? = (P[a]?).map (rbC F A L (k + a))
  | [], _, _ => by simp [rbH]
  | p :: t, k, 0 => by
    show some (rbC F A L k p) = some (rbC F A L (k + 0) p)
    rw [Nat.add_zero]
  | p :: t, k, a + 1 => by
    show (rbH F A L (k + 1) t)[a]? = (t[a]?).map (rbC F A L (k + (a + 1)))
    rw [rbH_get t (k + 1) a, show k + 1 + a = k + (a + 1) by omega]
noncomputable def rbV (F : Nat → Nat → Int32) (k b : Nat) (o : Option Nat) : Value := match o with
  | some r => .ref r
  | none => .int (F k b)
theorem rbF_get : ∀ (P : List (Option Nat)) (k j b : Nat), (rbF F k j P)[b]? = (P[b]?).map (rbV F k (j + b))
  | [], _, _, _ => by simp [rbF]
  | some r :: t, k, j, 0 => rfl
  | none :: t, k, j, 0 => rfl
  | some r :: t, k, j, b + 1 => by
    show (rbF F k (j + 1) t)[b]? = (t[b]?).map (rbV F k (j + (b + 1)))
    rw [rbF_get t k (j + 1) b, show j + 1 + b = j + (b + 1) by omega]
  | none :: t, k, j, b + 1 => by
    show (rbF F k (j + 1) t)[b]? = (t[b]?).map (rbV F k (j + (b + 1)))
    rw [rbF_get t k (j + 1) b, show j + 1 + b = j + (b + 1) by omega]
theorem exF_hz {a b : Nat} (h : F' a b = F a b) : exF (hz F' A' L') a b = exF (hz F A L) a b := by
  rw [hz_rb, hz_rb]
  unfold exF
  rw [rbH_get, rbH_get, Nat.zero_add]
  cases hz_P[a]? with
  | none => rfl
  | some p =>
    match p with
    | .inl q =>
      rw [Option.map_some, Option.map_some, show rbC F' A' L' a (.inl q) = cond (Nat.beq q.1 1) (.inl (1, .inr (L' a))) (.inl (q.1, .inl (A' a))) from rfl, show rbC F A L a (.inl q) = cond (Nat.beq q.1 1) (.inl (1, .inr (L a))) (.inl (q.1, .inl (A a))) from rfl]
      cases Nat.beq q.1 1 <;> rfl
    | .inr q =>
      show (match (rbF F' a 0 q.2)[b]? with
        | some (.int x) => x
        | _ => 0) = (match (rbF F a 0 q.2)[b]? with
        | some (.int x) => x
        | _ => 0)
      rw [rbF_get, rbF_get, Nat.zero_add]
      cases q.2[b]? with
      | none => rfl
      | some o =>
        cases o with
        | none =>
          show F' a b = F a b
          exact h
        | some r => rfl
theorem exA_hz {j : Nat} (h : A' j = A j) : exA (hz F' A' L') j = exA (hz F A L) j := by
  rw [hz_rb, hz_rb]
  unfold exA
  rw [rbH_get, rbH_get, Nat.zero_add]
  cases hz_P[j]? with
  | none => rfl
  | some p =>
    match p with
    | .inl q =>
      rw [Option.map_some, Option.map_some, show rbC F' A' L' j (.inl q) = cond (Nat.beq q.1 1) (.inl (1, .inr (L' j))) (.inl (q.1, .inl (A' j))) from rfl, show rbC F A L j (.inl q) = cond (Nat.beq q.1 1) (.inl (1, .inr (L j))) (.inl (q.1, .inl (A j))) from rfl]
      cases Nat.beq q.1 1
      · exact h
      · rfl
    | .inr q => rfl
theorem exL_hz {j : Nat} (h : L' j = L j) : exL (hz F' A' L') j = exL (hz F A L) j := by
  rw [hz_rb, hz_rb]
  unfold exL
  rw [rbH_get, rbH_get, Nat.zero_add]
  cases hz_P[j]? with
  | none => rfl
  | some p =>
    match p with
    | .inl q =>
      rw [Option.map_some, Option.map_some, show rbC F' A' L' j (.inl q) = cond (Nat.beq q.1 1) (.inl (1, .inr (L' j))) (.inl (q.1, .inl (A' j))) from rfl, show rbC F A L j (.inl q) = cond (Nat.beq q.1 1) (.inl (1, .inr (L j))) (.inl (q.1, .inl (A j))) from rfl]
      cases Nat.beq q.1 1
      · rfl
      · exact h
    | .inr q => rfl
end RB
theorem fr_hz {hp : sm_H} {F' : Nat → Nat → Int32} {A' : Nat → List Int32} {S W : List Nat} {M : List (Nat × Nat)} (hI : ivH IV hp) (hM : ∀ b ∈ S, (67, b) ∈ M) (hF : frF S (exF hp) F') (hA : frA W (exA hp) A') (h3 : 68 ∉ W ∧ 69 ∉ W ∧ 70 ∉ W) : fRm M W hp (hz F' A' (exL hp)) := by
  have e := iv_hz hI
  have hj : ∀ j, j ∉ W → exA (hz F' A' (exL hp)) j = exA hp j := fun j hj => by
    have h1 := exA_hz (F := exF hp) (F' := F') (A := exA hp) (A' := A') (L := exL hp) (L' := exL hp) (hA j hj)
    rw [← e] at h1
    exact h1
  refine ⟨fun a b hn => ?_, fun j hj => ⟨?_, ?_⟩, fun k i hk _ => ?_⟩
  rotate_left
  rotate_left
  rotate_left
  · have hk3 : k = 68 ∨ k = 69 ∨ k = 70 := by
      unfold an_is at hk
      rw [Bool.and_eq_true, Nat.ble_eq, Nat.ble_eq] at hk
      omega
    rcases hk3 with rfl | rfl | rfl
    · rw [hj 68 h3.1]
    · rw [hj 69 h3.2.1]
    · rw [hj 70 h3.2.2]
  · have h1 := exF_hz (F := exF hp) (F' := F') (A := exA hp) (A' := A') (L := exL hp) (L' := exL hp) (hF a b (fun z => hn (by rw [z.1]; exact hM b z.2)))
    rw [← e] at h1
    exact h1
  · have h1 := exA_hz (F := exF hp) (F' := F') (A := exA hp) (A' := A') (L := exL hp) (L' := exL hp) (hA j hj)
    rw [← e] at h1
    exact h1
  · have h1 := exL_hz (F := exF hp) (F' := F') (A := exA hp) (A' := A') (L := exL hp) (L' := exL hp) (j := j) rfl
    rw [← e] at h1
    exact h1
theorem fr_m151 : fRet 151 1 67 [(67, 8), (67, 9), (67, 10), (67, 11), (67, 12), (67, 13), (67, 14), (67, 15), (67, 16), (67, 17)] [72, 73, 74, 75, 76, 77, 78, 79, 80, 81, 82] := fun xs hp hl hW hI => by
  match xs, hl with
  | [x], _ =>
    have e := iv_hz hI
    have key : wp_M 400 151 [.ref 67, .int x] (hz (exF hp) (exA hp) (exL hp)) (fun v hp' => ∃ r : Int32, v = some (.int r) ∧ fRm [(67, 8), (67, 9), (67, 10), (67, 11), (67, 12), (67, 13), (67, 14), (67, 15), (67, 16), (67, 17)] [72, 73, 74, 75, 76, 77, 78, 79, 80, 81, 82] hp hp') := by
      refine r_law (d := 391) ⟨iv_len hI rfl (by decide), iv_len hI rfl (by decide), iv_len hI rfl (by decide), iv_len hI rfl (by decide), iv_len hI rfl (by decide), iv_len hI rfl (by decide), iv_len hI rfl (by decide)⟩ ⟨iv_len hI rfl (by decide), iv_len hI rfl (by decide), iv_len hI rfl (by decide), iv_len hI rfl (by decide), iv_len hI rfl (by decide)⟩ ⟨_, rfl, fr_hz hI (S := []) (by decide) frF_rf frA_rf (by decide)⟩ (fun r F' A' hP => ⟨r, rfl, fr_hz hI (S := [8, 9, 10, 11, 12, 13, 14, 15, 16, 17]) (by decide) hP.1 hP.2.1 (by decide)⟩)
    rw [← e] at key
    obtain ⟨v, hp', m1, r, rfl, w⟩ := key
    exact ⟨r, hp', m1, w⟩
  | [], h => cases h
  | _ :: _ :: _, h => cases h
theorem fr_m221 : fRet 221 1 67 [(67, 8), (67, 9), (67, 10), (67, 11)] [91] := fun xs hp hl hW hI => by
  match xs, hl with
  | [x], _ =>
    have e := iv_hz hI
    obtain ⟨m, em, hm, -⟩ := iv_many hI
    have key : wp_M 400 221 [.ref 67, .int x] (hz (exF hp) (exA hp) (exL hp)) (fun v hp' => ∃ r : Int32, v = some (.int r) ∧ fRm [(67, 8), (67, 9), (67, 10), (67, 11)] [91] hp hp') := by
      refine r_ag (d := 394) (iv_len hI rfl (by decide)) (iv_len hI rfl (by decide)) (iv_len hI rfl (by decide)) (by rw [em]; exact hm.1) (by rw [em]; exact hm.2) (fun r F' A' f1 f2 l91 hc => ⟨r, rfl, fr_hz hI (S := [8, 9, 10, 11]) (by decide) f1 f2 (by decide)⟩)
    rw [← e] at key
    obtain ⟨v, hp', m1, r, rfl, w⟩ := key
    exact ⟨r, hp', m1, w⟩
  | [], h => cases h
  | _ :: _ :: _, h => cases h
theorem fr_m223 : fRet 223 2 67 [] [92, 93] := fun xs hp hl hW hI => by
  match xs, hl with
  | [x, y], _ =>
    have e := iv_hz hI
    obtain ⟨m, em, hm, -⟩ := iv_many hI
    have key : wp_M 400 223 [.ref 67, .int x, .int y] (hz (exF hp) (exA hp) (exL hp)) (fun v hp' => ∃ r : Int32, v = some (.int r) ∧ fRm [] [92, 93] hp hp') := by
      refine r_or (d := 394) (n := m.toInt.toNat) (by omega) (by omega) (by rw [em]; omega) (iv_len hI rfl (by decide)) (iv_len hI rfl (by decide)) (iv_len hI rfl (by decide)) (fun r A' f2 l92 l93 => ⟨r, rfl, fr_hz hI (S := []) (by decide) frF_rf f2 (by decide)⟩)
    rw [← e] at key
    obtain ⟨v, hp', m1, r, rfl, w⟩ := key
    exact ⟨r, hp', m1, w⟩
  | [], h => cases h
  | [_], h => cases h
  | _ :: _ :: _ :: _, h => cases h
theorem fr_m234 : fRet 234 2 67 [] [87, 89, 92, 93, 94] := fun xs hp hl hW hI => by
  match xs, hl with
  | [x, y], _ =>
    have e := iv_hz hI
    obtain ⟨m, em, hm, -⟩ := iv_many hI
    have key : wp_M 400 234 [.ref 67, .int x, .int y] (hz (exF hp) (exA hp) (exL hp)) (fun v hp' => ∃ r : Int32, v = some (.int r) ∧ fRm [] [87, 89, 92, 93, 94] hp hp') := by
      refine r_li (d := 395) (n := m.toInt.toNat) (by omega) (by omega) (by rw [em]; omega) (iv_len hI rfl (by decide)) (iv_len hI rfl (by decide)) (iv_len hI rfl (by decide)) (iv_len hI rfl (by decide)) (iv_len hI rfl (by decide)) (iv_len hI rfl (by decide)) (fun r A' f2 l => ⟨r, rfl, fr_hz hI (S := []) (by decide) frF_rf f2 (by decide)⟩)
    rw [← e] at key
    obtain ⟨v, hp', m1, r, rfl, w⟩ := key
    exact ⟨r, hp', m1, w⟩
  | [], h => cases h
  | [_], h => cases h
  | _ :: _ :: _ :: _, h => cases h
