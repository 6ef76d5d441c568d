/-! the law, walked once: what is left is of the shadow machine alone -/
noncomputable def lw_cd : Nat → Option sm_I := sm_cd mmL.2.2.2.2.2.2.2.1 trL
noncomputable def lw_i (pc : Nat) (i : Instr) : Bool := match lw_cd pc with
  | some q => decide (q.1 = i)
  | none => false
noncomputable def lw_it (pc : Nat) (i : Instr) (a : Nat) : Bool := match lw_cd pc with
  | some q => decide (q.1 = i) && Nat.beq q.2.2.1 a
  | none => false
theorem lw_dec {pc : Nat} {i : Instr} (h : lw_i pc i = true) (h0 : sm_sw i = false) : decode code pc = .ok (i, sm_len i) := by
  unfold lw_i at h
  split at h
  · rename_i q hq
    obtain ⟨h1, h2, -⟩ := sm_at0 (E := mmL) ⟨trL, rfl⟩ ckL hq
    have e := of_decide_eq_true h
    rw [e] at h1 h2
    exact sm_d h1 h2 h0
  · cases h
theorem lw_dect {pc a : Nat} {off : Int} {i : Instr} (h : lw_it pc i a = true) (hi : i = .goto off ∨ ∃ c, i = .if_icmp c off) : decode code pc = .ok (i, 3) ∧ (pc : Int) + off = (a : Int) := by
  unfold lw_it at h
  split at h
  · rename_i q hq
    obtain ⟨h1, h2, h3⟩ := sm_at0 (E := mmL) ⟨trL, rfl⟩ ckL hq
    simp only [Bool.and_eq_true, decide_eq_true_eq, Nat.beq_eq] at h
    rw [h.1] at h1 h2 h3
    rw [h.2] at h3
    rcases hi with rfl | ⟨c, rfl⟩
    · exact ⟨sm_d h1 h2 rfl, of_decide_eq_true h3⟩
    · exact ⟨sm_d h1 h2 rfl, of_decide_eq_true h3⟩
  · cases h
noncomputable def lw_ckA : Nat → Nat → Nat → Bool
  | 0, _, _ => true
  | n + 1, j, pc => lw_i pc (.aload_n 0) && lw_i (pc + 1) (.iload_n 3) && lw_i (pc + 2) (.iconst (j : Int)) && lw_i (pc + 3) .iadd && lw_i (pc + 4) .iaload && lw_ckA n (j + 1) (pc + 5)
noncomputable def lw_iv (pc idx μ : Nat) : Bool := match lw_cd pc with
  | some q => decide (q.1 = .invokevirtual idx) && Nat.beq q.2.2.1 μ && Nat.blt μ 9000
  | none => false
noncomputable def lw_mk (μ n o : Nat) : Bool := match sm_mt μ with
  | some F => Nat.beq F.2.2.2.2.2.2.1 1 && Nat.beq F.2.2.2.2.2.1 n && Nat.beq F.2.2.2.2.1 o
  | none => false
/-- the script's numbers j, j + 1 .. of the k-th call -/
noncomputable def lw_vs (xs : Nat → Int32) (k j n : Nat) : List Int32 := (List.range' j n).map (fun t => xs (6 * k + t))
noncomputable def lw_Cx (p : Program) (s : State) (m : MethodId) (meth : Method) (c : Code) (b L : Nat) (xs : Nat → Int32) (G : va_G) (cA : Nat → ClassId) : Prop := sm_Cx p s m #[Value.ref b] meth c G cA (fun q : Nat => s.heap.size ≤ q) room_1 mmL ∧ va_X b L xs s s.heap ∧ b < s.heap.size ∧ meth.locks = false ∧ meth.sig.returnType = ret
theorem lw_w_int (rs : List Int32) : sm_w (rs.map Value.int) = rs.length := by
  induction rs with
  | nil => rfl
  | cons z t ih =>
    have h : sm_w ((z :: t).map Value.int) = 1 + sm_w (t.map Value.int) := rfl
    rw [h, ih, List.length_cons]
    omega
theorem lw_ij : ∀ j : Nat, j < 6 → Int32.ofInt (j : Int) = nI j := by decide
section LAW
variable {p : Program} {l : Launch} {e : Env} {s : State} {m : MethodId} {below : List Frame} {meth : Method} {c : Code} {H : Heap} {locs : List Loc} {cells slots : Nat} {Q : State → Prop}
variable {G : va_G} {cA : Nat → ClassId} {ad : Nat → Nat} {arr : Array Slot} {pc b L : Nat} {xs : Nat → Int32} {hp : sm_H}
theorem lw_args (X : lw_Cx p s m meth c b L xs G cA) {k : Nat} (hk : 6 * k + 6 ≤ L) (hL : L < 2 ^ 30) (h0 : arr[0]? = some (.val (.ref b))) (h3 : arr[3]? = some (.val (.int (nI (6 * k))))) (hS : va_S (fun q : Nat => s.heap.size ≤ q) s.heap H locs) : ∀ (n j pc : Nat) (st : List Value), lw_ckA n j pc = true → j + n ≤ 6 →
    W p l e room_1 s m #[Value.ref b] below meth c H locs cells slots Q (F0 m (pc + 5 * n) arr (((lw_vs xs k j n).map Value.int).reverse ++ st)) → W p l e room_1 s m #[Value.ref b] below meth c H locs cells slots Q (F0 m pc arr st) := by
  intro n
  induction n with
  | zero => intro j pc st _ _ w; exact w
  | succ n ih =>
    intro j pc st hc hj w
    simp only [lw_ckA, Bool.and_eq_true] at hc
    obtain ⟨⟨⟨⟨⟨c0, c1⟩, c2⟩, c3⟩, c4⟩, c5⟩ := hc
    have hx := X.1.1
    have hb : c.code = code := X.1.2.1
    refine lv_aload_n hx hb (lw_dec c0 rfl) rfl h0 ?_
    refine lv_iload_n hx hb (lw_dec c1 rfl) rfl h3 ?_
    refine lv_iconst (v := nI j) hx hb (lw_dec c2 rfl) (lw_ij j (by omega)) ?_
    refine lv_iadd hx hb (lw_dec c3 rfl) ?_
    rw [nI_add]
    refine va_sld hx hb X.2.1 X.2.2.1 (Nat.not_le.mpr X.2.2.1) hS (vp_in_nI (by omega) (by omega)) (lw_dec c4 rfl) ?_
    rw [nI_clamp (by omega)]
    refine ih (j + 1) (pc + 5) _ c5 (by omega) ?_
    have e1 : pc + 5 + 5 * n = pc + 5 * (n + 1) := by omega
    have e2 : ((lw_vs xs k (j + 1) n).map Value.int).reverse ++ (Value.int (xs (6 * k + j)) :: st) = ((lw_vs xs k j (n + 1)).map Value.int).reverse ++ st := by
      unfold lw_vs
      rw [List.range'_succ, List.map_cons, List.map_cons, List.reverse_cons, List.append_assoc]
      rfl
    rw [e1, e2]
    exact w
set_option maxRecDepth 10000 in
theorem lw_call (X : lw_Cx p s m meth c b L xs G cA) {d idx μ n o k : Nat} {as rs : List Int32} {r : Int32} {hp' : sm_H} (h1 : lw_iv pc idx μ = true) (h2 : lw_mk μ n o = true) (hob : ∃ fs, hp[k]? = some (.inr (o, fs))) (hn : as.length = n) (hrs : rs.length ≤ 8) (hd : d ≤ 1000) (hm : EM d μ (.ref k :: as.map Value.int) hp (some (.int r)) hp') (hsz : arr.size = 4) (hwf : lv_wf arr) (hc : cells ≤ room_1.cells) (hs : slots ≤ room_1.slots)
    (hP : va_P G sm_cl (sm_pic cA ad hp) H) (hD : va_D (fun q : Nat => s.heap.size ≤ q) (sm_pic cA ad hp)) (hS : va_S (fun q : Nat => s.heap.size ≤ q) s.heap H locs)
    (kk : ∀ (H' : Heap) (locs' : List Loc), va_P G sm_cl (sm_pic cA ad hp') H' → va_D (fun q : Nat => s.heap.size ≤ q) (sm_pic cA ad hp') → va_S (fun q : Nat => s.heap.size ≤ q) s.heap H' locs' → W p l e room_1 s m #[Value.ref b] below meth c H' locs' cells slots Q (F0 m (pc + 3) arr (.int r :: rs.map Value.int))) :
    W p l e room_1 s m #[Value.ref b] below meth c H locs cells slots Q (F0 m pc arr ((as.map Value.int).reverse ++ (.ref (ad k) :: rs.map Value.int))) := by
  obtain ⟨fs, hob⟩ := hob
  unfold lw_iv at h1
  split at h1
  · rename_i q hq
    simp only [Bool.and_eq_true, decide_eq_true_eq, Nat.beq_eq, Nat.blt_eq] at h1
    obtain ⟨⟨q1, q2⟩, q3⟩ := h1
    obtain ⟨d1, d2, d3⟩ := sm_at0 (E := mmL) ⟨trL, rfl⟩ ckL hq
    unfold lw_mk at h2
    split at h2
    · rename_i F hF
      simp only [Bool.and_eq_true, Nat.beq_eq] at h2
      obtain ⟨⟨f1, f2⟩, f3⟩ := h2
      have ei : ∀ zs : List Int32, (zs.map Value.int).map (sm_cv ad) = zs.map Value.int := fun zs => by rw [List.map_map]; rfl
      have est : ((as.map Value.int).reverse ++ (.ref k :: rs.map Value.int)).map (sm_cv ad) = (as.map Value.int).reverse ++ (.ref (ad k) :: rs.map Value.int) := by
        rw [List.map_append, List.map_reverse, ei, List.map_cons, ei]
        rfl
      have hw : sm_w (rs.map Value.int) ≤ 8 := by
        rw [lw_w_int]
        exact hrs
      have ht : sm_take ((as.map Value.int).reverse ++ (.ref k :: rs.map Value.int)) (F.2.2.2.2.2.1 + 1) = some (.ref k :: as.map Value.int, rs.map Value.int) := by
        have el : F.2.2.2.2.2.1 + 1 = ((as.map Value.int).reverse ++ [Value.ref k]).length := by simp; omega
        have eq1 : (as.map Value.int).reverse ++ (.ref k :: rs.map Value.int) = ((as.map Value.int).reverse ++ [Value.ref k]) ++ rs.map Value.int := by simp
        unfold sm_take
        rw [eq1, el, List.drop_left, List.take_left, if_pos ⟨by simp, hw⟩]
        simp
      have hx : sm_x q pc (List.replicate 4 none) ((as.map Value.int).reverse ++ (.ref k :: rs.map Value.int)) hp = some (.inr (.inl (μ, .ref k :: as.map Value.int, rs.map Value.int))) := by
        obtain ⟨i0, n0, a0, b0⟩ := q
        dsimp only at q1 q2
        subst q1
        subst q2
        show (if a0 = 9998 then none else sm_cV _ a0 hp) = _
        rw [if_neg (by omega)]
        unfold sm_cV
        rw [hF]
        dsimp only
        rw [if_pos f1, ht]
        dsimp only
        rw [hob]
        dsimp only
        rw [if_pos f3.symm]
      obtain ⟨N, hN⟩ := hm
      rw [← est]
      refine sm_s_call (ls := List.replicate 4 none) (o := (some (.int r), hp', 0, 0)) (sm_meets (l := l) N d) X.1 ⟨?_, ?_⟩ d1 d2 d3 hx (hN N (Nat.le_refl _)) hc hs ⟨hsz, hwf, rfl, fun i v z => ?_⟩ hP hD hS (fun ad' H' locs' g1 g2 g3 g5 g6 g7 => ?_)
      · show d + 9 ≤ 2048; omega
      · show 64 * d + 576 ≤ 84000; omega
      · rw [List.getElem?_replicate] at z
        split at z <;> cases z
      · cases g2 rfl
        have k1 := kk H' locs' g5 g6 g7
        show W p l e room_1 s m #[Value.ref b] below meth c H' locs' cells slots Q (F0 m (pc + 3) arr ([Value.int r] ++ (rs.map Value.int).map (sm_cv ad)))
        rw [ei]
        exact k1
    · cases h2
  · cases h1
end LAW
