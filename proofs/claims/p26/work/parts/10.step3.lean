section STR
variable {p : Program} {l : Launch} {e : Env} {R : Room} {s : State} {m : MethodId} {args : Array Value} {below : List Frame} {meth : Method} {c : Code} {H : Heap} {locs : List Loc} {cells slots : Nat} {Q : State → Prop}
variable {G : va_G} {cA : Nat → ClassId} {ad : Nat → Nat} {A : Nat → Prop} {arr : Array Slot} {pc : Nat} {ls : sm_L} {st : List Value} {hp : sm_H} {f : Nat × sm_L × List Value × sm_H × Nat × Nat} {E : sm_M}
theorem sm_s_iof {idx a b : Nat} (X : sm_Cx p s m args meth c G cA A R E) (ha : a = 9998) (hd : decode E.2.1 pc = .ok (.ldc idx, 2)) (hk : sm_lk E pc (.ldc idx) a b = true) (h : sm_iof ls b pc st hp = some (.inl f)) (hc : cells + f.2.2.2.2.1 ≤ R.cells) (hs : slots + f.2.2.2.2.2 ≤ R.slots)
    (hL : sm_Lc ad ls E.2.2.1 arr) (hP : va_P G sm_cl (sm_pic cA ad hp) H) (hD : va_D A (sm_pic cA ad hp)) (hS : va_S A s.heap H locs) (K : sm_KW p l e R s m args below meth c Q G cA A E.2.2.1 cells slots ad hp f) : W p l e R s m args below meth c H locs cells slots Q (F0 m pc arr (st.map (sm_cv ad))) := by
  obtain ⟨hx, hb, hml, hown, hts, hNw, hK, hA, hin, hfr, hlo⟩ := X
  unfold sm_iof at h
  split at h
  · rename_i x hxb
    split at h
    · rename_i hw
      cases h
      simp only [sm_lk, if_pos ha, Bool.and_eq_true, Nat.beq_eq, decide_eq_true_eq] at hk
      obtain ⟨⟨k1, k2⟩, k3⟩ := hk
      subst k1
      split at k3
      · rename_i k j e1 e2 e3
        simp only [Bool.and_eq_true, Nat.beq_eq] at k3
        obtain ⟨k4, k5⟩ := k3
        subst k5
        obtain ⟨q, v, hR, hX⟩ := hNw.2
        refine va_ldcS (tx := "gclabmvt") (q := q) hx hb hown (by rw [k2]; exact hR) hd ?_
        refine lv_iload_n (x := x) hx hb e1 k4 (sm_ld_at hL hxb) ?_
        obtain ⟨n, hn, en⟩ := sx_u16 x
        refine lv_i2c hx hb e2 en ?_
        refine sx_callV (own := sm_o E.2.2.2.2.1) (A := A) (q := q) (v := v) ⟨⟨hx, hb, hml, hown, hts⟩, hA, hX⟩ (As := [.int (nI n)]) (rest := st.map (sm_cv ad)) (sx_c_io1 l q v H.size n hn) sx_wc0 sx_inS sx_wi0 sx_ws0 (by rw [k2]; exact sx_wl0) ⟨sx_nS.1, sx_nS.2, sx_a0⟩ rfl ⟨by omega, by omega⟩ ⟨hc, hs⟩ hL.1 (by rw [sm_w_map]; exact hw) hS e3 rfl (fun H1 locs1 g1 g2 hS1 => ?_)
        rw [en] at K
        exact sm_k0 hL (hP.kept (fun k q hk => g2 q.1 (hP k q hk).lt)) hD hS1 K
      · cases k3
    · cases h
  · cases h
set_option maxHeartbeats 4000000 in
theorem sm_step {q : sm_I} (X : sm_Cx p s m args meth c G cA A R E) (hd : decode E.2.1 pc = .ok (q.1, q.2.1)) (hl : sm_sw q.1 = true ∨ q.2.1 = sm_len q.1) (hk : sm_lk E pc q.1 q.2.2.1 q.2.2.2 = true) (h : sm_x q pc ls st hp = some (.inl f)) (hc : cells + f.2.2.2.2.1 ≤ R.cells) (hs : slots + f.2.2.2.2.2 ≤ R.slots)
    (hL : sm_Lc ad ls E.2.2.1 arr) (hP : va_P G sm_cl (sm_pic cA ad hp) H) (hD : va_D A (sm_pic cA ad hp)) (hS : va_S A s.heap H locs) (K : sm_KW p l e R s m args below meth c Q G cA A E.2.2.1 cells slots ad hp f) : W p l e R s m args below meth c H locs cells slots Q (F0 m pc arr (st.map (sm_cv ad))) := by
  obtain ⟨i, n, a, b⟩ := q
  dsimp only at hd hl hk
  cases i with
  | iconst n0 =>
    cases h; exact lv_iconst X.1 X.2.1 (sm_d hd hl rfl) rfl (sm_k0 hL hP hD hS K)
  | bipush n0 =>
    cases h; exact lv_bipush X.1 X.2.1 (sm_d hd hl rfl) rfl (sm_k0 hL hP hD hS K)
  | sipush n0 =>
    cases h; exact lv_sipush X.1 X.2.1 (sm_d hd hl rfl) rfl (sm_k0 hL hP hD hS K)
  | lconst n0 =>
    cases h; exact lv_lconst X.1 X.2.1 (sm_d hd hl rfl) rfl (sm_k0 hL hP hD hS K)
  | ldc idx =>
    dsimp only [sm_x, sm_x0] at h
    split at h
    · rename_i h98
      exact sm_s_iof X h98 (sm_d hd hl rfl) hk h hc hs hL hP hD hS K
    · rename_i hne
      cases h
      have hk2 : sm_KL.any (fun q => Nat.beq q.1 E.2.2.2.2.1 && Nat.beq q.2.1 idx && Nat.beq q.2.2 a) = true := by
        simpa only [sm_lk, if_neg hne] using hk
      exact lv_ldc X.1 X.2.1 X.2.2.2.1 (X.2.2.2.2.1 _ (sm_kl hk2)) (sm_d hd hl rfl) (sm_k0 hL hP hD hS K)
  | ldc_w idx =>
    cases h; exact lv_ldcw X.1 X.2.1 X.2.2.2.1 (X.2.2.2.2.1 _ (sm_kl hk)) (sm_d hd hl rfl) (sm_k0 hL hP hD hS K)
  | ldc2_w idx =>
    cases h; exact lv_ldc2 X.1 X.2.1 X.2.2.2.1 (X.2.2.2.2.1 _ (sm_k2 hk)) (sm_d hd hl rfl) (sm_k0 hL hP hD hS K)
  | iload k =>
    exact sm_s_ldi (i := k) (d := 2) h (fun x r h1 k1 => lv_iload X.1 X.2.1 (sm_d hd hl rfl) h1 k1) hL hP hD hS K
  | iload_n k =>
    exact sm_s_ldi (i := k.val) (d := 1) h (fun x r h1 k1 => lv_iload_n X.1 X.2.1 (sm_d hd hl rfl) rfl h1 k1) hL hP hD hS K
  | lload k =>
    exact sm_s_ldl (i := k) (d := 2) h (fun x r h1 k1 => lv_lload X.1 X.2.1 (sm_d hd hl rfl) h1 k1) hL hP hD hS K
  | lload_n k =>
    exact sm_s_ldl (i := k.val) (d := 1) h (fun x r h1 k1 => lv_lload_n X.1 X.2.1 (sm_d hd hl rfl) rfl h1 k1) hL hP hD hS K
  | aload k =>
    exact sm_s_lda (i := k) (d := 2) h (fun x r h1 k1 => lv_aload X.1 X.2.1 (sm_d hd hl rfl) h1 k1) hL hP hD hS K
  | aload_n k =>
    exact sm_s_lda (i := k.val) (d := 1) h (fun x r h1 k1 => lv_aload_n X.1 X.2.1 (sm_d hd hl rfl) rfl h1 k1) hL hP hD hS K
  | istore k =>
    dsimp only [sm_x, sm_x0, sm_sti] at h
    split at h
    · rename_i x r
      exact sm_s_st1 (i := k) (d := 2) h (fun lv h1 h2 k1 => lv_istore X.1 X.2.1 (sm_d hd hl rfl) h1 h2 rfl k1) hL hP hD hS K
    · cases h
  | istore_n k =>
    dsimp only [sm_x, sm_x0, sm_sti] at h
    split at h
    · rename_i x r
      exact sm_s_st1 (i := k.val) (d := 1) h (fun lv h1 h2 k1 => lv_istore_n X.1 X.2.1 (sm_d hd hl rfl) rfl h1 h2 rfl k1) hL hP hD hS K
    · cases h
  | astore k =>
    dsimp only [sm_x, sm_x0, sm_sta] at h
    split at h
    · rename_i x r
      exact sm_s_st1 (i := k) (d := 2) h (fun lv h1 h2 k1 => lv_astore X.1 X.2.1 (sm_d hd hl rfl) h1 h2 rfl k1) hL hP hD hS K
    · cases h
  | astore_n k =>
    dsimp only [sm_x, sm_x0, sm_sta] at h
    split at h
    · rename_i x r
      exact sm_s_st1 (i := k.val) (d := 1) h (fun lv h1 h2 k1 => lv_astore_n X.1 X.2.1 (sm_d hd hl rfl) rfl h1 h2 rfl k1) hL hP hD hS K
    · cases h
  | lstore k =>
    dsimp only [sm_x, sm_x0, sm_stl] at h
    split at h
    · rename_i x r
      exact sm_s_st2 (i := k) (d := 2) h (fun lv h1 h2 k1 => lv_lstore X.1 X.2.1 (sm_d hd hl rfl) h1 h2 rfl k1) hL hP hD hS K
    · cases h
  | lstore_n k =>
    dsimp only [sm_x, sm_x0, sm_stl] at h
    split at h
    · rename_i x r
      exact sm_s_st2 (i := k.val) (d := 1) h (fun lv h1 h2 k1 => lv_lstore_n X.1 X.2.1 (sm_d hd hl rfl) rfl h1 h2 rfl k1) hL hP hD hS K
    · cases h
  | iinc k n0 =>
    dsimp only [sm_x, sm_x0, sm_inc] at h
    split at h
    · rename_i x hx
      have ha := sm_ld_at hL hx
      refine sm_s_st1 (i := k) (d := 3) h (fun lv h1 h2 k1 => ?_) hL hP hD hS K
      have hz : lv_has arr E.2.2.1 ((k, .int x) :: lv) := ⟨h1.1, h1.2.1, fun q hq => by
        rcases List.mem_cons.mp hq with rfl | hq
        · exact ha
        · exact h1.2.2 q hq⟩
      refine lv_iinc (k := 0) X.1 X.2.1 (sm_d hd hl rfl) hz rfl rfl h2 ?_ k1
      rw [List.filter_cons]
      simp
      rfl
    · cases h
  | iadd =>
    dsimp only [sm_x, sm_x0] at h
    exact sm_s_i2 h (fun x y v hv => by cases hv; rfl) (fun x y v r hv k1 => by cases hv; exact lv_iadd X.1 X.2.1 (sm_d hd hl rfl) k1) hL hP hD hS K
  | isub =>
    dsimp only [sm_x, sm_x0] at h
    exact sm_s_i2 h (fun x y v hv => by cases hv; rfl) (fun x y v r hv k1 => by cases hv; exact lv_isub X.1 X.2.1 (sm_d hd hl rfl) k1) hL hP hD hS K
  | imul =>
    dsimp only [sm_x, sm_x0] at h
    exact sm_s_i2 h (fun x y v hv => by cases hv; rfl) (fun x y v r hv k1 => by cases hv; exact lv_imul X.1 X.2.1 (sm_d hd hl rfl) k1) hL hP hD hS K
  | iand =>
    dsimp only [sm_x, sm_x0] at h
    exact sm_s_i2 h (fun x y v hv => by cases hv; rfl) (fun x y v r hv k1 => by cases hv; exact lv_iand X.1 X.2.1 (sm_d hd hl rfl) k1) hL hP hD hS K
  | ior =>
    dsimp only [sm_x, sm_x0] at h
    exact sm_s_i2 h (fun x y v hv => by cases hv; rfl) (fun x y v r hv k1 => by cases hv; exact lv_ior X.1 X.2.1 (sm_d hd hl rfl) k1) hL hP hD hS K
  | ixor =>
    dsimp only [sm_x, sm_x0] at h
    exact sm_s_i2 h (fun x y v hv => by cases hv; rfl) (fun x y v r hv k1 => by cases hv; exact lv_ixor X.1 X.2.1 (sm_d hd hl rfl) k1) hL hP hD hS K
  | ishl =>
    dsimp only [sm_x, sm_x0] at h
    exact sm_s_i2 h (fun x y v hv => by cases hv; rfl) (fun x y v r hv k1 => by cases hv; exact lv_ishl X.1 X.2.1 (sm_d hd hl rfl) k1) hL hP hD hS K
  | ishr =>
    dsimp only [sm_x, sm_x0] at h
    exact sm_s_i2 h (fun x y v hv => by cases hv; rfl) (fun x y v r hv k1 => by cases hv; exact lv_ishr X.1 X.2.1 (sm_d hd hl rfl) k1) hL hP hD hS K
  | iushr =>
    dsimp only [sm_x, sm_x0] at h
    exact sm_s_i2 h (fun x y v hv => by cases hv; rfl) (fun x y v r hv k1 => by cases hv; exact lv_iushr X.1 X.2.1 (sm_d hd hl rfl) rfl k1) hL hP hD hS K
  | idiv =>
    dsimp only [sm_x, sm_x0] at h
    refine sm_s_i2 h (fun x y v hv => ?_) (fun x y v r hv k1 => ?_) hL hP hD hS K
    · split at hv <;> cases hv
      rfl
    · split at hv
      · cases hv
      · rename_i hne
        cases hv
        exact lv_idiv X.1 X.2.1 (sm_d hd hl rfl) hne k1
  | irem =>
    dsimp only [sm_x, sm_x0] at h
    refine sm_s_i2 h (fun x y v hv => ?_) (fun x y v r hv k1 => ?_) hL hP hD hS K
    · split at hv <;> cases hv
      rfl
    · split at hv
      · cases hv
      · rename_i hne
        cases hv
        exact lv_irem X.1 X.2.1 (sm_d hd hl rfl) hne k1
  | ineg =>
    dsimp only [sm_x, sm_x0] at h
    exact sm_s_i1 h (fun x v hv => by cases hv; rfl) (fun x v r hv k1 => by cases hv; exact lv_ineg X.1 X.2.1 (sm_d hd hl rfl) k1) hL hP hD hS K
  | i2l =>
    dsimp only [sm_x, sm_x0] at h
    exact sm_s_i1 h (fun x v hv => by cases hv; rfl) (fun x v r hv k1 => by cases hv; exact lv_i2l X.1 X.2.1 (sm_d hd hl rfl) rfl k1) hL hP hD hS K
  | i2b =>
    dsimp only [sm_x, sm_x0] at h
    exact sm_s_i1 h (fun x v hv => by cases hv; rfl) (fun x v r hv k1 => by cases hv; exact lv_i2b X.1 X.2.1 (sm_d hd hl rfl) rfl k1) hL hP hD hS K
  | i2c =>
    dsimp only [sm_x, sm_x0] at h
    exact sm_s_i1 h (fun x v hv => by cases hv; rfl) (fun x v r hv k1 => by cases hv; exact lv_i2c X.1 X.2.1 (sm_d hd hl rfl) rfl k1) hL hP hD hS K
  | l2i =>
    dsimp only [sm_x, sm_x0, sm_l2i] at h
    split at h
    · cases h
      exact lv_l2i X.1 X.2.1 (sm_d hd hl rfl) rfl (sm_k0 hL hP hD hS K)
    · cases h
  | ladd =>
    dsimp only [sm_x, sm_x0] at h
    exact sm_s_l2 h (fun x y => rfl) (fun x y r k1 => lv_ladd X.1 X.2.1 (sm_d hd hl rfl) k1) hL hP hD hS K
  | lsub =>
    dsimp only [sm_x, sm_x0] at h
    exact sm_s_l2 h (fun x y => rfl) (fun x y r k1 => lv_lsub X.1 X.2.1 (sm_d hd hl rfl) k1) hL hP hD hS K
  | land =>
    dsimp only [sm_x, sm_x0] at h
    exact sm_s_l2 h (fun x y => rfl) (fun x y r k1 => lv_land X.1 X.2.1 (sm_d hd hl rfl) k1) hL hP hD hS K
  | lor =>
    dsimp only [sm_x, sm_x0] at h
    exact sm_s_l2 h (fun x y => rfl) (fun x y r k1 => lv_lor X.1 X.2.1 (sm_d hd hl rfl) k1) hL hP hD hS K
  | lcmp =>
    dsimp only [sm_x, sm_x0] at h
    exact sm_s_l2 h (fun x y => rfl) (fun x y r k1 => W.lcmp X.1 X.2.1 (sm_d hd hl rfl) k1) hL hP hD hS K
  | lushr =>
    dsimp only [sm_x, sm_x0] at h
    exact sm_s_ls h (fun x y => rfl) (fun x y r k1 => lv_lushr X.1 X.2.1 (sm_d hd hl rfl) rfl k1) hL hP hD hS K
  | lshl =>
    dsimp only [sm_x, sm_x0] at h
    exact sm_s_ls h (fun x y => rfl) (fun x y r k1 => lv_lshl X.1 X.2.1 (sm_d hd hl rfl) rfl k1) hL hP hD hS K
  | dup =>
    dsimp only [sm_x, sm_x0, sm_dup] at h
    split at h
    · rename_i v r
      split at h
      · rename_i hv
        cases h
        exact lv_dup X.1 X.2.1 (sm_d hd hl rfl) (by rw [sm_cv_cat]; exact hv) (sm_k0 hL hP hD hS K)
      · cases h
    · cases h
  | pop =>
    dsimp only [sm_x, sm_x0, sm_pop] at h
    split at h
    · rename_i v r
      split at h
      · rename_i hv
        cases h
        exact lv_pop X.1 X.2.1 (sm_d hd hl rfl) (by rw [sm_cv_cat]; exact hv) (sm_k0 hL hP hD hS K)
      · cases h
    · cases h
  | dup2 =>
    dsimp only [sm_x, sm_x0, sm_dup2] at h
    split at h
    · rename_i v w r
      split at h
      · rename_i hv
        cases h
        exact lv_dup2_11 X.1 X.2.1 (sm_d hd hl rfl) (by rw [sm_cv_cat]; exact hv.1) (by rw [sm_cv_cat]; exact hv.2) (sm_k0 hL hP hD hS K)
      · cases h
    · cases h
  | ifCond cnd off =>
    exact sm_s_if X (sm_d hd hl rfl) (of_decide_eq_true hk) h hL hP hD hS K
  | if_icmp cnd off =>
    exact sm_s_icmp X (sm_d hd hl rfl) (of_decide_eq_true hk) h hL hP hD hS K
  | goto off =>
    cases h; exact lv_goto X.1 X.2.1 (sm_d hd hl rfl) (of_decide_eq_true hk) (sm_k0 hL hP hD hS K)
  | tableswitch d lo hi offs =>
    exact sm_s_tsw X hd h hL hP hD hS K
  | lookupswitch d ps =>
    exact sm_s_lsw X hd h hL hP hD hS K
  | getfield idx =>
    exact sm_s_gf X (sm_d hd hl rfl) hk h hL hP hD hS K
  | putfield idx =>
    exact sm_s_pf X (sm_d hd hl rfl) hk h hL hP hD hS K
  | iaload =>
    exact sm_s_al X (Or.inl ⟨rfl, rfl, rfl⟩) (sm_d hd hl rfl) h hL hP hD hS K
  | baload =>
    exact sm_s_al X (Or.inr ⟨rfl, rfl, rfl⟩) (sm_d hd hl rfl) h hL hP hD hS K
  | laload =>
    exact sm_s_ll X (sm_d hd hl rfl) h hL hP hD hS K
  | iastore =>
    exact sm_s_as X (Or.inl ⟨rfl, rfl, rfl⟩) (sm_d hd hl rfl) h hL hP hD hS K
  | bastore =>
    exact sm_s_as X (Or.inr ⟨rfl, rfl, rfl⟩) (sm_d hd hl rfl) h hL hP hD hS K
  | lastore =>
    exact sm_s_lls X (sm_d hd hl rfl) h hL hP hD hS K
  | arraylength =>
    exact sm_s_alen X (sm_d hd hl rfl) h hL hP hD hS K
  | newarray t =>
    exact sm_s_na X (sm_d hd hl rfl) h hc hs hL hP hD hS K
  | new idx =>
    exact sm_s_nw X (sm_d hd hl rfl) hk h hc hs hL hP hD hS K
  | invokestatic idx =>
    dsimp only [sm_x, sm_x0] at h
    split at h
    · cases h
    · rename_i h98
      split at h
      · rename_i h97
        have hk2 : sm_AC.any (fun q => Nat.beq q.1 E.2.2.2.2.1 && Nat.beq q.2 idx) = true := by
          simpa only [sm_lk, if_neg h98, if_pos h97] using hk
        exact sm_s_ac X (sm_d hd hl rfl) hk2 h hL hP hD hS K
      · exact (sm_noS h).elim
  | invokevirtual idx =>
    dsimp only [sm_x, sm_x0] at h
    split at h
    · cases h
    · exact (sm_noV h).elim
  | invokespecial idx =>
    dsimp only [sm_x, sm_x0] at h
    split at h
    · rename_i h99
      have hk2 : sm_OL.any (fun q => Nat.beq q.1 E.2.2.2.2.1 && Nat.beq q.2 idx) = true := by
        simpa only [sm_lk, if_pos h99] using hk
      exact sm_s_oi X (sm_d hd hl rfl) hk2 h hL hP hD hS K
    · exact (sm_noI h).elim
  | ireturn =>
    dsimp only [sm_x, sm_x0, sm_ir] at h
    split at h
    · split at h <;> cases h
    · cases h
  | lreturn =>
    dsimp only [sm_x, sm_x0, sm_lr] at h
    split at h <;> cases h
  | return_ =>
    dsimp only [sm_x, sm_x0, sm_vr] at h
    split at h <;> cases h
  | _ =>
    cases h
end STR
