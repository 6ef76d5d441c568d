section STP
variable {p : Program} {l : Launch} {e : Env} {R : Room} {s : State} {m : MethodId} {args : Array Value} {below : List Frame} {meth : Method} {c : Code} {H : Heap} {locs : List Loc} {cells slots : Nat} {Q : State → Prop}
variable {G : va_G} {cA : Nat → ClassId} {ad : Nat → Nat} {A : Nat → Prop} {arr : Array Slot} {pc : Nat} {ls : sm_L} {st : List Value} {hp : sm_H} {f : Nat × sm_L × List Value × sm_H × Nat × Nat} {E : sm_M}
theorem sm_s_if {cnd : ClassFile.Cond} {off : Int} {a : Nat} (X : sm_Cx p s m args meth c G cA A R E) (hd : decode E.2.1 pc = .ok (.ifCond cnd off, 3)) (ht : (pc : Int) + off = (a : Int)) (h : sm_if st cnd a pc ls hp = some (.inl f))
    (hL : sm_Lc ad ls E.2.2.1 arr) (hP : va_P G sm_cl (sm_pic cA ad hp) H) (hD : va_D A (sm_pic cA ad hp)) (hS : va_S A s.heap H locs) (K : sm_KW p l e R s m args below meth c Q G cA A E.2.2.1 cells slots ad hp f) : W p l e R s m args below meth c H locs cells slots Q (F0 m pc arr (st.map (sm_cv ad))) := by
  unfold sm_if at h
  split at h
  · rename_i x r
    cases h
    have kt : ∀ b, sm_c0 cnd x = b → W p l e R s m args below meth c H locs cells slots Q (F0 m (cond b a (pc + 3)) arr (r.map (sm_cv ad))) := fun b hb => by
      rw [← hb]; exact sm_k0 hL hP hD hS K
    cases cnd with
    | eq => exact lv_if_eq X.1 X.2.1 hd ht (fun z => kt true (decide_eq_true z)) (fun z => kt false (decide_eq_false z))
    | ne => exact lv_if_ne X.1 X.2.1 hd ht (fun z => kt true (by simp [sm_c0, z])) (fun z => kt false (by simp [sm_c0, z]))
    | lt => exact lv_if_lt X.1 X.2.1 hd ht (fun z => kt true (decide_eq_true z)) (fun z => kt false (decide_eq_false z))
    | ge => exact lv_if_ge X.1 X.2.1 hd ht (fun z => kt true (decide_eq_true z)) (fun z => kt false (decide_eq_false z))
    | gt => exact lv_if_gt X.1 X.2.1 hd ht (fun z => kt true (decide_eq_true z)) (fun z => kt false (decide_eq_false z))
    | le => exact lv_if_le X.1 X.2.1 hd ht (fun z => kt true (decide_eq_true z)) (fun z => kt false (decide_eq_false z))
  · cases h
theorem sm_s_icmp {cnd : ClassFile.Cond} {off : Int} {a : Nat} (X : sm_Cx p s m args meth c G cA A R E) (hd : decode E.2.1 pc = .ok (.if_icmp cnd off, 3)) (ht : (pc : Int) + off = (a : Int)) (h : sm_icmp st cnd a pc ls hp = some (.inl f))
    (hL : sm_Lc ad ls E.2.2.1 arr) (hP : va_P G sm_cl (sm_pic cA ad hp) H) (hD : va_D A (sm_pic cA ad hp)) (hS : va_S A s.heap H locs) (K : sm_KW p l e R s m args below meth c Q G cA A E.2.2.1 cells slots ad hp f) : W p l e R s m args below meth c H locs cells slots Q (F0 m pc arr (st.map (sm_cv ad))) := by
  unfold sm_icmp at h
  split at h
  · rename_i y x r
    cases h
    have kt : ∀ b, sm_c2 cnd x y = b → W p l e R s m args below meth c H locs cells slots Q (F0 m (cond b a (pc + 3)) arr (r.map (sm_cv ad))) := fun b hb => by
      rw [← hb]; exact sm_k0 hL hP hD hS K
    cases cnd with
    | eq => exact lv_icmp_eq X.1 X.2.1 hd ht (fun z => kt true (decide_eq_true z)) (fun z => kt false (decide_eq_false z))
    | ne => exact lv_icmp_ne X.1 X.2.1 hd ht (fun z => kt true (by simp [sm_c2, z])) (fun z => kt false (by simp [sm_c2, z]))
    | lt => exact lv_icmp_lt X.1 X.2.1 hd ht (fun z => kt true (decide_eq_true z)) (fun z => kt false (decide_eq_false z))
    | ge => exact lv_icmp_ge X.1 X.2.1 hd ht (fun z => kt true (decide_eq_true z)) (fun z => kt false (decide_eq_false z))
    | gt => exact lv_icmp_gt X.1 X.2.1 hd ht (fun z => kt true (decide_eq_true z)) (fun z => kt false (decide_eq_false z))
    | le => exact lv_icmp_le X.1 X.2.1 hd ht (fun z => kt true (decide_eq_true z)) (fun z => kt false (decide_eq_false z))
  · cases h
theorem sm_s_to {off : Int} {r : List Value} (h : sm_to pc off ls r hp = some (.inl f)) (row : ∀ tgt : Nat, (pc : Int) + off = (tgt : Int) → W p l e R s m args below meth c H locs cells slots Q (F0 m tgt arr (r.map (sm_cv ad))) → W p l e R s m args below meth c H locs cells slots Q (F0 m pc arr (st.map (sm_cv ad))))
    (hL : sm_Lc ad ls E.2.2.1 arr) (hP : va_P G sm_cl (sm_pic cA ad hp) H) (hD : va_D A (sm_pic cA ad hp)) (hS : va_S A s.heap H locs) (K : sm_KW p l e R s m args below meth c Q G cA A E.2.2.1 cells slots ad hp f) : W p l e R s m args below meth c H locs cells slots Q (F0 m pc arr (st.map (sm_cv ad))) := by
  unfold sm_to at h
  split at h
  · rename_i h0
    cases h
    exact row _ (by rw [Int.toNat_of_nonneg h0]) (sm_k0 hL hP hD hS K)
  · cases h
theorem sm_s_tsw {d lo hi : Int} {offs : Array Int} {n : Nat} (X : sm_Cx p s m args meth c G cA A R E) (hd : decode E.2.1 pc = .ok (.tableswitch d lo hi offs, n)) (h : sm_tsw st d lo hi offs pc ls hp = some (.inl f))
    (hL : sm_Lc ad ls E.2.2.1 arr) (hP : va_P G sm_cl (sm_pic cA ad hp) H) (hD : va_D A (sm_pic cA ad hp)) (hS : va_S A s.heap H locs) (K : sm_KW p l e R s m args below meth c Q G cA A E.2.2.1 cells slots ad hp f) : W p l e R s m args below meth c H locs cells slots Q (F0 m pc arr (st.map (sm_cv ad))) := by
  unfold sm_tsw at h
  split at h
  · rename_i x r
    split at h
    · rename_i hx
      exact sm_s_to (E := E) h (fun tgt ht k => lv_tableOut X.1 X.2.1 hd hx ht k) hL hP hD hS K
    · rename_i hx
      split at h
      · rename_i off ho
        exact sm_s_to (E := E) h (fun tgt ht k => lv_tableIn X.1 X.2.1 hd (fun z => hx (Or.inl z)) (fun z => hx (Or.inr z)) ho ht k) hL hP hD hS K
      · cases h
  · cases h
theorem sm_s_lsw {d : Int} {ps : Array (Int × Int)} {n : Nat} (X : sm_Cx p s m args meth c G cA A R E) (hd : decode E.2.1 pc = .ok (.lookupswitch d ps, n)) (h : sm_lsw st d ps pc ls hp = some (.inl f))
    (hL : sm_Lc ad ls E.2.2.1 arr) (hP : va_P G sm_cl (sm_pic cA ad hp) H) (hD : va_D A (sm_pic cA ad hp)) (hS : va_S A s.heap H locs) (K : sm_KW p l e R s m args below meth c Q G cA A E.2.2.1 cells slots ad hp f) : W p l e R s m args below meth c H locs cells slots Q (F0 m pc arr (st.map (sm_cv ad))) := by
  unfold sm_lsw at h
  split at h
  · rename_i x r
    split at h
    · rename_i hx
      exact sm_s_to (E := E) h (fun tgt ht k => lv_lookup X.1 X.2.1 hd hx rfl ht k) hL hP hD hS K
    · cases h
  · cases h
theorem sm_s_gf {idx a b : Nat} (X : sm_Cx p s m args meth c G cA A R E) (hd : decode E.2.1 pc = .ok (.getfield idx, 3)) (hk : sm_FL.any (fun q => Nat.beq q.1 E.2.2.2.2.1 && Nat.beq q.2.1 idx && Nat.beq q.2.2.1 a && Nat.beq q.2.2.2 b) = true) (h : sm_gf st a b pc ls hp = some (.inl f))
    (hL : sm_Lc ad ls E.2.2.1 arr) (hP : va_P G sm_cl (sm_pic cA ad hp) H) (hD : va_D A (sm_pic cA ad hp)) (hS : va_S A s.heap H locs) (K : sm_KW p l e R s m args below meth c Q G cA A E.2.2.1 cells slots ad hp f) : W p l e R s m args below meth c H locs cells slots Q (F0 m pc arr (st.map (sm_cv ad))) := by
  obtain ⟨hx, hb, hml, hown, hts, hNw, hK, hA, hin, hfr, hlo⟩ := X
  obtain ⟨r0, h1, h2, h3⟩ := sm_fl hk
  unfold sm_gf at h
  split at h
  · rename_i k r
    split at h
    · rename_i o ho
      split at h
      · rename_i hoa
        split at h
        · rename_i v hv
          cases h
          have he : (sm_pic cA ad hp)[k]? = some (ad k, .inr (a, o.2.map (sm_cv ad))) := by rw [← hoa]; exact sm_pic_at ho
          exact va_get (D := G) (C := r0.1) (T := r0.2.1) (N := r0.2.2) (v := sm_cv ad v) hx hb hts (sm_cw h1).1 hown hK hP k he h1 b h2 (hts _ h3) (fun _ h9 => h9) (by rw [List.getElem?_map, hv]; rfl) hd (sm_k0 hL hP hD hS K)
        · cases h
      · cases h
    · cases h
  · cases h
theorem sm_fit_ok {a b : Nat} {v : Value} (h : sm_fit a b v = true) : narrow (sm_ft a b) (sm_cv ad v) = sm_cv ad v ∧ fits (sm_ft a b) (sm_cv ad v) = true := by
  unfold sm_fit at h
  split at h
  · rename_i he; rw [he]; exact ⟨rfl, rfl⟩
  · rename_i he
    rw [he]
    simp only [decide_eq_true_eq] at h
    rcases h with rfl | rfl
    · exact ⟨(by decide +kernel : narrow .boolean (.int 0) = .int 0), (by decide +kernel : fits .boolean (.int 0) = true)⟩
    · exact ⟨(by decide +kernel : narrow .boolean (.int 1) = .int 1), (by decide +kernel : fits .boolean (.int 1) = true)⟩
  · rename_i he; rw [he]; exact ⟨rfl, rfl⟩
  · rename_i he; rw [he]; exact ⟨rfl, rfl⟩
  · cases h
theorem sm_s_pf {idx a b : Nat} (X : sm_Cx p s m args meth c G cA A R E) (hd : decode E.2.1 pc = .ok (.putfield idx, 3)) (hk : sm_lk E pc (.putfield idx) a b = true) (h : sm_pf st a b pc ls hp = some (.inl f))
    (hL : sm_Lc ad ls E.2.2.1 arr) (hP : va_P G sm_cl (sm_pic cA ad hp) H) (hD : va_D A (sm_pic cA ad hp)) (hS : va_S A s.heap H locs) (K : sm_KW p l e R s m args below meth c Q G cA A E.2.2.1 cells slots ad hp f) : W p l e R s m args below meth c H locs cells slots Q (F0 m pc arr (st.map (sm_cv ad))) := by
  obtain ⟨hx, hb, hml, hown, hts, hNw, hK, hA, hin, hfr, hlo⟩ := X
  simp only [sm_lk, Bool.and_eq_true] at hk
  obtain ⟨hk1, hk2⟩ := hk
  obtain ⟨r0, h1, h2, h3⟩ := sm_fl hk1
  rw [h1] at hk2
  dsimp only at hk2
  obtain ⟨w1, w2, w3, w4, w5, w6, w7⟩ := sm_cw h1
  unfold sm_pf at h
  split at h
  · rename_i v k r
    split at h
    · rename_i o ho
      split at h
      · rename_i hc
        obtain ⟨hoa, hbl, hfit⟩ := hc
        cases h
        have he : (sm_pic cA ad hp)[k]? = some (ad k, .inr (a, o.2.map (sm_cv ad))) := by rw [← hoa]; exact sm_pic_at ho
        obtain ⟨hn, hf⟩ := sm_fit_ok (ad := ad) hfit
        have kk : ∀ (H1 : Heap) (locs1 : List Loc), va_P G sm_cl ((sm_pic cA ad hp).set k (ad k, .inr (a, (o.2.map (sm_cv ad)).set b (sm_cv ad v)))) H1 → va_D A ((sm_pic cA ad hp).set k (ad k, .inr (a, (o.2.map (sm_cv ad)).set b (sm_cv ad v)))) → va_S A s.heap H1 locs1 → W p l e R s m args below meth c H1 locs1 cells slots Q (F0 m (pc + 3) arr (r.map (sm_cv ad))) := by
          intro H1 locs1 hP1 hD1 hS1
          rw [← List.map_set] at hP1 hD1
          rw [← hoa] at hP1 hD1
          exact sm_k1 (cl' := .inr (o.1, o.2.set b v)) hL hP1 hD1 hS1 K
        cases hfin : (r0.2.1 b).2.2.2 with
        | false =>
          exact va_put (D := G) (C := r0.1) (T := r0.2.1) (N := r0.2.2) (v := sm_cv ad v) (ty := sm_ft a b) hx hb hts w1 (sm_ft a) w5 w6 hown hK hP hD hS k he h1 b h2 (hts _ h3) (fun _ h9 => h9) hfin (w5 b h2) hn hf (by rw [List.length_map]; exact hbl) hd kk
        | true =>
          rw [hfin] at hk2
          simp only [Bool.not_true, Bool.false_or, Bool.and_eq_true, decide_eq_true_eq] at hk2
          exact va_putF (D := G) (C := r0.1) (T := r0.2.1) (N := r0.2.2) (v := sm_cv ad v) (ty := sm_ft a b) hx hb hts w1 (sm_ft a) w5 w6 hown hK hP hD hS k he h1 b h2 (hts _ h3) (fun _ h9 => h9) hfin (hin hk2.1) hk2.2 (w5 b h2) hn hf (by rw [List.length_map]; exact hbl) hd kk
      · cases h
    · cases h
  · cases h
theorem sm_vp_in {i : Int32} {α : Type} {l : List α} {x : α} (h0 : ¬ i < 0) (h : l[i.toNatClampNeg]? = some x) : vp_in i l.length := fun z => z.elim h0 (fun q => by
  have := (List.getElem?_eq_some_iff.mp h).1
  omega)
theorem sm_getD {α : Type} {l : List α} {i : Nat} {x d : α} (h : l[i]? = some x) : l.getD i d = x := by
  rw [List.getD_eq_getElem?_getD, h]; rfl
theorem sm_s_al {kd : Nat} {ty : FieldType} {i0 : Instr} (X : sm_Cx p s m args meth c G cA A R E) (hkd : (kd = 0 ∧ ty = .int ∧ i0 = .iaload) ∨ (kd = 2 ∧ ty = .byte ∧ i0 = .baload)) (hd : decode E.2.1 pc = .ok (i0, 1)) (h : sm_al st kd pc ls hp = some (.inl f))
    (hL : sm_Lc ad ls E.2.2.1 arr) (hP : va_P G sm_cl (sm_pic cA ad hp) H) (hD : va_D A (sm_pic cA ad hp)) (hS : va_S A s.heap H locs) (K : sm_KW p l e R s m args below meth c Q G cA A E.2.2.1 cells slots ad hp f) : W p l e R s m args below meth c H locs cells slots Q (F0 m pc arr (st.map (sm_cv ad))) := by
  obtain ⟨hx, hb, hml, hown, hts, hNw, hK, hA, hin, hfr, hlo⟩ := X
  unfold sm_al at h
  split at h
  · rename_i i k r
    split at h
    · rename_i kk l0 ho
      split at h
      · rename_i hc
        obtain ⟨rfl, h0⟩ := hc
        split at h
        · rename_i x hxx
          cases h
          have he : (sm_pic cA ad hp)[k]? = some (ad k, .inl (cA kk, l0.length, .inl (fun j => l0.getD j 0))) := sm_pic_at ho
          have k0 := sm_k0 hL hP hD hS K
          have ev : Value.int ((fun j => l0.getD j 0) i.toNatClampNeg) = .int x := by rw [show (fun j => l0.getD j 0) i.toNatClampNeg = x from sm_getD hxx]
          rcases hkd with ⟨rfl, rfl, rfl⟩ | ⟨rfl, rfl, rfl⟩
          · refine va_iald (D := G) hx hb hK hP k 0 he rfl (sm_vp_in h0 hxx) hd ?_
            rw [ev]; exact k0
          · refine va_bald (D := G) hx hb hK hP k 2 he rfl (sm_vp_in h0 hxx) hd ?_
            rw [ev]; exact k0
        · cases h
      · cases h
    · cases h
  · cases h
theorem sm_s_ll (X : sm_Cx p s m args meth c G cA A R E) (hd : decode E.2.1 pc = .ok (.laload, 1)) (h : sm_ll st pc ls hp = some (.inl f))
    (hL : sm_Lc ad ls E.2.2.1 arr) (hP : va_P G sm_cl (sm_pic cA ad hp) H) (hD : va_D A (sm_pic cA ad hp)) (hS : va_S A s.heap H locs) (K : sm_KW p l e R s m args below meth c Q G cA A E.2.2.1 cells slots ad hp f) : W p l e R s m args below meth c H locs cells slots Q (F0 m pc arr (st.map (sm_cv ad))) := by
  obtain ⟨hx, hb, hml, hown, hts, hNw, hK, hA, hin, hfr, hlo⟩ := X
  unfold sm_ll at h
  split at h
  · rename_i i k r
    split at h
    · rename_i kk l0 ho
      split at h
      · rename_i hc
        obtain ⟨rfl, h0⟩ := hc
        split at h
        · rename_i x hxx
          cases h
          have he : (sm_pic cA ad hp)[k]? = some (ad k, .inl (cA 1, l0.length, .inr (.inl (fun j => l0.getD j 0)))) := sm_pic_at ho
          have k0 := sm_k0 hL hP hD hS K
          have ev : Value.long ((fun j => l0.getD j 0) i.toNatClampNeg) = .long x := by rw [show (fun j => l0.getD j 0) i.toNatClampNeg = x from sm_getD hxx]
          refine va_lald (D := G) hx hb hK hP k 1 he rfl (sm_vp_in h0 hxx) hd ?_
          rw [ev]; exact k0
        · cases h
      · cases h
    · cases h
  · cases h
theorem sm_s_as {kd : Nat} {ty : FieldType} {i0 : Instr} (X : sm_Cx p s m args meth c G cA A R E) (hkd : (kd = 0 ∧ ty = .int ∧ i0 = .iastore) ∨ (kd = 2 ∧ ty = .byte ∧ i0 = .bastore)) (hd : decode E.2.1 pc = .ok (i0, 1)) (h : sm_as st kd pc ls hp = some (.inl f))
    (hL : sm_Lc ad ls E.2.2.1 arr) (hP : va_P G sm_cl (sm_pic cA ad hp) H) (hD : va_D A (sm_pic cA ad hp)) (hS : va_S A s.heap H locs) (K : sm_KW p l e R s m args below meth c Q G cA A E.2.2.1 cells slots ad hp f) : W p l e R s m args below meth c H locs cells slots Q (F0 m pc arr (st.map (sm_cv ad))) := by
  obtain ⟨hx, hb, hml, hown, hts, hNw, hK, hA, hin, hfr, hlo⟩ := X
  unfold sm_as at h
  split at h
  · rename_i x i k r
    split at h
    · rename_i kk l0 ho
      split at h
      · rename_i hc
        obtain ⟨rfl, h0, hlt⟩ := hc
        cases h
        have he : (sm_pic cA ad hp)[k]? = some (ad k, .inl (cA kk, l0.length, .inl (fun j => l0.getD j 0))) := sm_pic_at ho
        have hin0 : vp_in i l0.length := fun z => z.elim h0 (fun q => by omega)
        have ec : ∀ y : Int32, sm_ce cA ad (.inl (kk, .inl (l0.set i.toNatClampNeg y))) = .inl (cA kk, l0.length, .inl (upd (fun j => l0.getD j 0) i.toNatClampNeg y)) := by
          intro y
          show Sum.inl (cA kk, (l0.set i.toNatClampNeg y).length, Sum.inl (fun j => (l0.set i.toNatClampNeg y).getD j 0)) = _
          rw [List.length_set, sm_getD_set hlt]
          rfl
        rcases hkd with ⟨rfl, rfl, rfl⟩ | ⟨rfl, rfl, rfl⟩
        · refine va_iast (D := G) hx hb hK hP hD hS k 0 he rfl hin0 hd (fun H1 locs1 hP1 hD1 hS1 => ?_)
          rw [← ec] at hP1 hD1
          exact sm_k1 hL hP1 hD1 hS1 K
        · refine va_bast (D := G) hx hb hK hP hD hS k 2 he rfl hin0 hd (fun H1 locs1 hP1 hD1 hS1 => ?_)
          rw [← ec] at hP1 hD1
          exact sm_k1 hL hP1 hD1 hS1 K
      · cases h
    · cases h
  · cases h
theorem sm_s_lls (X : sm_Cx p s m args meth c G cA A R E) (hd : decode E.2.1 pc = .ok (.lastore, 1)) (h : sm_lls st pc ls hp = some (.inl f))
    (hL : sm_Lc ad ls E.2.2.1 arr) (hP : va_P G sm_cl (sm_pic cA ad hp) H) (hD : va_D A (sm_pic cA ad hp)) (hS : va_S A s.heap H locs) (K : sm_KW p l e R s m args below meth c Q G cA A E.2.2.1 cells slots ad hp f) : W p l e R s m args below meth c H locs cells slots Q (F0 m pc arr (st.map (sm_cv ad))) := by
  obtain ⟨hx, hb, hml, hown, hts, hNw, hK, hA, hin, hfr, hlo⟩ := X
  unfold sm_lls at h
  split at h
  · rename_i x i k r
    split at h
    · rename_i kk l0 ho
      split at h
      · rename_i hc
        obtain ⟨rfl, h0, hlt⟩ := hc
        cases h
        have he : (sm_pic cA ad hp)[k]? = some (ad k, .inl (cA 1, l0.length, .inr (.inl (fun j => l0.getD j 0)))) := sm_pic_at ho
        have hin0 : vp_in i l0.length := fun z => z.elim h0 (fun q => by omega)
        have ec : sm_ce cA ad (.inl (1, .inr (l0.set i.toNatClampNeg x))) = .inl (cA 1, l0.length, .inr (.inl (vp_updL (fun j => l0.getD j 0) i.toNatClampNeg x))) := by
          show Sum.inl (cA 1, (l0.set i.toNatClampNeg x).length, Sum.inr (Sum.inl (fun j => (l0.set i.toNatClampNeg x).getD j 0))) = _
          rw [List.length_set, sm_getD_set hlt]
          rfl
        refine va_last (D := G) hx hb hK hP hD hS k 1 he rfl hin0 hd (fun H1 locs1 hP1 hD1 hS1 => ?_)
        rw [← ec] at hP1 hD1
        exact sm_k1 hL hP1 hD1 hS1 K
      · cases h
    · cases h
  · cases h
theorem sm_s_alen (X : sm_Cx p s m args meth c G cA A R E) (hd : decode E.2.1 pc = .ok (.arraylength, 1)) (h : sm_alen st pc ls hp = some (.inl f))
    (hL : sm_Lc ad ls E.2.2.1 arr) (hP : va_P G sm_cl (sm_pic cA ad hp) H) (hD : va_D A (sm_pic cA ad hp)) (hS : va_S A s.heap H locs) (K : sm_KW p l e R s m args below meth c Q G cA A E.2.2.1 cells slots ad hp f) : W p l e R s m args below meth c H locs cells slots Q (F0 m pc arr (st.map (sm_cv ad))) := by
  obtain ⟨hx, hb, hml, hown, hts, hNw, hK, hA, hin, hfr, hlo⟩ := X
  unfold sm_alen at h
  split at h
  · rename_i k r
    split at h
    · rename_i kk l0 ho
      split at h
      · rename_i hc
        cases h
        have he : (sm_pic cA ad hp)[k]? = some (ad k, .inl (cA kk, l0.length, .inl (fun j => l0.getD j 0))) := sm_pic_at ho
        rcases hc with rfl | rfl
        · exact va_alen (D := G) (ty := .int) hx hb hK hP k 0 he rfl rfl hd (sm_k0 hL hP hD hS K)
        · exact va_alen (D := G) (ty := .byte) hx hb hK hP k 2 he rfl rfl hd (sm_k0 hL hP hD hS K)
      · cases h
    · rename_i kk l0 ho
      split at h
      · rename_i hc
        cases h
        subst hc
        have he : (sm_pic cA ad hp)[k]? = some (ad k, .inl (cA 1, l0.length, .inr (.inl (fun j => l0.getD j 0)))) := sm_pic_at ho
        exact va_alen (D := G) (ty := .long) hx hb hK hP k 1 he rfl rfl hd (sm_k0 hL hP hD hS K)
      · cases h
    · cases h
  · cases h
end STP
