theorem sm_cv_def (ad : Nat → Nat) (ty : FieldType) : sm_cv ad (defaultValue ty) = defaultValue ty := by cases ty <;> rfl
theorem sm_nfw : nativeFrameWords "java/lang/System" "arraycopy" 5 = 7 := by decide +kernel
theorem sm_cvi {ad : Nat → Nat} {x : Int32} : sm_cv ad (.int x) = .int x := rfl
section STQ
variable {p : Program} {l : Launch} {e : Env} {R : Room} {s : State} {m : MethodId} {args : Array Value} {below : List Frame} {meth : Method} {c : Code} {H : Heap} {locs : List Loc} {cells slots : Nat} {Q : State → Prop}
variable {G : va_G} {cA : Nat → ClassId} {ad : Nat → Nat} {A : Nat → Prop} {arr : Array Slot} {pc : Nat} {ls : sm_L} {st : List Value} {hp : sm_H} {f : Nat × sm_L × List Value × sm_H × Nat × Nat} {E : sm_M}
theorem sm_s_na {t : ArrayType} (X : sm_Cx p s m args meth c G cA A R E) (hd : decode E.2.1 pc = .ok (.newarray t, 2)) (h : sm_na st t pc ls hp = some (.inl f)) (hc : cells + f.2.2.2.2.1 ≤ R.cells) (hs : slots + f.2.2.2.2.2 ≤ R.slots)
    (hL : sm_Lc ad ls E.2.2.1 arr) (hP : va_P G sm_cl (sm_pic cA ad hp) H) (hD : va_D A (sm_pic cA ad hp)) (hS : va_S A s.heap H locs) (K : sm_KW p l e R s m args below meth c Q G cA A E.2.2.1 cells slots ad hp f) : W p l e R s m args below meth c H locs cells slots Q (F0 m pc arr (st.map (sm_cv ad))) := by
  obtain ⟨hx, hb, hml, hown, hts, hNw, hK, hA, hin, hfr, hlo⟩ := X
  unfold sm_na at h
  split at h
  · rename_i n r
    split at h
    · rename_i hcs
      obtain ⟨h0, hN, hr1, hr2, hr3⟩ := hcs
      split at h
      · cases h
        refine va_newa (D := G) (atype := .int) (ty := .int) (a0 := (n.toNatClampNeg, .inl (fun j => (List.replicate n.toNatClampNeg 0).getD j 0))) hx hb (hts _ (sm_inW sm_wa_int rfl)) rfl hK hP hD hS hA (fun cX => ?_) h0 rfl (Nat.le_trans (Nat.mul_le_mul hN (Nat.le_refl (componentBytes .int))) (by decide)) hc hs hd (fun q cX H1 hK1 hP1 hD1 hS1 => ?_)
        · rw [sm_getD_rep]; rfl
        · have e0 : cX = cA 0 := Option.some.inj (((hK1.2 3 (cX, .int) rfl).2).symm.trans ((hK.2 0 (cA 0, .int) rfl).2))
          subst e0
          have ec : sm_ce cA ad (.inl (0, .inl (List.replicate n.toNatClampNeg 0))) = .inl (cA 0, n.toNatClampNeg, .inl (fun j => (List.replicate n.toNatClampNeg 0).getD j 0)) := by
            show Sum.inl (cA 0, (List.replicate n.toNatClampNeg (0 : Int32)).length, _) = _
            rw [List.length_replicate]
          rw [← ec] at hP1 hD1
          exact sm_kn (by decide) hr1 hr2 hr3 rfl hL hP1 hD1 hS1 K
      · cases h
        refine va_newa (D := G) (atype := .long) (ty := .long) (a0 := (n.toNatClampNeg, .inr (.inl (fun j => (List.replicate n.toNatClampNeg 0).getD j 0)))) hx hb (hts _ (sm_inW sm_wa_long rfl)) rfl hK hP hD hS hA (fun cX => ?_) h0 rfl (Nat.le_trans (Nat.mul_le_mul hN (Nat.le_refl (componentBytes .long))) (by decide)) hc hs hd (fun q cX H1 hK1 hP1 hD1 hS1 => ?_)
        · rw [sm_getD_rep]; rfl
        · have e0 : cX = cA 1 := Option.some.inj (((hK1.2 3 (cX, .long) rfl).2).symm.trans ((hK.2 1 (cA 1, .long) rfl).2))
          subst e0
          have ec : sm_ce cA ad (.inl (1, .inr (List.replicate n.toNatClampNeg 0))) = .inl (cA 1, n.toNatClampNeg, .inr (.inl (fun j => (List.replicate n.toNatClampNeg 0).getD j 0))) := by
            show Sum.inl (cA 1, (List.replicate n.toNatClampNeg (0 : Int64)).length, _) = _
            rw [List.length_replicate]
          rw [← ec] at hP1 hD1
          exact sm_kn (by decide) hr1 hr2 hr3 rfl hL hP1 hD1 hS1 K
      · cases h
        refine va_newa (D := G) (atype := .byte) (ty := .byte) (a0 := (n.toNatClampNeg, .inl (fun j => (List.replicate n.toNatClampNeg 0).getD j 0))) hx hb (hts _ (sm_inW sm_wa_byte rfl)) rfl hK hP hD hS hA (fun cX => ?_) h0 rfl (Nat.le_trans (Nat.mul_le_mul hN (Nat.le_refl (componentBytes .byte))) (by decide)) hc hs hd (fun q cX H1 hK1 hP1 hD1 hS1 => ?_)
        · rw [sm_getD_rep]; rfl
        · have e0 : cX = cA 2 := Option.some.inj (((hK1.2 3 (cX, .byte) rfl).2).symm.trans ((hK.2 2 (cA 2, .byte) rfl).2))
          subst e0
          have ec : sm_ce cA ad (.inl (2, .inl (List.replicate n.toNatClampNeg 0))) = .inl (cA 2, n.toNatClampNeg, .inl (fun j => (List.replicate n.toNatClampNeg 0).getD j 0)) := by
            show Sum.inl (cA 2, (List.replicate n.toNatClampNeg (0 : Int32)).length, _) = _
            rw [List.length_replicate]
          rw [← ec] at hP1 hD1
          exact sm_kn (by decide) hr1 hr2 hr3 rfl hL hP1 hD1 hS1 K
      · cases h
    · cases h
  · cases h
theorem sm_s_nw {idx a : Nat} (X : sm_Cx p s m args meth c G cA A R E) (hd : decode E.2.1 pc = .ok (.new idx, 3)) (hk : sm_CL.any (fun q => Nat.beq q.1 E.2.2.2.2.1 && Nat.beq q.2.1 idx && Nat.beq q.2.2 a) = true) (h : sm_nw st a pc ls hp = some (.inl f)) (hc : cells + f.2.2.2.2.1 ≤ R.cells) (hs : slots + f.2.2.2.2.2 ≤ R.slots)
    (hL : sm_Lc ad ls E.2.2.1 arr) (hP : va_P G sm_cl (sm_pic cA ad hp) H) (hD : va_D A (sm_pic cA ad hp)) (hS : va_S A s.heap H locs) (K : sm_KW p l e R s m args below meth c Q G cA A E.2.2.1 cells slots ad hp f) : W p l e R s m args below meth c H locs cells slots Q (F0 m pc arr (st.map (sm_cv ad))) := by
  obtain ⟨hx, hb, hml, hown, hts, hNw, hK, hA, hin, hfr, hlo⟩ := X
  obtain ⟨r0, h1, h3⟩ := sm_cl' hk
  obtain ⟨w1, w2, w3, w4, w5, w6, w7⟩ := sm_cw h1
  unfold sm_nw at h
  rw [h1] at h
  dsimp only at h
  split at h
  · rename_i hcs
    obtain ⟨hr1, hr2, hr3⟩ := hcs
    cases h
    have em : ∀ ad0 : Nat → Nat, ((List.range r0.2.2).map (fun k => defaultValue (sm_ft a k))).map (sm_cv ad0) = (List.range r0.2.2).map (fun k => defaultValue (sm_ft a k)) := by
      intro ad0
      rw [List.map_map]
      exact List.map_congr_left (fun k _ => sm_cv_def ad0 _)
    have ec : ∀ ad0 : Nat → Nat, sm_ce cA ad0 (.inr (a, (List.range r0.2.2).map (fun k => defaultValue (sm_ft a k)))) = .inr (a, (List.range r0.2.2).map (fun k => defaultValue (sm_ft a k))) := by
      intro ad0
      show Sum.inr (a, ((List.range r0.2.2).map (fun k => defaultValue (sm_ft a k))).map (sm_cv ad0)) = _
      rw [em]
    refine va_new (D := G) (ci := a) (fs := (List.range r0.2.2).map (fun k => defaultValue (sm_ft a k))) (C := r0.1) (T := r0.2.1) (N := r0.2.2) hx hb hts w1 (sm_ft a) w5 hown (hts _ h3) (hts _ w2) (hts _ w3) hK hP hD hS hA h1 (fun j hj => ?_) hc hs hd (fun q H1 hP1 hD1 hS1 => ?_)
    · unfold vp_V
      rw [List.getD_eq_getElem?_getD, List.getElem?_map, List.getElem?_range hj]
      rfl
    · rw [← ec ad] at hP1 hD1
      exact sm_kn (by decide) hr1 hr2 hr3 (by rw [ec, ec]) hL hP1 hD1 hS1 K
  · cases h
theorem sm_s_oi {idx : Nat} (X : sm_Cx p s m args meth c G cA A R E) (hd : decode E.2.1 pc = .ok (.invokespecial idx, 3)) (hk : sm_OL.any (fun q => Nat.beq q.1 E.2.2.2.2.1 && Nat.beq q.2 idx) = true) (h : sm_oi st pc ls hp = some (.inl f))
    (hL : sm_Lc ad ls E.2.2.1 arr) (hP : va_P G sm_cl (sm_pic cA ad hp) H) (hD : va_D A (sm_pic cA ad hp)) (hS : va_S A s.heap H locs) (K : sm_KW p l e R s m args below meth c Q G cA A E.2.2.1 cells slots ad hp f) : W p l e R s m args below meth c H locs cells slots Q (F0 m pc arr (st.map (sm_cv ad))) := by
  obtain ⟨hx, hb, hml, hown, hts, hNw, hK, hA, hin, hfr, hlo⟩ := X
  unfold sm_oi at h
  split at h
  · rename_i k r
    split at h
    · rename_i hw
      cases h
      have hw2 : ((r.map (sm_cv ad)).map fun v => v.category).sum ≤ 8 := by rw [sm_w_map]; exact hw
      have hr := lv_room (m := m) (pc := pc) (ls := arr) (rest := .ref (ad k) :: r.map (sm_cv ad)) hw2
      refine W.objInit (g := F0 m pc arr (.ref (ad k) :: r.map (sm_cv ad))) hx hb hown (hts _ (sm_ol hk)) (hts _ (sm_inW sm_woi rfl)) (hts _ (sm_inW sm_woc rfl)) rfl (by rw [hml]; exact hL.1) rfl hd (Nat.le_trans (by decide) hfr) (by omega) ?_
      exact sm_k0 hL hP hD hS K
    · cases h
  · cases h
theorem sm_s_ac {idx : Nat} (X : sm_Cx p s m args meth c G cA A R E) (hd : decode E.2.1 pc = .ok (.invokestatic idx, 3)) (hk : sm_AC.any (fun q => Nat.beq q.1 E.2.2.2.2.1 && Nat.beq q.2 idx) = true) (h : sm_ac st pc ls hp = some (.inl f))
    (hL : sm_Lc ad ls E.2.2.1 arr) (hP : va_P G sm_cl (sm_pic cA ad hp) H) (hD : va_D A (sm_pic cA ad hp)) (hS : va_S A s.heap H locs) (K : sm_KW p l e R s m args below meth c Q G cA A E.2.2.1 cells slots ad hp f) : W p l e R s m args below meth c H locs cells slots Q (F0 m pc arr (st.map (sm_cv ad))) := by
  obtain ⟨hx, hb, hml, hown, hts, hNw, hK, hA, hin, hfr, hlo⟩ := X
  unfold sm_ac at h
  split at h
  · rename_i n dp kd sp ks r
    split at h
    · rename_i k0 f0 k1 g0 hf hg
      split at h
      · rename_i hcs
        obtain ⟨rfl, rfl, a1, a2, a3, a4, a5, hw⟩ := hcs
        cases h
        have hw2 : ((r.map (sm_cv ad)).map fun v => v.category).sum ≤ 8 := by rw [sm_w_map]; exact hw
        have e0 : (sm_pic cA ad hp)[ks]? = some (ad ks, .inl (cA 0, f0.length, .inl (fun j => f0.getD j 0))) := sm_pic_at hf
        have e1 : (sm_pic cA ad hp)[kd]? = some (ad kd, .inl (cA 0, g0.length, .inl (fun j => g0.getD j 0))) := sm_pic_at hg
        have ec : sm_ce cA ad (.inl (0, .inl (sm_cpy f0 g0 sp.toNatClampNeg dp.toNatClampNeg n.toNatClampNeg))) = .inl (cA 0, g0.length, .inl (va_cpy (fun j => f0.getD j 0) (fun j => g0.getD j 0) sp.toNatClampNeg dp.toNatClampNeg n.toNatClampNeg)) := by
          show Sum.inl (cA 0, (sm_cpy f0 g0 sp.toNatClampNeg dp.toNatClampNeg n.toNatClampNeg).length, Sum.inl (fun j => (sm_cpy f0 g0 sp.toNatClampNeg dp.toNatClampNeg n.toNatClampNeg).getD j 0)) = _
          rw [sm_cpy_len a4 a5, sm_cpy_get a4 a5]
        refine va_copyi (D := G) (ty := .int) hx hb (by rw [hml]; exact hL.1.symm) hown (hts _ (sm_ac' hk)) (hts _ (sm_inW sm_wnat rfl)) (hts _ (sm_inW sm_wacs rfl)) (hts _ (sm_inW sm_wsys rfl)) hK hP hD hS ks kd 0 0 e0 e1 rfl rfl rfl a1 a2 a3 a4 a5 (fun _ _ => rfl) (Nat.le_trans (by decide) hfr) (by rw [sm_nfw]; omega) hd (fun H1 locs1 hP1 hD1 hS1 => ?_)
        rw [← ec] at hP1 hD1
        exact sm_k1 hL hP1 hD1 hS1 K
      · cases h
    · rename_i k0 f0 k1 g0 hf hg
      split at h
      · rename_i hcs
        obtain ⟨rfl, rfl, a1, a2, a3, a4, a5, hw⟩ := hcs
        cases h
        have hw2 : ((r.map (sm_cv ad)).map fun v => v.category).sum ≤ 8 := by rw [sm_w_map]; exact hw
        have e0 : (sm_pic cA ad hp)[ks]? = some (ad ks, .inl (cA 1, f0.length, .inr (.inl (fun j => f0.getD j 0)))) := sm_pic_at hf
        have e1 : (sm_pic cA ad hp)[kd]? = some (ad kd, .inl (cA 1, g0.length, .inr (.inl (fun j => g0.getD j 0)))) := sm_pic_at hg
        have ec : sm_ce cA ad (.inl (1, .inr (sm_cpy f0 g0 sp.toNatClampNeg dp.toNatClampNeg n.toNatClampNeg))) = .inl (cA 1, g0.length, .inr (.inl (va_cpy (fun j => f0.getD j 0) (fun j => g0.getD j 0) sp.toNatClampNeg dp.toNatClampNeg n.toNatClampNeg))) := by
          show Sum.inl (cA 1, (sm_cpy f0 g0 sp.toNatClampNeg dp.toNatClampNeg n.toNatClampNeg).length, Sum.inr (Sum.inl (fun j => (sm_cpy f0 g0 sp.toNatClampNeg dp.toNatClampNeg n.toNatClampNeg).getD j 0))) = _
          rw [sm_cpy_len a4 a5, sm_cpy_get a4 a5]
        refine va_copyl (D := G) (ty := .long) hx hb (by rw [hml]; exact hL.1.symm) hown (hts _ (sm_ac' hk)) (hts _ (sm_inW sm_wnat rfl)) (hts _ (sm_inW sm_wacs rfl)) (hts _ (sm_inW sm_wsys rfl)) hK hP hD hS ks kd 1 1 e0 e1 rfl rfl rfl a1 a2 a3 a4 a5 (fun _ _ => rfl) (Nat.le_trans (by decide) hfr) (by rw [sm_nfw]; omega) hd (fun H1 locs1 hP1 hD1 hS1 => ?_)
        rw [← ec] at hP1 hD1
        exact sm_k1 hL hP1 hD1 hS1 K
      · cases h
    · cases h
  · cases h
theorem sm_noS {μ : Nat} (h : sm_cS st μ = some (.inl f)) : False := by
  unfold sm_cS at h
  split at h
  · split at h
    · split at h <;> cases h
    · cases h
  · cases h
theorem sm_noV {μ : Nat} (h : sm_cV st μ hp = some (.inl f)) : False := by
  unfold sm_cV at h
  split at h
  · split at h
    · split at h
      · split at h
        · split at h <;> cases h
        · cases h
      · cases h
    · cases h
  · cases h
theorem sm_noI {μ : Nat} (h : sm_cI st μ = some (.inl f)) : False := by
  unfold sm_cI at h
  split at h
  · split at h
    · split at h <;> cases h
    · cases h
  · cases h
end STQ
