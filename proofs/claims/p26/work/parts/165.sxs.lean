/-! the String at the law's start -/
theorem sx_start {p : Program} {s : State} {m : MethodId} {meth : Method} {c : Code} {b L : Nat} {xs : Nat → Int32} (C0 : lw_At p s m meth c b L xs) : sm_Sx (fun q : Nat => s.heap.size ≤ q) s s.heap := by
  obtain ⟨-, -, -, -, -, hts, -, -, -, hgv⟩ := C0
  have hs := flat_of_before _ hgv
  have hA : ∀ a : Nat, a < s.heap.size → ¬ (fun q : Nat => s.heap.size ≤ q) a := fun a h => Nat.not_le.mpr h
  have hel : ∀ j : Nat, j < 8 → (Cond.eq (.elem (.field (.string "TeaCabinet$LawReader" sx_ki) "java/lang/String" "value" "[B") (.int (Int32.ofNat j))) (.int (sx_b.getD j 0))).before #[Value.ref b] s = true := by
    intro j hj
    match j, hj with
    | 0, _ => exact hs _ (by decide +kernel)
    | 1, _ => exact hs _ (by decide +kernel)
    | 2, _ => exact hs _ (by decide +kernel)
    | 3, _ => exact hs _ (by decide +kernel)
    | 4, _ => exact hs _ (by decide +kernel)
    | 5, _ => exact hs _ (by decide +kernel)
    | 6, _ => exact hs _ (by decide +kernel)
    | 7, _ => exact hs _ (by decide +kernel)
    | j + 8, h => exact absurd h (by omega)
  have h0 : ∀ i : Nat, i < 1 → i = 0 := fun i h => by omega
  obtain ⟨adK, adV, h1, h2⟩ := vk_Sof (args := #[Value.ref b]) (s := s) (N := 1) (tm := fun _ => .string "TeaCabinet$LawReader" sx_ki) (len := [8]) (byt := [sx_b]) (A := fun q : Nat => s.heap.size ≤ q)
    (fun i hi => by obtain rfl := h0 i hi; decide) (fun i hi => hs _ (by decide +kernel)) (fun i hi => hs _ (by decide +kernel)) (fun i hi => hs _ (by decide +kernel)) (fun i hi => by obtain rfl := h0 i hi; exact hs _ (by decide +kernel)) (fun i hi j hj => by obtain rfl := h0 i hi; exact hel j hj) (fun i j hi hj hne => absurd ((h0 i hi).trans (h0 j hj).symm) hne) hA
  refine ⟨adK 0, adV 0, vk_R.of (A := #[Value.ref b]) (hts _ sx_wR) (h2 0 (by decide)), (h1.1 0 (by decide)).1, (h1.1 0 (by decide)).2.1, (h1.1 0 (by decide)).2.2.1, (h1.1 0 (by decide)).2.2.2, ?_⟩
  exact va_Zof (hts _ sx_wls) (hts _ sx_inS) (va_eqi (hs _ (by decide +kernel))) hA
