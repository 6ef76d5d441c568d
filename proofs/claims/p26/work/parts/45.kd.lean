/-! calls by a list of contracts, else walked in place -/
noncomputable def an_ktl : List an_Ct → an_KT
  | [], _, _, _ => none
  | C :: t, μ, as, Z => match an_kc C μ as Z with
    | some r => some r
    | none => an_ktl t μ as Z
noncomputable def an_kh (L : List an_Ct) (μ : Nat) : Bool := L.any (fun C => Nat.beq C.1 μ)
noncomputable def an_kd (L : List an_Ct) (f : Nat) (n : Nat) : an_KT := Nat.rec (an_ktl L) (fun _ ih => an_kor (an_kh L) (an_ktl L) (an_inl ih f)) n
noncomputable def an_CL (d : Nat) (L : List an_Ct) : Prop := ∀ C ∈ L, an_CO d C
theorem an_Cnil {d : Nat} : an_CL d [] := fun C h => by cases h
theorem an_Ccons {d : Nat} {C : an_Ct} {L : List an_Ct} (h : an_CO d C) (h' : an_CL d L) : an_CL d (C :: L) := fun D hD => by
  rcases List.mem_cons.mp hD with rfl | hD
  · exact h
  · exact h' D hD
theorem an_CO_up {d d' : Nat} {C : an_Ct} (h : an_CO d C) (hd : d ≤ d') : an_CO d' C := fun ρ vs hp hw h1 h2 => by
  obtain ⟨v, hp', a, b⟩ := h ρ vs hp hw h1 h2
  exact ⟨v, hp', em_up a hd, b⟩
theorem an_ktl_ok {d : Nat} : ∀ {L : List an_Ct}, an_CL d L → an_KO d (an_ktl L)
  | [], _ => fun μ as Z Es ρ h0 hp vs h => by cases h
  | C :: t, hL => fun μ as Z Es ρ h0 hp vs h hw hF hZ => by
    unfold an_ktl at h
    split at h
    · rename_i r hr
      cases h
      exact an_kc_ok (hL C List.mem_cons_self) μ as Z _ ρ h0 hp vs hr hw hF hZ
    · exact an_ktl_ok (fun D hD => hL D (List.mem_cons_of_mem _ hD)) μ as Z Es ρ h0 hp vs h hw hF hZ
theorem an_kd_ok {d : Nat} {L : List an_Ct} (hL : an_CL d L) (f : Nat) : ∀ n : Nat, an_KO (d + n) (an_kd L f n)
  | 0 => an_ktl_ok hL
  | n + 1 => an_kor_ok (an_KO_up (an_ktl_ok hL) (by omega)) (an_inl_ok (an_kd_ok hL f n))
