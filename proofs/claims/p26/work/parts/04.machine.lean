/-! THE SHADOW MACHINE: cells by their numbers, arrays as lists; calls by a function that is given -/
abbrev sm_C : Type := (Nat × (List Int32 ⊕ List Int64)) ⊕ (Nat × List Value)
abbrev sm_H : Type := List sm_C
abbrev sm_L : Type := List (Option Value)
/-- a method's end: answer, heap, cells and slots that are new -/
abbrev sm_O : Type := Option Value × sm_H × Nat × Nat
/-- an instruction's end: on (pc, locals, stack, heap, new cells, new slots); a call (method, arguments, the rest of the stack); an end -/
abbrev sm_R : Type := (Nat × sm_L × List Value × sm_H × Nat × Nat) ⊕ (Nat × List Value × List Value) ⊕ Option Value
noncomputable def sm_ld (ls : sm_L) (i : Nat) : Option Value := match ls[i]? with
  | some (some v) => some v
  | _ => none
noncomputable def sm_clr (ls : sm_L) (i : Nat) : sm_L := match i with
  | 0 => ls
  | j + 1 => match ls[j]? with
    | some (some w) => if w.category = 2 then ls.set j none else ls
    | _ => ls
noncomputable def sm_st1 (ls : sm_L) (i : Nat) (v : Value) : Option sm_L := if i < ls.length then some ((sm_clr ls i).set i (some v)) else none
noncomputable def sm_st2 (ls : sm_L) (i : Nat) (v : Value) : Option sm_L := if i + 1 < ls.length then some (((sm_clr ls i).set i (some v)).set (i + 1) none) else none
noncomputable def sm_loc (as : List Value) (n : Nat) : sm_L := as.flatMap (fun v => if v.category = 2 then [some v, none] else [some v]) ++ List.replicate (n - (as.flatMap (fun v => if v.category = 2 then [some v, none] else [some v])).length) none
noncomputable def sm_rv (n : Nat) (v : Value) : Bool := match v with
  | .ref k => Nat.blt k n
  | _ => true
noncomputable def sm_rl (n : Nat) (ls : sm_L) : Bool := ls.all (fun o => match o with
  | some v => sm_rv n v
  | none => true)
noncomputable def sm_rs (n : Nat) (st : List Value) : Bool := st.all (sm_rv n)
noncomputable def sm_rh (n : Nat) (hp : sm_H) : Bool := hp.all (fun c => match c with
  | .inl _ => true
  | .inr o => o.2.all (sm_rv n))
noncomputable def sm_w (st : List Value) : Nat := (st.map fun v => v.category).sum
noncomputable def sm_ft (a b : Nat) : FieldType := (sm_fy.getD a (fun _ => .int)) b
noncomputable def sm_fit (a b : Nat) (v : Value) : Bool := match sm_ft a b, v with
  | .int, .int _ => true
  | .boolean, .int x => decide (x = 0 ∨ x = 1)
  | .object _, .ref _ => true
  | .array _, .ref _ => true
  | _, _ => false
noncomputable def sm_c0 (c : ClassFile.Cond) (x : Int32) : Bool := match c with
  | .eq => decide (x = 0)
  | .ne => !decide (x = 0)
  | .lt => decide (x < 0)
  | .ge => decide (0 ≤ x)
  | .gt => decide (0 < x)
  | .le => decide (x ≤ 0)
noncomputable def sm_c2 (c : ClassFile.Cond) (x y : Int32) : Bool := match c with
  | .eq => decide (x = y)
  | .ne => !decide (x = y)
  | .lt => decide (x < y)
  | .ge => decide (y ≤ x)
  | .gt => decide (y < x)
  | .le => decide (x ≤ y)
noncomputable def sm_n (pc : Nat) (ls : sm_L) (st : List Value) (hp : sm_H) : Option sm_R := some (.inl (pc, ls, st, hp, 0, 0))
noncomputable def sm_nl (pc : Nat) (o : Option sm_L) (st : List Value) (hp : sm_H) : Option sm_R := match o with
  | some ls => sm_n pc ls st hp
  | none => none
noncomputable def sm_i1 (st : List Value) (f : Int32 → Option Value) (pc : Nat) (ls : sm_L) (hp : sm_H) : Option sm_R := match st with
  | .int x :: r => match f x with
    | some v => sm_n (pc + 1) ls (v :: r) hp
    | none => none
  | _ => none
noncomputable def sm_i2 (st : List Value) (f : Int32 → Int32 → Option Value) (pc : Nat) (ls : sm_L) (hp : sm_H) : Option sm_R := match st with
  | .int y :: .int x :: r => match f x y with
    | some v => sm_n (pc + 1) ls (v :: r) hp
    | none => none
  | _ => none
noncomputable def sm_l2 (st : List Value) (f : Int64 → Int64 → Value) (pc : Nat) (ls : sm_L) (hp : sm_H) : Option sm_R := match st with
  | .long y :: .long x :: r => sm_n (pc + 1) ls (f x y :: r) hp
  | _ => none
noncomputable def sm_ls (st : List Value) (f : Int64 → Int32 → Value) (pc : Nat) (ls : sm_L) (hp : sm_H) : Option sm_R := match st with
  | .int y :: .long x :: r => sm_n (pc + 1) ls (f x y :: r) hp
  | _ => none
noncomputable def sm_ldi (ls : sm_L) (i d pc : Nat) (st : List Value) (hp : sm_H) : Option sm_R := match sm_ld ls i with
  | some (.int x) => sm_n (pc + d) ls (.int x :: st) hp
  | _ => none
noncomputable def sm_ldl (ls : sm_L) (i d pc : Nat) (st : List Value) (hp : sm_H) : Option sm_R := match sm_ld ls i with
  | some (.long x) => sm_n (pc + d) ls (.long x :: st) hp
  | _ => none
noncomputable def sm_lda (ls : sm_L) (i d pc : Nat) (st : List Value) (hp : sm_H) : Option sm_R := match sm_ld ls i with
  | some (.ref x) => sm_n (pc + d) ls (.ref x :: st) hp
  | _ => none
noncomputable def sm_sti (ls : sm_L) (i d pc : Nat) (st : List Value) (hp : sm_H) : Option sm_R := match st with
  | .int x :: r => sm_nl (pc + d) (sm_st1 ls i (.int x)) r hp
  | _ => none
noncomputable def sm_sta (ls : sm_L) (i d pc : Nat) (st : List Value) (hp : sm_H) : Option sm_R := match st with
  | .ref x :: r => sm_nl (pc + d) (sm_st1 ls i (.ref x)) r hp
  | _ => none
noncomputable def sm_stl (ls : sm_L) (i d pc : Nat) (st : List Value) (hp : sm_H) : Option sm_R := match st with
  | .long x :: r => sm_nl (pc + d) (sm_st2 ls i (.long x)) r hp
  | _ => none
noncomputable def sm_inc (ls : sm_L) (i : Nat) (n : Int) (pc : Nat) (st : List Value) (hp : sm_H) : Option sm_R := match sm_ld ls i with
  | some (.int x) => sm_nl (pc + 3) (sm_st1 ls i (.int (x + Int32.ofInt n))) st hp
  | _ => none
noncomputable def sm_if (st : List Value) (c : ClassFile.Cond) (a pc : Nat) (ls : sm_L) (hp : sm_H) : Option sm_R := match st with
  | .int x :: r => sm_n (cond (sm_c0 c x) a (pc + 3)) ls r hp
  | _ => none
noncomputable def sm_icmp (st : List Value) (c : ClassFile.Cond) (a pc : Nat) (ls : sm_L) (hp : sm_H) : Option sm_R := match st with
  | .int y :: .int x :: r => sm_n (cond (sm_c2 c x y) a (pc + 3)) ls r hp
  | _ => none
noncomputable def sm_to (pc : Nat) (off : Int) (ls : sm_L) (st : List Value) (hp : sm_H) : Option sm_R := if 0 ≤ (pc : Int) + off then sm_n ((pc : Int) + off).toNat ls st hp else none
noncomputable def sm_tsw (st : List Value) (d lo hi : Int) (offs : Array Int) (pc : Nat) (ls : sm_L) (hp : sm_H) : Option sm_R := match st with
  | .int x :: r => if x.toInt < lo ∨ hi < x.toInt then sm_to pc d ls r hp else match offs[(x.toInt - lo).toNat]? with
    | some off => sm_to pc off ls r hp
    | none => none
  | _ => none
noncomputable def sm_lsw (st : List Value) (d : Int) (ps : Array (Int × Int)) (pc : Nat) (ls : sm_L) (hp : sm_H) : Option sm_R := match st with
  | .int x :: r => if (ps.toList.zip (ps.toList.drop 1)).all (fun (a, next) => a.1 < next.1) = true then sm_to pc (Op.lookupswitch.offset ps.toList d x.toInt) ls r hp else none
  | _ => none
noncomputable def sm_gf (st : List Value) (a b pc : Nat) (ls : sm_L) (hp : sm_H) : Option sm_R := match st with
  | .ref k :: r => match hp[k]? with
    | some (.inr o) => if o.1 = a then match o.2[b]? with
        | some v => sm_n (pc + 3) ls (v :: r) hp
        | none => none
      else none
    | _ => none
  | _ => none
noncomputable def sm_pf (st : List Value) (a b pc : Nat) (ls : sm_L) (hp : sm_H) : Option sm_R := match st with
  | v :: .ref k :: r => match hp[k]? with
    | some (.inr o) => if o.1 = a ∧ b < o.2.length ∧ sm_fit a b v = true then sm_n (pc + 3) ls r (hp.set k (.inr (o.1, o.2.set b v))) else none
    | _ => none
  | _ => none
/-- an array of ints (kind 0) or bytes (kind 2) is read -/
noncomputable def sm_al (st : List Value) (kd pc : Nat) (ls : sm_L) (hp : sm_H) : Option sm_R := match st with
  | .int i :: .ref k :: r => match hp[k]? with
    | some (.inl (kk, .inl l)) => if kk = kd ∧ ¬ i < 0 then match l[i.toNatClampNeg]? with
        | some x => sm_n (pc + 1) ls (.int x :: r) hp
        | none => none
      else none
    | _ => none
  | _ => none
noncomputable def sm_ll (st : List Value) (pc : Nat) (ls : sm_L) (hp : sm_H) : Option sm_R := match st with
  | .int i :: .ref k :: r => match hp[k]? with
    | some (.inl (kk, .inr l)) => if kk = 1 ∧ ¬ i < 0 then match l[i.toNatClampNeg]? with
        | some x => sm_n (pc + 1) ls (.long x :: r) hp
        | none => none
      else none
    | _ => none
  | _ => none
noncomputable def sm_as (st : List Value) (kd pc : Nat) (ls : sm_L) (hp : sm_H) : Option sm_R := match st with
  | .int x :: .int i :: .ref k :: r => match hp[k]? with
    | some (.inl (kk, .inl l)) => if kk = kd ∧ ¬ i < 0 ∧ i.toNatClampNeg < l.length then sm_n (pc + 1) ls r (hp.set k (.inl (kk, .inl (l.set i.toNatClampNeg (if kd = 2 then vp_nar .byte x else x))))) else none
    | _ => none
  | _ => none
noncomputable def sm_lls (st : List Value) (pc : Nat) (ls : sm_L) (hp : sm_H) : Option sm_R := match st with
  | .long x :: .int i :: .ref k :: r => match hp[k]? with
    | some (.inl (kk, .inr l)) => if kk = 1 ∧ ¬ i < 0 ∧ i.toNatClampNeg < l.length then sm_n (pc + 1) ls r (hp.set k (.inl (kk, .inr (l.set i.toNatClampNeg x)))) else none
    | _ => none
  | _ => none
noncomputable def sm_alen (st : List Value) (pc : Nat) (ls : sm_L) (hp : sm_H) : Option sm_R := match st with
  | .ref k :: r => match hp[k]? with
    | some (.inl (kk, .inl l)) => if kk = 0 ∨ kk = 2 then sm_n (pc + 1) ls (.int (Int32.ofNat l.length) :: r) hp else none
    | some (.inl (kk, .inr l)) => if kk = 1 then sm_n (pc + 1) ls (.int (Int32.ofNat l.length) :: r) hp else none
    | _ => none
  | _ => none
noncomputable def sm_na (st : List Value) (t : ArrayType) (pc : Nat) (ls : sm_L) (hp : sm_H) : Option sm_R := match st with
  | .int n :: r => if ¬ n < 0 ∧ n.toNatClampNeg ≤ 100000 ∧ sm_rl hp.length ls = true ∧ sm_rs hp.length r = true ∧ sm_rh hp.length hp = true then match t with
      | .int => some (.inl (pc + 2, ls, .ref hp.length :: r, hp ++ [.inl (0, .inl (List.replicate n.toNatClampNeg 0))], 1, n.toNatClampNeg))
      | .long => some (.inl (pc + 2, ls, .ref hp.length :: r, hp ++ [.inl (1, .inr (List.replicate n.toNatClampNeg 0))], 1, n.toNatClampNeg))
      | .byte => some (.inl (pc + 2, ls, .ref hp.length :: r, hp ++ [.inl (2, .inl (List.replicate n.toNatClampNeg 0))], 1, n.toNatClampNeg))
      | _ => none
    else none
  | _ => none
noncomputable def sm_nw (st : List Value) (a pc : Nat) (ls : sm_L) (hp : sm_H) : Option sm_R := match sm_cl[a]? with
  | some q => if sm_rl hp.length ls = true ∧ sm_rs hp.length st = true ∧ sm_rh hp.length hp = true then some (.inl (pc + 3, ls, .ref hp.length :: st, hp ++ [.inr (a, (List.range q.2.2).map (fun k => defaultValue (sm_ft a k)))], 1, q.2.2)) else none
  | none => none
noncomputable def sm_cpy {α : Type} (f g : List α) (sp dp n : Nat) : List α := g.take dp ++ ((f.drop sp).take n ++ g.drop (dp + n))
noncomputable def sm_ac (st : List Value) (pc : Nat) (ls : sm_L) (hp : sm_H) : Option sm_R := match st with
  | .int n :: .int dp :: .ref kd :: .int sp :: .ref ks :: r => match hp[ks]?, hp[kd]? with
    | some (.inl (k0, .inl f)), some (.inl (k1, .inl g)) => if k0 = 0 ∧ k1 = 0 ∧ ¬ sp < 0 ∧ ¬ dp < 0 ∧ ¬ n < 0 ∧ sp.toNatClampNeg + n.toNatClampNeg ≤ f.length ∧ dp.toNatClampNeg + n.toNatClampNeg ≤ g.length ∧ sm_w r ≤ 8 then sm_n (pc + 3) ls r (hp.set kd (.inl (k1, .inl (sm_cpy f g sp.toNatClampNeg dp.toNatClampNeg n.toNatClampNeg)))) else none
    | some (.inl (k0, .inr f)), some (.inl (k1, .inr g)) => if k0 = 1 ∧ k1 = 1 ∧ ¬ sp < 0 ∧ ¬ dp < 0 ∧ ¬ n < 0 ∧ sp.toNatClampNeg + n.toNatClampNeg ≤ f.length ∧ dp.toNatClampNeg + n.toNatClampNeg ≤ g.length ∧ sm_w r ≤ 8 then sm_n (pc + 3) ls r (hp.set kd (.inl (k1, .inr (sm_cpy f g sp.toNatClampNeg dp.toNatClampNeg n.toNatClampNeg)))) else none
    | _, _ => none
  | _ => none
noncomputable def sm_oi (st : List Value) (pc : Nat) (ls : sm_L) (hp : sm_H) : Option sm_R := match st with
  | .ref _ :: r => if sm_w r ≤ 8 then sm_n (pc + 3) ls r hp else none
  | _ => none
/-- a call: its arguments (the receiver first), and what is below them -/
noncomputable def sm_take (st : List Value) (k : Nat) : Option (List Value × List Value) := if k ≤ st.length ∧ sm_w (st.drop k) ≤ 8 then some ((st.take k).reverse, st.drop k) else none
noncomputable def sm_cS (st : List Value) (μ : Nat) : Option sm_R := match sm_mt μ with
  | some E => if E.2.2.2.2.2.2.1 = 0 then (match sm_take st E.2.2.2.2.2.1 with
    | some q => some (.inr (.inl (μ, q.1, q.2)))
    | none => none) else none
  | none => none
/-- the receiver of a virtual call is an object of the method's class -/
noncomputable def sm_cV (st : List Value) (μ : Nat) (hp : sm_H) : Option sm_R := match sm_mt μ with
  | some E => if E.2.2.2.2.2.2.1 = 1 then (match sm_take st (E.2.2.2.2.2.1 + 1) with
    | some (.ref q :: as, r) => (match hp[q]? with
      | some (.inr o) => if o.1 = E.2.2.2.2.1 then some (.inr (.inl (μ, .ref q :: as, r))) else none
      | _ => none)
    | _ => none) else none
  | none => none
noncomputable def sm_cI (st : List Value) (μ : Nat) : Option sm_R := match sm_mt μ with
  | some E => if E.2.2.2.2.2.2.1 = 2 then (match sm_take st (E.2.2.2.2.2.1 + 1) with
    | some (.ref q :: as, r) => some (.inr (.inl (μ, .ref q :: as, r)))
    | _ => none) else none
  | none => none
noncomputable def sm_pop (st : List Value) (pc : Nat) (ls : sm_L) (hp : sm_H) : Option sm_R := match st with
  | v :: r => if v.category = 1 then sm_n (pc + 1) ls r hp else none
  | _ => none
noncomputable def sm_dup (st : List Value) (pc : Nat) (ls : sm_L) (hp : sm_H) : Option sm_R := match st with
  | v :: r => if v.category = 1 then sm_n (pc + 1) ls (v :: v :: r) hp else none
  | _ => none
noncomputable def sm_dup2 (st : List Value) (pc : Nat) (ls : sm_L) (hp : sm_H) : Option sm_R := match st with
  | v :: w :: r => if v.category = 1 ∧ w.category = 1 then sm_n (pc + 1) ls (v :: w :: v :: w :: r) hp else none
  | _ => none
noncomputable def sm_ir (st : List Value) (b : Nat) : Option sm_R := match st with
  | [.int v] => if b = 0 ∨ (b = 1 ∧ (v = 0 ∨ v = 1)) then some (.inr (.inr (some (.int v)))) else none
  | _ => none
noncomputable def sm_lr (st : List Value) : Option sm_R := match st with
  | [.long v] => some (.inr (.inr (some (.long v))))
  | _ => none
noncomputable def sm_vr (st : List Value) : Option sm_R := match st with
  | [] => some (.inr (.inr none))
  | _ => none
noncomputable def sm_l2i (st : List Value) (pc : Nat) (ls : sm_L) (hp : sm_H) : Option sm_R := match st with
  | .long x :: r => sm_n (pc + 1) ls (.int x.toInt32 :: r) hp
  | _ => none
/-- the place of a char in the String of the law's letters -/
noncomputable def sx_b : List Int32 := [103, 99, 108, 97, 98, 109, 118, 116]
noncomputable def sx_ixF (c : Int32) : List Int32 → Nat → Int32
  | [], _ => -1
  | b :: l, k => if b = c then Int32.ofNat k else sx_ixF c l (k + 1)
noncomputable def sm_iof (ls : sm_L) (b pc : Nat) (st : List Value) (hp : sm_H) : Option sm_R := match sm_ld ls b with
  | some (.int x) => if sm_w st ≤ 8 then sm_n (pc + 7) ls (.int (sx_ixF (x.toUInt32 % 65536).toInt32 sx_b 0) :: st) hp else none
  | _ => none
noncomputable def sm_x0 (i : Instr) : Nat → Nat → Nat → sm_L → List Value → sm_H → Option sm_R := match i with
  | .iconst n => fun _ _ pc ls st hp => sm_n (pc + 1) ls (.int (Int32.ofInt n) :: st) hp
  | .bipush n => fun _ _ pc ls st hp => sm_n (pc + 2) ls (.int (Int8.ofInt n).toInt32 :: st) hp
  | .sipush n => fun _ _ pc ls st hp => sm_n (pc + 3) ls (.int (Int16.ofInt n).toInt32 :: st) hp
  | .lconst n => fun _ _ pc ls st hp => sm_n (pc + 1) ls (.long (Int64.ofNat n.val) :: st) hp
  | .ldc _ => fun a b pc ls st hp => if a = 9998 then sm_iof ls b pc st hp else sm_n (pc + 2) ls (.int (Int32.ofNat a) :: st) hp
  | .ldc_w _ => fun a _ pc ls st hp => sm_n (pc + 3) ls (.int (Int32.ofNat a) :: st) hp
  | .ldc2_w _ => fun a _ pc ls st hp => sm_n (pc + 3) ls (.long (Int64.ofNat a) :: st) hp
  | .iload i => fun _ _ pc ls st hp => sm_ldi ls i 2 pc st hp
  | .iload_n i => fun _ _ pc ls st hp => sm_ldi ls i.val 1 pc st hp
  | .lload i => fun _ _ pc ls st hp => sm_ldl ls i 2 pc st hp
  | .lload_n i => fun _ _ pc ls st hp => sm_ldl ls i.val 1 pc st hp
  | .aload i => fun _ _ pc ls st hp => sm_lda ls i 2 pc st hp
  | .aload_n i => fun _ _ pc ls st hp => sm_lda ls i.val 1 pc st hp
  | .istore i => fun _ _ pc ls st hp => sm_sti ls i 2 pc st hp
  | .istore_n i => fun _ _ pc ls st hp => sm_sti ls i.val 1 pc st hp
  | .lstore i => fun _ _ pc ls st hp => sm_stl ls i 2 pc st hp
  | .lstore_n i => fun _ _ pc ls st hp => sm_stl ls i.val 1 pc st hp
  | .astore i => fun _ _ pc ls st hp => sm_sta ls i 2 pc st hp
  | .astore_n i => fun _ _ pc ls st hp => sm_sta ls i.val 1 pc st hp
  | .iinc i n => fun _ _ pc ls st hp => sm_inc ls i n pc st hp
  | .iadd => fun _ _ pc ls st hp => sm_i2 st (fun x y => some (.int (x + y))) pc ls hp
  | .isub => fun _ _ pc ls st hp => sm_i2 st (fun x y => some (.int (x - y))) pc ls hp
  | .imul => fun _ _ pc ls st hp => sm_i2 st (fun x y => some (.int (x * y))) pc ls hp
  | .idiv => fun _ _ pc ls st hp => sm_i2 st (fun x y => if y = 0 then none else some (.int (x / y))) pc ls hp
  | .irem => fun _ _ pc ls st hp => sm_i2 st (fun x y => if y = 0 then none else some (.int (x - x / y * y))) pc ls hp
  | .iand => fun _ _ pc ls st hp => sm_i2 st (fun x y => some (.int (x &&& y))) pc ls hp
  | .ior => fun _ _ pc ls st hp => sm_i2 st (fun x y => some (.int (x ||| y))) pc ls hp
  | .ixor => fun _ _ pc ls st hp => sm_i2 st (fun x y => some (.int (x ^^^ y))) pc ls hp
  | .ishl => fun _ _ pc ls st hp => sm_i2 st (fun x y => some (.int (x <<< (y &&& 31)))) pc ls hp
  | .ishr => fun _ _ pc ls st hp => sm_i2 st (fun x y => some (.int (x >>> (y &&& 31)))) pc ls hp
  | .iushr => fun _ _ pc ls st hp => sm_i2 st (fun x y => some (.int (x.toUInt32 >>> (y.toUInt32 &&& Int32.toUInt32 31)).toInt32)) pc ls hp
  | .ineg => fun _ _ pc ls st hp => sm_i1 st (fun x => some (.int (-x))) pc ls hp
  | .i2l => fun _ _ pc ls st hp => sm_i1 st (fun x => some (.long x.toInt64)) pc ls hp
  | .i2b => fun _ _ pc ls st hp => sm_i1 st (fun x => some (.int x.toInt8.toInt32)) pc ls hp
  | .i2c => fun _ _ pc ls st hp => sm_i1 st (fun x => some (.int (x.toUInt32 % 65536).toInt32)) pc ls hp
  | .l2i => fun _ _ pc ls st hp => sm_l2i st pc ls hp
  | .ladd => fun _ _ pc ls st hp => sm_l2 st (fun x y => .long (x + y)) pc ls hp
  | .lsub => fun _ _ pc ls st hp => sm_l2 st (fun x y => .long (x - y)) pc ls hp
  | .land => fun _ _ pc ls st hp => sm_l2 st (fun x y => .long (x &&& y)) pc ls hp
  | .lor => fun _ _ pc ls st hp => sm_l2 st (fun x y => .long (x ||| y)) pc ls hp
  | .lcmp => fun _ _ pc ls st hp => sm_l2 st (fun x y => .int (lg_cmp x y)) pc ls hp
  | .lushr => fun _ _ pc ls st hp => sm_ls st (fun x y => .long (x.toUInt64 >>> (y.toInt64.toUInt64 &&& Int64.toUInt64 63)).toInt64) pc ls hp
  | .lshl => fun _ _ pc ls st hp => sm_ls st (fun x y => .long (x <<< (y.toInt64 &&& 63))) pc ls hp
  | .dup => fun _ _ pc ls st hp => sm_dup st pc ls hp
  | .pop => fun _ _ pc ls st hp => sm_pop st pc ls hp
  | .dup2 => fun _ _ pc ls st hp => sm_dup2 st pc ls hp
  | .ifCond c _ => fun a _ pc ls st hp => sm_if st c a pc ls hp
  | .if_icmp c _ => fun a _ pc ls st hp => sm_icmp st c a pc ls hp
  | .goto _ => fun a _ _ ls st hp => sm_n a ls st hp
  | .tableswitch d lo hi offs => fun _ _ pc ls st hp => sm_tsw st d lo hi offs pc ls hp
  | .lookupswitch d ps => fun _ _ pc ls st hp => sm_lsw st d ps pc ls hp
  | .getfield _ => fun a b pc ls st hp => sm_gf st a b pc ls hp
  | .putfield _ => fun a b pc ls st hp => sm_pf st a b pc ls hp
  | .iaload => fun _ _ pc ls st hp => sm_al st 0 pc ls hp
  | .baload => fun _ _ pc ls st hp => sm_al st 2 pc ls hp
  | .laload => fun _ _ pc ls st hp => sm_ll st pc ls hp
  | .iastore => fun _ _ pc ls st hp => sm_as st 0 pc ls hp
  | .bastore => fun _ _ pc ls st hp => sm_as st 2 pc ls hp
  | .lastore => fun _ _ pc ls st hp => sm_lls st pc ls hp
  | .arraylength => fun _ _ pc ls st hp => sm_alen st pc ls hp
  | .newarray t => fun _ _ pc ls st hp => sm_na st t pc ls hp
  | .new _ => fun a _ pc ls st hp => sm_nw st a pc ls hp
  | .invokestatic _ => fun a _ pc ls st hp => if a = 9998 then none else if a = 9997 then sm_ac st pc ls hp else sm_cS st a
  | .invokevirtual _ => fun a _ _ _ st hp => if a = 9998 then none else sm_cV st a hp
  | .invokespecial _ => fun a _ pc ls st hp => if a = 9999 then sm_oi st pc ls hp else sm_cI st a
  | .ireturn => fun _ b _ _ st _ => sm_ir st b
  | .lreturn => fun _ _ _ _ st _ => sm_lr st
  | .return_ => fun _ _ _ _ st _ => sm_vr st
  | _ => fun _ _ _ _ _ _ => none
noncomputable def sm_x (q : sm_I) (pc : Nat) (ls : sm_L) (st : List Value) (hp : sm_H) : Option sm_R := sm_x0 q.1 q.2.2.1 q.2.2.2 pc ls st hp
abbrev sm_K : Type := Nat → List Value → sm_H → Option sm_O
abbrev sm_J : Type := Nat → sm_L → List Value → sm_H → Nat → Nat → Option sm_O
noncomputable def sm_nx (cl : sm_K) (ih : sm_J) (r : Option sm_R) (pc : Nat) (ls : sm_L) (hp : sm_H) (cc ss : Nat) : Option sm_O := match r with
  | none => none
  | some (.inl f) => ih f.1 f.2.1 f.2.2.1 f.2.2.2.1 (cc + f.2.2.2.2.1) (ss + f.2.2.2.2.2)
  | some (.inr (.inl f)) => match cl f.1 f.2.1 hp with
    | some o => if o.2.2.1 = 0 ∨ (sm_rl hp.length ls = true ∧ sm_rs hp.length f.2.2 = true) then ih (pc + 3) ls (o.1.toList ++ f.2.2) o.2.1 (cc + o.2.2.1) (ss + o.2.2.2) else none
    | none => none
  | some (.inr (.inr v)) => some (v, hp, cc, ss)
noncomputable def sm_go (cl : sm_K) (ih : sm_J) (q : Option sm_I) : sm_J := fun pc ls st hp cc ss => match q with
  | some q => sm_nx cl ih (sm_x q pc ls st hp) pc ls hp cc ss
  | none => none
noncomputable def sm_run (cl : sm_K) (cd : Nat → Option sm_I) (n : Nat) : sm_J := Nat.rec (fun _ _ _ _ _ _ => none) (fun _ ih pc => sm_go cl ih (cd pc) pc) n
/-- the method, at most d calls deep, at most n instructions each -/
noncomputable def sm_call (n d : Nat) : sm_K := Nat.rec (fun _ _ _ => none) (fun _ ih μ as hp => match sm_mt μ with
  | some E => if (sm_loc as 0).length ≤ E.2.2.1 ∧ E.2.2.1 ≤ 45 then sm_run ih E.2.2.2.2.2.2.2.2 n 0 (sm_loc as E.2.2.1) [] hp 0 0 else none
  | none => none) d
