/-! A small interpreter of the machine's code over abstract worlds: cells by number (0 is the script, k + 1 the k-th cell), one function a step. What it answers, the machine does (part 03). -/
noncomputable abbrev ri_C : Type := (FieldType × vp_A) ⊕ (Nat × List Value)
noncomputable abbrev ri_M : Type := List ri_C
noncomputable abbrev ri_L : Type := List (Option Value)
noncomputable abbrev ri_F : Type := Nat × ri_L × List Value × ri_M × Nat × Nat
noncomputable abbrev ri_R : Type := Option Value × ri_M × Nat × Nat
noncomputable abbrev ri_X : Type := Option (Nat × (Nat → Int32))
noncomputable abbrev ri_O : Type := Option (ri_F ⊕ ri_R)
noncomputable abbrev ri_J : Type := Instr × Nat × Nat × Nat × Nat
noncomputable abbrev ri_Ca : Type := Nat → List Value → ri_M → Option ri_R
noncomputable def ri_get (L : ri_L) (i : Nat) : Option Value := match L[i]? with
  | some o => o
  | none => none
noncomputable def ri_set (L : ri_L) (i : Nat) (v : Value) : ri_L := match i with
  | 0 => L.set 0 (some v)
  | j + 1 => match ri_get L j with
    | some (.long _) => (L.set (j + 1) (some v)).set j none
    | some (.double _) => (L.set (j + 1) (some v)).set j none
    | _ => L.set (j + 1) (some v)
noncomputable def ri_set2 (L : ri_L) (i : Nat) (v : Value) : ri_L := (ri_set L i v).set (i + 1) none
/-- the types of the fields, their defaults -/
noncomputable def ri_ft : Nat → Nat → FieldType := fun ci => match ci with
  | 0 => tyX0
  | 1 => tyX1
  | 2 => tyX2
  | 3 => tyX3
  | 4 => tyX4
  | 5 => tyX5
  | 6 => tyX6
  | 7 => tyX7
  | 8 => tyX8
  | 9 => tyX9
  | 10 => tyX10
  | _ => tyX11
noncomputable def ri_fn : Nat → Nat := fun ci => match ci with
  | 0 => 3
  | 1 => 1
  | 2 => 12
  | 3 => 13
  | 4 => 1
  | 5 => 4
  | 6 => 5
  | 7 => 2
  | 8 => 2
  | 9 => 6
  | 10 => 18
  | _ => 39
noncomputable def ri_new (ci : Nat) : List Value := (List.range (ri_fn ci)).map fun j => defaultValue (ri_ft ci j)
/-- does a value fit a field, or an answer, as it stands -/
noncomputable def ri_fit : FieldType → Value → Bool
  | .int, .int _ => true
  | .long, .long _ => true
  | .boolean, .int x => decide (x = 0) || decide (x = 1)
  | .object _, .ref _ => true
  | .object _, .null => true
  | .array _, .ref _ => true
  | .array _, .null => true
  | _, _ => false
/-- all references are below n + 1 -/
noncomputable def ri_okv (n : Nat) : Value → Bool
  | .ref k => Nat.ble k n
  | _ => true
noncomputable def ri_okc (n : Nat) : ri_C → Bool
  | .inr (_, fs) => fs.all (ri_okv n)
  | .inl (_, (m, .inr (.inr (.inr (.inr f))))) => (List.range m).all fun j => match f j with
    | some q => Nat.ble q n
    | none => true
  | .inl _ => true
noncomputable def ri_okL (n : Nat) (L : ri_L) : Bool := L.all fun o => match o with
  | some v => ri_okv n v
  | none => true
noncomputable def ri_wf (M : ri_M) (L : ri_L) (st : List Value) : Bool := M.all (ri_okc M.length) && ri_okL M.length L && st.all (ri_okv M.length)
noncomputable def ri_psh (len : Nat) (v : Value) (pc : Nat) (L : ri_L) (st : List Value) (M : ri_M) (cc sc : Nat) : ri_O := some (.inl (pc + len, L, v :: st, M, cc, sc))
noncomputable def ri_ild (len i pc : Nat) (L : ri_L) (st : List Value) (M : ri_M) (cc sc : Nat) : ri_O := match ri_get L i with
  | some (.int x) => some (.inl (pc + len, L, .int x :: st, M, cc, sc))
  | _ => none
noncomputable def ri_lld (len i pc : Nat) (L : ri_L) (st : List Value) (M : ri_M) (cc sc : Nat) : ri_O := match ri_get L i with
  | some (.long x) => some (.inl (pc + len, L, .long x :: st, M, cc, sc))
  | _ => none
noncomputable def ri_ald (len i pc : Nat) (L : ri_L) (st : List Value) (M : ri_M) (cc sc : Nat) : ri_O := match ri_get L i with
  | some (.ref x) => some (.inl (pc + len, L, .ref x :: st, M, cc, sc))
  | some .null => some (.inl (pc + len, L, .null :: st, M, cc, sc))
  | _ => none
noncomputable def ri_ist (len i pc : Nat) (L : ri_L) (st : List Value) (M : ri_M) (cc sc : Nat) : ri_O := match st with
  | .int x :: r => if i < L.length then some (.inl (pc + len, ri_set L i (.int x), r, M, cc, sc)) else none
  | _ => none
noncomputable def ri_lst (len i pc : Nat) (L : ri_L) (st : List Value) (M : ri_M) (cc sc : Nat) : ri_O := match st with
  | .long x :: r => if i + 1 < L.length then some (.inl (pc + len, ri_set2 L i (.long x), r, M, cc, sc)) else none
  | _ => none
noncomputable def ri_ast (len i pc : Nat) (L : ri_L) (st : List Value) (M : ri_M) (cc sc : Nat) : ri_O := match st with
  | .ref x :: r => if i < L.length then some (.inl (pc + len, ri_set L i (.ref x), r, M, cc, sc)) else none
  | .null :: r => if i < L.length then some (.inl (pc + len, ri_set L i .null, r, M, cc, sc)) else none
  | _ => none
noncomputable def ri_inc (i : Nat) (n : Int) (pc : Nat) (L : ri_L) (st : List Value) (M : ri_M) (cc sc : Nat) : ri_O := match ri_get L i with
  | some (.int x) => if i < L.length then some (.inl (pc + 3, ri_set L i (.int (x + Int32.ofInt n)), st, M, cc, sc)) else none
  | _ => none
noncomputable def ri_i2 (f : Int32 → Int32 → Int32) (pc : Nat) (L : ri_L) (st : List Value) (M : ri_M) (cc sc : Nat) : ri_O := match st with
  | .int y :: .int x :: r => some (.inl (pc + 1, L, .int (f x y) :: r, M, cc, sc))
  | _ => none
noncomputable def ri_d2 (f : Int32 → Int32 → Int32) (pc : Nat) (L : ri_L) (st : List Value) (M : ri_M) (cc sc : Nat) : ri_O := match st with
  | .int y :: .int x :: r => if y = 0 then none else some (.inl (pc + 1, L, .int (f x y) :: r, M, cc, sc))
  | _ => none
noncomputable def ri_l2 (f : Int64 → Int64 → Int64) (pc : Nat) (L : ri_L) (st : List Value) (M : ri_M) (cc sc : Nat) : ri_O := match st with
  | .long y :: .long x :: r => some (.inl (pc + 1, L, .long (f x y) :: r, M, cc, sc))
  | _ => none
noncomputable def ri_e2 (f : Int64 → Int64 → Int64) (pc : Nat) (L : ri_L) (st : List Value) (M : ri_M) (cc sc : Nat) : ri_O := match st with
  | .long y :: .long x :: r => if y = 0 then none else some (.inl (pc + 1, L, .long (f x y) :: r, M, cc, sc))
  | _ => none
noncomputable def ri_lsh (f : Int64 → Int32 → Int64) (pc : Nat) (L : ri_L) (st : List Value) (M : ri_M) (cc sc : Nat) : ri_O := match st with
  | .int y :: .long x :: r => some (.inl (pc + 1, L, .long (f x y) :: r, M, cc, sc))
  | _ => none
noncomputable def ri_lcm (pc : Nat) (L : ri_L) (st : List Value) (M : ri_M) (cc sc : Nat) : ri_O := match st with
  | .long y :: .long x :: r => some (.inl (pc + 1, L, .int (lg_cmp x y) :: r, M, cc, sc))
  | _ => none
noncomputable def ri_i1 (f : Int32 → Int32) (pc : Nat) (L : ri_L) (st : List Value) (M : ri_M) (cc sc : Nat) : ri_O := match st with
  | .int x :: r => some (.inl (pc + 1, L, .int (f x) :: r, M, cc, sc))
  | _ => none
noncomputable def ri_il (pc : Nat) (L : ri_L) (st : List Value) (M : ri_M) (cc sc : Nat) : ri_O := match st with
  | .int x :: r => some (.inl (pc + 1, L, .long x.toInt64 :: r, M, cc, sc))
  | _ => none
noncomputable def ri_li (pc : Nat) (L : ri_L) (st : List Value) (M : ri_M) (cc sc : Nat) : ri_O := match st with
  | .long x :: r => some (.inl (pc + 1, L, .int x.toInt32 :: r, M, cc, sc))
  | _ => none
/-- a value of one slot -/
noncomputable def ri_c1 : Value → Bool
  | .int _ => true
  | .ref _ => true
  | .null => true
  | _ => false
noncomputable def ri_pop (pc : Nat) (L : ri_L) (st : List Value) (M : ri_M) (cc sc : Nat) : ri_O := match st with
  | v :: r => if ri_c1 v = true then some (.inl (pc + 1, L, r, M, cc, sc)) else none
  | _ => none
noncomputable def ri_dup (pc : Nat) (L : ri_L) (st : List Value) (M : ri_M) (cc sc : Nat) : ri_O := match st with
  | v :: r => if ri_c1 v = true then some (.inl (pc + 1, L, v :: v :: r, M, cc, sc)) else none
  | _ => none
noncomputable def ri_dup2 (pc : Nat) (L : ri_L) (st : List Value) (M : ri_M) (cc sc : Nat) : ri_O := match st with
  | .long x :: r => some (.inl (pc + 1, L, .long x :: .long x :: r, M, cc, sc))
  | v :: w :: r => if (ri_c1 v && ri_c1 w) = true then some (.inl (pc + 1, L, v :: w :: v :: w :: r, M, cc, sc)) else none
  | _ => none
noncomputable def ri_dupx1 (pc : Nat) (L : ri_L) (st : List Value) (M : ri_M) (cc sc : Nat) : ri_O := match st with
  | v :: w :: r => if (ri_c1 v && ri_c1 w) = true then some (.inl (pc + 1, L, v :: w :: v :: r, M, cc, sc)) else none
  | _ => none
noncomputable def ri_jmp (off : Int) (pc : Nat) (L : ri_L) (st : List Value) (M : ri_M) (cc sc : Nat) : ri_O := match (pc : Int) + off with
  | .ofNat t => some (.inl (t, L, st, M, cc, sc))
  | .negSucc _ => none
noncomputable def ri_nul (off : Int) (yes : Bool) (pc : Nat) (L : ri_L) (st : List Value) (M : ri_M) (cc sc : Nat) : ri_O := match st, yes with
  | .null :: r, true => ri_jmp off pc L r M cc sc
  | .null :: r, false => some (.inl (pc + 3, L, r, M, cc, sc))
  | .ref _ :: r, false => ri_jmp off pc L r M cc sc
  | .ref _ :: r, true => some (.inl (pc + 3, L, r, M, cc, sc))
  | _, _ => none
noncomputable def ri_tsw (d lo hi : Int) (offs : Array Int) (pc : Nat) (L : ri_L) (st : List Value) (M : ri_M) (cc sc : Nat) : ri_O := match st with
  | .int x :: r => if x.toInt < lo ∨ hi < x.toInt then ri_jmp d pc L r M cc sc else match offs[(x.toInt - lo).toNat]? with
    | some off => ri_jmp off pc L r M cc sc
    | none => none
  | _ => none
noncomputable def ri_lsw (d : Int) (ps : Array (Int × Int)) (pc : Nat) (L : ri_L) (st : List Value) (M : ri_M) (cc sc : Nat) : ri_O := match st with
  | .int x :: r => if (ps.toList.zip (ps.toList.drop 1)).all (fun (a, next) => a.1 < next.1) = true then ri_jmp (Op.lookupswitch.offset ps.toList d x.toInt) pc L r M cc sc else none
  | _ => none
noncomputable def ri_gf (a b pc : Nat) (L : ri_L) (st : List Value) (M : ri_M) (cc sc : Nat) : ri_O := match st with
  | .ref (k + 1) :: r => match M[k]? with
    | some (.inr (ci, fs)) => if ci = a then match fs[b]? with
      | some v => some (.inl (pc + 3, L, v :: r, M, cc, sc))
      | none => none else none
    | _ => none
  | _ => none
noncomputable def ri_pf (a b pc : Nat) (L : ri_L) (st : List Value) (M : ri_M) (cc sc : Nat) : ri_O := match st with
  | v :: .ref (k + 1) :: r => match M[k]? with
    | some (.inr (ci, fs)) => if ci = a ∧ b < fs.length ∧ ri_fit (ri_ft a b) v = true then some (.inl (pc + 3, L, r, M.set k (.inr (ci, fs.set b v)), cc, sc)) else none
    | _ => none
  | _ => none
noncomputable def ri_ial (X : ri_X) (pc : Nat) (L : ri_L) (st : List Value) (M : ri_M) (cc sc : Nat) : ri_O := match st with
  | .int i :: .ref 0 :: r => match X with
    | some (n, f) => if i < 0 ∨ n ≤ i.toNatClampNeg then none else some (.inl (pc + 1, L, .int (f i.toNatClampNeg) :: r, M, cc, sc))
    | none => none
  | .int i :: .ref (k + 1) :: r => match M[k]? with
    | some (.inl (.int, (n, .inl f))) => if i < 0 ∨ n ≤ i.toNatClampNeg then none else some (.inl (pc + 1, L, .int (f i.toNatClampNeg) :: r, M, cc, sc))
    | _ => none
  | _ => none
noncomputable def ri_bal (pc : Nat) (L : ri_L) (st : List Value) (M : ri_M) (cc sc : Nat) : ri_O := match st with
  | .int i :: .ref (k + 1) :: r => match M[k]? with
    | some (.inl (.byte, (n, .inl f))) => if i < 0 ∨ n ≤ i.toNatClampNeg then none else some (.inl (pc + 1, L, .int (f i.toNatClampNeg) :: r, M, cc, sc))
    | some (.inl (.boolean, (n, .inl f))) => if i < 0 ∨ n ≤ i.toNatClampNeg then none else some (.inl (pc + 1, L, .int (f i.toNatClampNeg) :: r, M, cc, sc))
    | _ => none
  | _ => none
noncomputable def ri_lal (pc : Nat) (L : ri_L) (st : List Value) (M : ri_M) (cc sc : Nat) : ri_O := match st with
  | .int i :: .ref (k + 1) :: r => match M[k]? with
    | some (.inl (.long, (n, .inr (.inl f)))) => if i < 0 ∨ n ≤ i.toNatClampNeg then none else some (.inl (pc + 1, L, .long (f i.toNatClampNeg) :: r, M, cc, sc))
    | _ => none
  | _ => none
noncomputable def ri_aal (pc : Nat) (L : ri_L) (st : List Value) (M : ri_M) (cc sc : Nat) : ri_O := match st with
  | .int i :: .ref (k + 1) :: r => match M[k]? with
    | some (.inl (.object _, (n, .inr (.inr (.inr (.inr f)))))) => if i < 0 ∨ n ≤ i.toNatClampNeg then none else some (.inl (pc + 1, L, va_rf (f i.toNatClampNeg) :: r, M, cc, sc))
    | _ => none
  | _ => none
noncomputable def ri_ias (pc : Nat) (L : ri_L) (st : List Value) (M : ri_M) (cc sc : Nat) : ri_O := match st with
  | .int x :: .int i :: .ref (k + 1) :: r => match M[k]? with
    | some (.inl (.int, (n, .inl f))) => if i < 0 ∨ n ≤ i.toNatClampNeg then none else some (.inl (pc + 1, L, r, M.set k (.inl (.int, (n, .inl (upd f i.toNatClampNeg x)))), cc, sc))
    | _ => none
  | _ => none
noncomputable def ri_bas (pc : Nat) (L : ri_L) (st : List Value) (M : ri_M) (cc sc : Nat) : ri_O := match st with
  | .int x :: .int i :: .ref (k + 1) :: r => match M[k]? with
    | some (.inl (.byte, (n, .inl f))) => if i < 0 ∨ n ≤ i.toNatClampNeg then none else some (.inl (pc + 1, L, r, M.set k (.inl (.byte, (n, .inl (upd f i.toNatClampNeg (vp_nar .byte x))))), cc, sc))
    | some (.inl (.boolean, (n, .inl f))) => if i < 0 ∨ n ≤ i.toNatClampNeg then none else some (.inl (pc + 1, L, r, M.set k (.inl (.boolean, (n, .inl (upd f i.toNatClampNeg (vp_nar .boolean x))))), cc, sc))
    | _ => none
  | _ => none
noncomputable def ri_las (pc : Nat) (L : ri_L) (st : List Value) (M : ri_M) (cc sc : Nat) : ri_O := match st with
  | .long x :: .int i :: .ref (k + 1) :: r => match M[k]? with
    | some (.inl (.long, (n, .inr (.inl f)))) => if i < 0 ∨ n ≤ i.toNatClampNeg then none else some (.inl (pc + 1, L, r, M.set k (.inl (.long, (n, .inr (.inl (vp_updL f i.toNatClampNeg x))))), cc, sc))
    | _ => none
  | _ => none
noncomputable def ri_aas (pc : Nat) (L : ri_L) (st : List Value) (M : ri_M) (cc sc : Nat) : ri_O := match st with
  | .ref (v + 1) :: .int i :: .ref (k + 1) :: r => match M[k]?, M[v]? with
    | some (.inl (.object C, (n, .inr (.inr (.inr (.inr f)))))), some (.inr (ci, _)) => match vwCl[ci]? with
      | some q => if (i < 0 ∨ n ≤ i.toNatClampNeg) ∨ ¬ C = q.1 then none else some (.inl (pc + 1, L, r, M.set k (.inl (.object C, (n, .inr (.inr (.inr (.inr (va_up f i.toNatClampNeg (some (v + 1))))))))), cc, sc))
      | none => none
    | _, _ => none
  | _ => none
noncomputable def ri_aln (X : ri_X) (pc : Nat) (L : ri_L) (st : List Value) (M : ri_M) (cc sc : Nat) : ri_O := match st with
  | .ref 0 :: r => match X with
    | some (n, _) => some (.inl (pc + 1, L, .int (Int32.ofNat n) :: r, M, cc, sc))
    | none => none
  | .ref (k + 1) :: r => match M[k]? with
    | some (.inl (_, x)) => some (.inl (pc + 1, L, .int (Int32.ofNat x.1) :: r, M, cc, sc))
    | _ => none
  | _ => none
noncomputable def ri_dft : ArrayType → Option (Nat → vp_A)
  | .int => some fun n => (n, .inl fun _ => 0)
  | .byte => some fun n => (n, .inl fun _ => 0)
  | .boolean => some fun n => (n, .inl fun _ => 0)
  | .long => some fun n => (n, .inr (.inl fun _ => 0))
  | _ => none
noncomputable def ri_nwa (t : ArrayType) (pc : Nat) (L : ri_L) (st : List Value) (M : ri_M) (cc sc : Nat) : ri_O := match st with
  | .int n :: r => match ri_dft t with
    | some g => if (¬ n < 0 ∧ n.toNatClampNeg * componentBytes (newarray.typeOf t) ≤ 536870912) ∧ ri_wf M L r = true then some (.inl (pc + 2, L, .ref (M.length + 1) :: r, M ++ [.inl (newarray.typeOf t, g n.toNatClampNeg)], cc + 1, sc + n.toNatClampNeg)) else none
    | none => none
  | _ => none
noncomputable def ri_nwq (a pc : Nat) (L : ri_L) (st : List Value) (M : ri_M) (cc sc : Nat) : ri_O := match st with
  | .int n :: r => match vwCl[a]? with
    | some q => if (¬ n < 0 ∧ n.toNatClampNeg * 4 ≤ 536870912) ∧ ri_wf M L r = true then some (.inl (pc + 3, L, .ref (M.length + 1) :: r, M ++ [.inl (.object q.1, (n.toNatClampNeg, .inr (.inr (.inr (.inr fun _ => none)))))], cc + 1, sc + n.toNatClampNeg)) else none
    | none => none
  | _ => none
noncomputable def ri_nwo (a pc : Nat) (L : ri_L) (st : List Value) (M : ri_M) (cc sc : Nat) : ri_O :=
  if ri_wf M L st = true then some (.inl (pc + 3, L, .ref (M.length + 1) :: st, M ++ [.inr (a, ri_new a)], cc + 1, sc + ri_fn a)) else none
noncomputable def ri_spl : Nat → List Value → List Value → Option (List Value × List Value)
  | 0, as, st => some (as, st)
  | n + 1, as, v :: st => ri_spl n (v :: as) st
  | _ + 1, _, [] => none
noncomputable def ri_cat (st : List Value) : Nat := (st.map fun v => v.category).sum
noncomputable def ri_cls (call : ri_Ca) (a n pc : Nat) (L : ri_L) (st : List Value) (M : ri_M) (cc sc : Nat) : ri_O := match ri_spl n [] st with
  | some (as, r) => if ri_cat r ≤ 8 then match call a as M with
    | some (v, M1, c1, s1) => if c1 = 0 ∨ (ri_okL M.length L && r.all (ri_okv M.length)) = true then some (.inl (pc + 3, L, v.toList ++ r, M1, cc + c1, sc + s1)) else none
    | none => none else none
  | none => none
/-- a call on an object: its class is the method's -/
noncomputable def ri_clv (call : ri_Ca) (rc : Nat → Nat) (a n pc : Nat) (L : ri_L) (st : List Value) (M : ri_M) (cc sc : Nat) : ri_O := match ri_spl n [] st with
  | some (as, .ref (k + 1) :: r) => match M[k]? with
    | some (.inr (ci, _)) => if ci = rc a ∧ ri_cat r ≤ 8 then match call a (.ref (k + 1) :: as) M with
      | some (v, M1, c1, s1) => if c1 = 0 ∨ (ri_okL M.length L && r.all (ri_okv M.length)) = true then some (.inl (pc + 3, L, v.toList ++ r, M1, cc + c1, sc + s1)) else none
      | none => none else none
    | _ => none
  | _ => none
noncomputable def ri_cin (call : ri_Ca) (a n pc : Nat) (L : ri_L) (st : List Value) (M : ri_M) (cc sc : Nat) : ri_O := match ri_spl n [] st with
  | some (as, .ref k :: r) => if ri_cat r ≤ 8 then match call a (.ref k :: as) M with
    | some (v, M1, c1, s1) => if c1 = 0 ∨ (ri_okL M.length L && r.all (ri_okv M.length)) = true then some (.inl (pc + 3, L, v.toList ++ r, M1, cc + c1, sc + s1)) else none
    | none => none else none
  | _ => none
noncomputable def ri_oin (pc : Nat) (L : ri_L) (st : List Value) (M : ri_M) (cc sc : Nat) : ri_O := match st with
  | .ref _ :: r => if ri_cat r ≤ 8 then some (.inl (pc + 3, L, r, M, cc, sc)) else none
  | _ => none
noncomputable def ri_mm (f : Int32 → Int32 → Int32) (pc : Nat) (L : ri_L) (st : List Value) (M : ri_M) (cc sc : Nat) : ri_O := match st with
  | .int y :: .int x :: r => if ri_cat r ≤ 8 then some (.inl (pc + 3, L, .int (f x y) :: r, M, cc, sc)) else none
  | _ => none
noncomputable def ri_ma (pc : Nat) (L : ri_L) (st : List Value) (M : ri_M) (cc sc : Nat) : ri_O := match st with
  | .int x :: r => if ri_cat r ≤ 8 then some (.inl (pc + 3, L, .int (if 0 ≤ x then x else 0 - x) :: r, M, cc, sc)) else none
  | _ => none
noncomputable def ri_acp (pc : Nat) (L : ri_L) (st : List Value) (M : ri_M) (cc sc : Nat) : ri_O := match st with
  | .int n :: .int dp :: .ref (k + 1) :: .int sp :: .ref (k0 + 1) :: r => match M[k0]?, M[k]? with
    | some (.inl (.int, (n0, .inl f))), some (.inl (.int, (n1, .inl g))) => if (¬ sp < 0 ∧ ¬ dp < 0 ∧ ¬ n < 0 ∧ sp.toNatClampNeg + n.toNatClampNeg ≤ n0 ∧ dp.toNatClampNeg + n.toNatClampNeg ≤ n1) ∧ ri_cat r ≤ 8 then some (.inl (pc + 3, L, r, M.set k (.inl (.int, (n1, .inl (va_cpy f g sp.toNatClampNeg dp.toNatClampNeg n.toNatClampNeg)))), cc, sc)) else none
    | _, _ => none
  | _ => none
noncomputable def ri_ret (rt : Option FieldType) (st : List Value) (M : ri_M) (cc sc : Nat) : ri_O := match st, rt with
  | [.int x], some t => if ri_fit t (.int x) = true then some (.inr (some (.int x), M, cc, sc)) else none
  | _, _ => none
noncomputable def ri_lret (rt : Option FieldType) (st : List Value) (M : ri_M) (cc sc : Nat) : ri_O := match st, rt with
  | [.long x], some .long => some (.inr (some (.long x), M, cc, sc))
  | _, _ => none
noncomputable def ri_aret (rt : Option FieldType) (st : List Value) (M : ri_M) (cc sc : Nat) : ri_O := match st, rt with
  | [.null], some (.object _) => some (.inr (some .null, M, cc, sc))
  | [.ref k], some (.object _) => some (.inr (some (.ref k), M, cc, sc))
  | _, _ => none
noncomputable def ri_vret (rt : Option FieldType) (st : List Value) (M : ri_M) (cc sc : Nat) : ri_O := match st, rt with
  | [], none => some (.inr (none, M, cc, sc))
  | _, _ => none
noncomputable def ri_ic (k : ClassFile.Cond) (off : Int) (pc : Nat) (L : ri_L) (st : List Value) (M : ri_M) (cc sc : Nat) : ri_O := match st with
  | .int y :: .int x :: r => match k with
    | .eq => if x = y then ri_jmp off pc L r M cc sc else some (.inl (pc + 3, L, r, M, cc, sc))
    | .ne => if x = y then some (.inl (pc + 3, L, r, M, cc, sc)) else ri_jmp off pc L r M cc sc
    | .lt => if x < y then ri_jmp off pc L r M cc sc else some (.inl (pc + 3, L, r, M, cc, sc))
    | .ge => if y ≤ x then ri_jmp off pc L r M cc sc else some (.inl (pc + 3, L, r, M, cc, sc))
    | .gt => if y < x then ri_jmp off pc L r M cc sc else some (.inl (pc + 3, L, r, M, cc, sc))
    | .le => if x ≤ y then ri_jmp off pc L r M cc sc else some (.inl (pc + 3, L, r, M, cc, sc))
  | _ => none
noncomputable def ri_iz (k : ClassFile.Cond) (off : Int) (pc : Nat) (L : ri_L) (st : List Value) (M : ri_M) (cc sc : Nat) : ri_O := match st with
  | .int x :: r => match k with
    | .eq => if x = 0 then ri_jmp off pc L r M cc sc else some (.inl (pc + 3, L, r, M, cc, sc))
    | .ne => if x = 0 then some (.inl (pc + 3, L, r, M, cc, sc)) else ri_jmp off pc L r M cc sc
    | .lt => if x < 0 then ri_jmp off pc L r M cc sc else some (.inl (pc + 3, L, r, M, cc, sc))
    | .ge => if 0 ≤ x then ri_jmp off pc L r M cc sc else some (.inl (pc + 3, L, r, M, cc, sc))
    | .gt => if 0 < x then ri_jmp off pc L r M cc sc else some (.inl (pc + 3, L, r, M, cc, sc))
    | .le => if x ≤ 0 then ri_jmp off pc L r M cc sc else some (.inl (pc + 3, L, r, M, cc, sc))
  | _ => none
noncomputable def ri_ushr (x y : Int32) : Int32 := (x.toUInt32 >>> (y.toUInt32 &&& Int32.toUInt32 31)).toInt32
/-- one step: the instruction, its length, its numbers out of the tables -/
noncomputable def ri_step (X : ri_X) (call : ri_Ca) (rc : Nat → Nat) (rt : Option FieldType) (j : ri_J) (pc : Nat) (L : ri_L) (st : List Value) (M : ri_M) (cc sc : Nat) : ri_O :=
  match j with
  | (ins, len, a, b, c) => match ins with
    | .aaload => ri_aal pc L st M cc sc
    | .aastore => ri_aas pc L st M cc sc
    | .aconst_null => ri_psh 1 .null pc L st M cc sc
    | .aload i => ri_ald 2 i pc L st M cc sc
    | .aload_n i => ri_ald 1 i.val pc L st M cc sc
    | .anewarray _ => ri_nwq a pc L st M cc sc
    | .areturn => ri_aret rt st M cc sc
    | .arraylength => ri_aln X pc L st M cc sc
    | .astore i => ri_ast 2 i pc L st M cc sc
    | .astore_n i => ri_ast 1 i.val pc L st M cc sc
    | .baload => ri_bal pc L st M cc sc
    | .bastore => ri_bas pc L st M cc sc
    | .bipush n => ri_psh 2 (.int (Int8.ofInt n).toInt32) pc L st M cc sc
    | .dup => ri_dup pc L st M cc sc
    | .dup_x1 => ri_dupx1 pc L st M cc sc
    | .dup2 => ri_dup2 pc L st M cc sc
    | .getfield _ => ri_gf a b pc L st M cc sc
    | .goto off => ri_jmp off pc L st M cc sc
    | .i2b => ri_i1 (fun x => x.toInt8.toInt32) pc L st M cc sc
    | .i2l => ri_il pc L st M cc sc
    | .iadd => ri_i2 (fun x y => x + y) pc L st M cc sc
    | .iaload => ri_ial X pc L st M cc sc
    | .iand => ri_i2 (fun x y => x &&& y) pc L st M cc sc
    | .iastore => ri_ias pc L st M cc sc
    | .iconst n => ri_psh 1 (.int (Int32.ofInt n)) pc L st M cc sc
    | .idiv => ri_d2 (fun x y => x / y) pc L st M cc sc
    | .if_icmp k off => ri_ic k off pc L st M cc sc
    | .ifCond k off => ri_iz k off pc L st M cc sc
    | .ifnonnull off => ri_nul off false pc L st M cc sc
    | .ifnull off => ri_nul off true pc L st M cc sc
    | .iinc i n => if len = 3 then ri_inc i n pc L st M cc sc else none
    | .iload i => ri_ild 2 i pc L st M cc sc
    | .iload_n i => ri_ild 1 i.val pc L st M cc sc
    | .imul => ri_i2 (fun x y => x * y) pc L st M cc sc
    | .ineg => ri_i1 (fun x => -x) pc L st M cc sc
    | .invokespecial _ => if c % 16 = 6 then ri_oin pc L st M cc sc else ri_cin call a b pc L st M cc sc
    | .invokestatic _ => match c % 16 with
      | 0 => ri_cls call a b pc L st M cc sc
      | 1 => ri_cls call a b pc L st M cc sc
      | 7 => ri_mm (fun x y => if y < x then y else x) pc L st M cc sc
      | 8 => ri_mm (fun x y => if x < y then y else x) pc L st M cc sc
      | 9 => ri_ma pc L st M cc sc
      | 10 => ri_acp pc L st M cc sc
      | _ => none
    | .invokevirtual _ => ri_clv call rc a b pc L st M cc sc
    | .ior => ri_i2 (fun x y => x ||| y) pc L st M cc sc
    | .irem => ri_d2 (fun x y => x - x / y * y) pc L st M cc sc
    | .ireturn => ri_ret rt st M cc sc
    | .ishl => ri_i2 (fun x y => x <<< (y &&& 31)) pc L st M cc sc
    | .ishr => ri_i2 (fun x y => x >>> (y &&& 31)) pc L st M cc sc
    | .istore i => ri_ist 2 i pc L st M cc sc
    | .istore_n i => ri_ist 1 i.val pc L st M cc sc
    | .isub => ri_i2 (fun x y => x - y) pc L st M cc sc
    | .iushr => ri_i2 ri_ushr pc L st M cc sc
    | .ixor => ri_i2 (fun x y => x ^^^ y) pc L st M cc sc
    | .l2i => ri_li pc L st M cc sc
    | .ladd => ri_l2 (fun x y => x + y) pc L st M cc sc
    | .laload => ri_lal pc L st M cc sc
    | .land => ri_l2 (fun x y => x &&& y) pc L st M cc sc
    | .lastore => ri_las pc L st M cc sc
    | .lcmp => ri_lcm pc L st M cc sc
    | .lconst n => ri_psh 1 (.long (Int64.ofNat n.val)) pc L st M cc sc
    | .ldc _ => ri_psh 2 (.int (Int32.ofNat a)) pc L st M cc sc
    | .ldc_w _ => ri_psh 3 (.int (Int32.ofNat a)) pc L st M cc sc
    | .ldc2_w _ => ri_psh 3 (.long (Int64.ofNat a)) pc L st M cc sc
    | .ldiv => ri_e2 (fun x y => x / y) pc L st M cc sc
    | .lload i => ri_lld 2 i pc L st M cc sc
    | .lload_n i => ri_lld 1 i.val pc L st M cc sc
    | .lmul => ri_l2 (fun x y => x * y) pc L st M cc sc
    | .lookupswitch d ps => ri_lsw d ps pc L st M cc sc
    | .lor => ri_l2 (fun x y => x ||| y) pc L st M cc sc
    | .lrem => ri_e2 (fun x y => x - x / y * y) pc L st M cc sc
    | .lreturn => ri_lret rt st M cc sc
    | .lshl => ri_lsh (fun x y => x <<< (y.toInt64 &&& 63)) pc L st M cc sc
    | .lstore i => ri_lst 2 i pc L st M cc sc
    | .lstore_n i => ri_lst 1 i.val pc L st M cc sc
    | .lsub => ri_l2 (fun x y => x - y) pc L st M cc sc
    | .new _ => ri_nwo a pc L st M cc sc
    | .newarray t => ri_nwa t pc L st M cc sc
    | .pop => ri_pop pc L st M cc sc
    | .putfield _ => ri_pf a b pc L st M cc sc
    | .return_ => ri_vret rt st M cc sc
    | .sipush n => ri_psh 3 (.int (Int16.ofInt n).toInt32) pc L st M cc sc
    | .tableswitch d lo hi offs => ri_tsw d lo hi offs pc L st M cc sc
    | _ => none
noncomputable def ri_run (X : ri_X) (call : ri_Ca) (rc : Nat → Nat) (code : Nat → Option ri_J) (rt : Option FieldType) : Nat → Nat → ri_L → List Value → ri_M → Nat → Nat → Option ri_R
  | 0, _, _, _, _, _, _ => none
  | n + 1, pc, L, st, M, cc, sc => match code pc with
    | none => none
    | some j => match ri_step X call rc rt j pc L st M cc sc with
      | some (.inl (pc1, L1, st1, M1, c1, s1)) => ri_run X call rc code rt n pc1 L1 st1 M1 c1 s1
      | some (.inr r) => some r
      | none => none
noncomputable def ri_sl : List Value → ri_L
  | [] => []
  | .long x :: vs => some (.long x) :: none :: ri_sl vs
  | .double x :: vs => some (.double x) :: none :: ri_sl vs
  | v :: vs => some v :: ri_sl vs
noncomputable def ri_ent (as : List Value) (n : Nat) : Option ri_L := if (ri_sl as).length ≤ n then some (ri_sl as ++ List.replicate (n - (ri_sl as).length) none) else none
noncomputable def ri_call (tc : Nat → Nat → Option ri_J) (tl : Nat → Nat) (tr : Nat → Option FieldType) (rc : Nat → Nat) (fuel : Nat) : Nat → ri_Ca
  | 0 => fun _ _ _ => none
  | d + 1 => fun a as M => match ri_ent as (tl a) with
    | some L => ri_run none (ri_call tc tl tr rc fuel d) rc (tc a) (tr a) fuel 0 L [] M 0 0
    | none => none
