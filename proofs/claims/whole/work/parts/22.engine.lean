/-! the program: instructions; fields (class, place); constants; calls (kind, method); classes that 'new' makes; arrays that 'anewarray' makes; static arrays; a field's type and whether it is final; a class's fields at birth; of a method: locals, whether it is a constructor (of which class, plus 1), frames, words, cells, slots, parameters, its class, what it answers -/
abbrev en_Pg : Type := (Nat → Nat → Option (Instr × Nat)) × (Nat → Nat → Option (Nat × Nat)) × (Nat → Nat → Option Value) × (Nat → Nat → Option (Nat × Nat)) × (Nat → Nat → Option Nat) × (Nat → Nat → Option Nat) × (Nat → Nat → Option Nat) × (Nat → Nat → FieldType × Bool) × (Nat → List Value) × (Nat → Nat × Nat × Nat × Nat × Nat × Nat × Nat × Nat × Option FieldType)
def en_pI (P : en_Pg) : Nat → Nat → Option (Instr × Nat) := P.1
def en_pF (P : en_Pg) : Nat → Nat → Option (Nat × Nat) := P.2.1
def en_pK (P : en_Pg) : Nat → Nat → Option Value := P.2.2.1
def en_pM (P : en_Pg) : Nat → Nat → Option (Nat × Nat) := P.2.2.2.1
def en_pN (P : en_Pg) : Nat → Nat → Option Nat := P.2.2.2.2.1
def en_pA (P : en_Pg) : Nat → Nat → Option Nat := P.2.2.2.2.2.1
def en_pG (P : en_Pg) : Nat → Nat → Option Nat := P.2.2.2.2.2.2.1
def en_pY (P : en_Pg) : Nat → Nat → FieldType × Bool := P.2.2.2.2.2.2.2.1
def en_pD (P : en_Pg) : Nat → List Value := P.2.2.2.2.2.2.2.2.1
def en_pX (P : en_Pg) : Nat → Nat × Nat × Nat × Nat × Nat × Nat × Nat × Nat × Option FieldType := P.2.2.2.2.2.2.2.2.2
def en_ml (P : en_Pg) (j : Nat) : Nat := (en_pX P j).1
def en_ini (P : en_Pg) (j : Nat) : Nat := (en_pX P j).2.1
def en_mc (P : en_Pg) (j : Nat) : Nat := (en_pX P j).2.2.2.2.1
def en_ms (P : en_Pg) (j : Nat) : Nat := (en_pX P j).2.2.2.2.2.1
def en_na (P : en_Pg) (j : Nat) : Nat := (en_pX P j).2.2.2.2.2.2.1
def en_oc (P : en_Pg) (j : Nat) : Nat := (en_pX P j).2.2.2.2.2.2.2.1
def en_rt (P : en_Pg) (j : Nat) : Option FieldType := (en_pX P j).2.2.2.2.2.2.2.2
def en_rm (P : en_Pg) (j : Nat) : Room := { frames := (en_pX P j).2.2.1, cells := en_mc P j, slots := en_ms P j, locals := (en_pX P j).2.2.2.1 }
def en_ty (t : Nat) : FieldType := match t with
  | 0 => .int
  | 1 => .byte
  | 2 => .boolean
  | 3 => .long
  | 4 => .object "PackingHouse$Row"
  | _ => .object "PackingHouse$Code"
def en_tys (ac : Nat → ClassId) : List (ClassId × FieldType) := [(ac 0, en_ty 0), (ac 1, en_ty 1), (ac 2, en_ty 2), (ac 3, en_ty 3), (ac 4, en_ty 4), (ac 5, en_ty 5)]
/-! the instructions that touch cells: the new stack, heap, cells, slots -/
abbrev en_Q : Type := Option (List Value × en_H × Nat × Nat)
/-- a field, or an answer, of this type keeps this value as it is -/
def en_nf (ty : FieldType) (v : Value) : Bool := match ty with
  | .int => match v with
    | .int _ => true
    | _ => false
  | .long => match v with
    | .long _ => true
    | _ => false
  | .boolean => match v with
    | .int x => decide (x = 0) || decide (x = 1)
    | _ => false
  | .object _ => match v with
    | .ref _ => true
    | .null => true
    | _ => false
  | .array _ => match v with
    | .ref _ => true
    | .null => true
    | _ => false
  | _ => false
theorem en_nf_ok {ty : FieldType} {v : Value} (h : en_nf ty v = true) : narrow ty v = v ∧ fits ty v = true := by
  cases ty with
  | int => cases v <;> first | exact ⟨rfl, rfl⟩ | cases h
  | long => cases v <;> first | exact ⟨rfl, rfl⟩ | cases h
  | boolean =>
    cases v with
    | int x =>
      have h2 : (decide (x = 0) || decide (x = 1)) = true := h
      rw [Bool.or_eq_true, decide_eq_true_eq, decide_eq_true_eq] at h2
      rcases h2 with rfl | rfl
      · exact ⟨rfl, rfl⟩
      · exact ⟨rfl, rfl⟩
    | _ => cases h
  | object C => cases v <;> first | exact ⟨rfl, rfl⟩ | cases h
  | array C => cases v <;> first | exact ⟨rfl, rfl⟩ | cases h
  | _ => cases h
theorem en_nf_v (σ : Nat → Nat) (ty : FieldType) (v : Value) : en_nf ty (en_v σ v) = en_nf ty v := by
  cases ty <;> cases v <;> rfl
def en_gf (P : en_Pg) (j x : Nat) (st : List Value) (h : en_H) : Option (List Value) := match st with
  | .ref a :: r => match en_pF P j x with
    | some (ci, k) => match h[a]? with
      | some (.inr (ci', fs)) => if Nat.beq ci ci' = true then (match fs[k]? with
        | some v => some (v :: r)
        | none => none) else none
      | _ => none
    | none => none
  | _ => none
def en_pf (P : en_Pg) (j x : Nat) (st : List Value) (h : en_H) : Option (List Value × en_H) := match st with
  | v :: .ref a :: r => match en_pF P j x with
    | some (ci, k) => match h[a]? with
      | some (.inr (ci', fs)) => if (Nat.beq ci ci' && (Nat.ble (k + 1) fs.length && (en_nf (en_pY P ci k).1 v && (!(en_pY P ci k).2 || Nat.beq (en_ini P j) (ci + 1))))) = true then some (r, h.set a (.inr (ci, fs.set k v))) else none
      | _ => none
    | none => none
  | _ => none
def en_bad (i : Int32) (n : Nat) : Bool := decide (i < 0) || Nat.ble n i.toNatClampNeg
theorem en_bad_in {i : Int32} {n : Nat} (h : en_bad i n = false) : vp_in i n := by
  unfold en_bad at h
  rw [Bool.or_eq_false_iff] at h
  rintro (q | q)
  · have := h.1
    rw [decide_eq_false_iff_not] at this
    exact this q
  · have := Nat.ble_eq_true_of_le q
    rw [this] at h
    cases h.2
/-- an array's int, or a static one's -/
def en_ai (tb : en_T) (t : Nat) (st : List Value) (h : en_H) : Option (List Value) := match st with
  | .int i :: .ref a :: r => match h[a]? with
    | some (.inl (t', n, .inl f)) => if (Nat.beq t t' && !en_bad i n) = true then some (.int (f i.toNatClampNeg) :: r) else none
    | some _ => none
    | none => if a < en_b ∨ ¬ t = 0 then none else match tb (a - en_b) with
      | some (n, f) => if (!en_bad i n) = true then some (.int (f i.toNatClampNeg) :: r) else none
      | none => none
  | _ => none
def en_al (st : List Value) (h : en_H) : Option (List Value) := match st with
  | .int i :: .ref a :: r => match h[a]? with
    | some (.inl (t', n, .inr (.inl f))) => if (Nat.beq 3 t' && !en_bad i n) = true then some (.long (f i.toNatClampNeg) :: r) else none
    | _ => none
  | _ => none
def en_aa (st : List Value) (h : en_H) : Option (List Value) := match st with
  | .int i :: .ref a :: r => match h[a]? with
    | some (.inl (t', n, .inr (.inr (.inr (.inr f))))) => if ((Nat.beq t' 4 || Nat.beq t' 5) && !en_bad i n) = true then some (va_rf (f i.toNatClampNeg) :: r) else none
    | _ => none
  | _ => none
def en_si (t : Nat) (nar : Int32 → Int32) (st : List Value) (h : en_H) : Option (List Value × en_H) := match st with
  | .int x :: .int i :: .ref a :: r => match h[a]? with
    | some (.inl (t', n, .inl f)) => if (Nat.beq t t' && !en_bad i n) = true then some (r, h.set a (.inl (t', n, .inl (upd f i.toNatClampNeg (nar x))))) else none
    | _ => none
  | _ => none
def en_sl (st : List Value) (h : en_H) : Option (List Value × en_H) := match st with
  | .long x :: .int i :: .ref a :: r => match h[a]? with
    | some (.inl (t', n, .inr (.inl f))) => if (Nat.beq 3 t' && !en_bad i n) = true then some (r, h.set a (.inl (t', n, .inr (.inl (vp_updL f i.toNatClampNeg x))))) else none
    | _ => none
  | _ => none
/-- the class that an array's cells are of: 4 Row, 5 Code; which of the classes these are: cr -/
def en_sa (cr : Nat → Nat) (st : List Value) (h : en_H) : Option (List Value × en_H) := match st with
  | .ref v :: .int i :: .ref a :: r => match h[a]? with
    | some (.inl (t', n, .inr (.inr (.inr (.inr f))))) => match h[v]? with
      | some (.inr (ci, _)) => if ((Nat.beq t' 4 || Nat.beq t' 5) && (Nat.beq (cr t') ci && !en_bad i n)) = true then some (r, h.set a (.inl (t', n, .inr (.inr (.inr (.inr (va_up f i.toNatClampNeg (some v)))))))) else none
      | _ => none
    | _ => none
  | _ => none
def en_len (tb : en_T) (st : List Value) (h : en_H) : Option (List Value) := match st with
  | .ref a :: r => match h[a]? with
    | some (.inl (t', x)) => if t' < 6 then some (.int (Int32.ofNat x.1) :: r) else none
    | some _ => none
    | none => if a < en_b then none else match tb (a - en_b) with
      | some (n, _) => some (.int (Int32.ofNat n) :: r)
      | none => none
  | _ => none
def en_new (P : en_Pg) (j x : Nat) (st : List Value) (h : en_H) (cs ss : Nat) : en_Q := match en_pN P j x with
  | some ci => if cs + 1 ≤ en_mc P j ∧ ss + (en_pD P ci).length ≤ en_ms P j ∧ h.length < en_b then some (.ref h.length :: st, h ++ [.inr (ci, en_pD P ci)], cs + 1, ss + (en_pD P ci).length) else none
  | none => none
def en_nat (a : ArrayType) : Option Nat := match a with
  | .int => some 0
  | .byte => some 1
  | .boolean => some 2
  | .long => some 3
  | _ => none
def en_nar (P : en_Pg) (j : Nat) (a : ArrayType) (st : List Value) (h : en_H) (cs ss : Nat) : en_Q := match en_nat a with
  | some t => match st with
    | .int n :: r => if ¬ n < 0 ∧ n.toNatClampNeg ≤ 1000000 ∧ cs + 1 ≤ en_mc P j ∧ ss + n.toNatClampNeg ≤ en_ms P j ∧ h.length < en_b then some (.ref h.length :: r, h ++ [.inl (t, n.toNatClampNeg, bif t == 3 then .inr (.inl (fun _ => 0)) else .inl (fun _ => 0))], cs + 1, ss + n.toNatClampNeg) else none
    | _ => none
  | none => none
def en_naq (P : en_Pg) (j x : Nat) (st : List Value) (h : en_H) (cs ss : Nat) : en_Q := match en_pA P j x with
  | some t => match st with
    | .int n :: r => if (t = 4 ∨ t = 5) ∧ ¬ n < 0 ∧ n.toNatClampNeg ≤ 1000000 ∧ cs + 1 ≤ en_mc P j ∧ ss + n.toNatClampNeg ≤ en_ms P j ∧ h.length < en_b then some (.ref h.length :: r, h ++ [.inl (t, n.toNatClampNeg, .inr (.inr (.inr (.inr (fun _ => none)))))], cs + 1, ss + n.toNatClampNeg) else none
    | _ => none
  | none => none
def en_ws (st : List Value) : Nat := (st.map fun v => v.category).sum
/-- System.arraycopy of ints -/
def en_cpy (P : en_Pg) (tb : en_T) (j : Nat) (st : List Value) (h : en_H) : Option (List Value × en_H) := match st with
  | .int n :: .int dp :: .ref a :: .int sp :: .ref b :: r => match h[a]? with
    | some (.inl (0, n1, .inl g)) => if ¬ sp < 0 ∧ ¬ dp < 0 ∧ ¬ n < 0 ∧ dp.toNatClampNeg + n.toNatClampNeg ≤ n1 ∧ 1 ≤ (en_rm P j).frames ∧ en_ws r + (nativeFrameWords "java/lang/System" "arraycopy" 5 + 11) ≤ (en_rm P j).locals then (match h[b]? with
      | some (.inl (0, n0, .inl f)) => if sp.toNatClampNeg + n.toNatClampNeg ≤ n0 then some (r, h.set a (.inl (0, n1, .inl (va_cpy f g sp.toNatClampNeg dp.toNatClampNeg n.toNatClampNeg)))) else none
      | some _ => none
      | none => if b < en_b then none else match tb (b - en_b) with
        | some (n0, f) => if sp.toNatClampNeg + n.toNatClampNeg ≤ n0 then some (r, h.set a (.inl (0, n1, .inl (va_cpy f g sp.toNatClampNeg dp.toNatClampNeg n.toNatClampNeg)))) else none
        | none => none) else none
    | _ => none
  | _ => none
def en_obj (P : en_Pg) (j : Nat) (st : List Value) : Option (List Value) := match st with
  | .ref _ :: r => if 1 ≤ (en_rm P j).frames ∧ en_ws r + 12 ≤ (en_rm P j).locals then some r else none
  | _ => none
/-- Math.max, min of ints (6, 7), of longs (8, 9) -/
def en_mth (P : en_Pg) (j kd cs ss : Nat) (st : List Value) : Option (List Value) := match st with
  | .int y :: .int x :: r => if (Nat.ble 1 (en_rm P j).frames && (Nat.ble (en_ws r + 13) (en_rm P j).locals && (Nat.ble cs (en_mc P j) && Nat.ble ss (en_ms P j)))) = true then (match kd with
    | 6 => some (.int (if x < y then y else x) :: r)
    | 7 => some (.int (if y < x then y else x) :: r)
    | _ => none) else none
  | .long y :: .long x :: r => if (Nat.ble 1 (en_rm P j).frames && (Nat.ble (en_ws r + 15) (en_rm P j).locals && (Nat.ble cs (en_mc P j) && Nat.ble ss (en_ms P j)))) = true then (match kd with
    | 8 => some (.long (if y < x then x else y) :: r)
    | 9 => some (.long (if y < x then y else x) :: r)
    | _ => none) else none
  | _ => none
def en_up (cs ss : Nat) (h : en_H) (o : Option (List Value)) : en_Q := match o with
  | some st => some (st, h, cs, ss)
  | none => none
def en_uh (cs ss : Nat) (o : Option (List Value × en_H)) : en_Q := match o with
  | some (st, h) => some (st, h, cs, ss)
  | none => none
/-- kinds of calls: 0 static, 1 virtual, 2 a constructor, 3 a nest mate's constructor, 4 Object's constructor, 5 arraycopy, 6 .. 9 Math's -/
def en_hp (P : en_Pg) (tb : en_T) (cr : Nat → Nat) (j : Nat) (i : Instr) (len : Nat) (st : List Value) (h : en_H) (cs ss : Nat) : en_Q := match i with
  | .getfield x => if len = 3 then en_up cs ss h (en_gf P j x st h) else none
  | .putfield x => if len = 3 then en_uh cs ss (en_pf P j x st h) else none
  | .iaload => if len = 1 then en_up cs ss h (en_ai tb 0 st h) else none
  | .baload => if len = 1 then (match en_ai tb 1 st h with
    | some r => some (r, h, cs, ss)
    | none => en_up cs ss h (en_ai tb 2 st h)) else none
  | .laload => if len = 1 then en_up cs ss h (en_al st h) else none
  | .aaload => if len = 1 then en_up cs ss h (en_aa st h) else none
  | .iastore => if len = 1 then en_uh cs ss (en_si 0 (fun x => x) st h) else none
  | .bastore => if len = 1 then (match en_si 1 (vp_nar .byte) st h with
    | some (r, h') => some (r, h', cs, ss)
    | none => en_uh cs ss (en_si 2 (vp_nar .boolean) st h)) else none
  | .lastore => if len = 1 then en_uh cs ss (en_sl st h) else none
  | .aastore => if len = 1 then en_uh cs ss (en_sa cr st h) else none
  | .arraylength => if len = 1 then en_up cs ss h (en_len tb st h) else none
  | .getstatic x => if len = 3 then (match en_pG P j x with
    | some k => some (.ref (en_b + k) :: st, h, cs, ss)
    | none => none) else none
  | .ldc x => if len = 2 then (match en_pK P j x with
    | some (.int v) => some (.int v :: st, h, cs, ss)
    | _ => none) else none
  | .ldc_w x => if len = 3 then (match en_pK P j x with
    | some (.int v) => some (.int v :: st, h, cs, ss)
    | _ => none) else none
  | .ldc2_w x => if len = 3 then (match en_pK P j x with
    | some (.long v) => some (.long v :: st, h, cs, ss)
    | _ => none) else none
  | .new x => if len = 3 then en_new P j x st h cs ss else none
  | .newarray a => if len = 2 then en_nar P j a st h cs ss else none
  | .anewarray x => if len = 3 then en_naq P j x st h cs ss else none
  | .invokespecial x => if len = 3 ∧ en_pM P j x = some (4, 0) then en_up cs ss h (en_obj P j st) else none
  | .invokestatic x => if len = 3 then (match en_pM P j x with
    | some (5, 0) => en_uh cs ss (en_cpy P tb j st h)
    | some (kd + 6, 0) => en_up cs ss h (en_mth P j (kd + 6) cs ss st)
    | _ => none) else none
  | _ => none
