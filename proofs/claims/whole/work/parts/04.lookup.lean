/-! the program as data: a record a method (bytes; code by pieces; its numbers; its name; its own class) -/
abbrev en_Rc : Type := ByteArray × List (Nat × List (Nat × Instr × Nat)) × (Nat × Nat × Nat × Nat × Nat × Nat × Nat × Nat × Option FieldType) × MethodName × Nat
def en_lk (pc : Nat) : List (Nat × Instr × Nat) → Option (Instr × Nat)
  | [] => none
  | (q, i, n) :: r => bif Nat.beq q pc then some (i, n) else en_lk pc r
def en_lk2 (pc : Nat) : List (Nat × List (Nat × Instr × Nat)) → Option (Instr × Nat)
  | [] => none
  | (b, c) :: r => bif Nat.ble b pc then en_lk2 pc r else en_lk pc c
def en_n2 {α : Type} (LL : List (List α)) (d : α) (j : Nat) : α := (LL.getD (j / 16) []).getD (j % 16) d
def en_dk (B : ByteArray) (q : Nat × Instr × Nat) : Bool := match decode B q.1 with
  | .ok (i, n) => decide (i = q.2.1) && Nat.beq n q.2.2
  | .error _ => false
def en_gk {α : Type} (x : Nat) : List (Nat × α) → Option α
  | [] => none
  | (q, a) :: r => bif Nat.beq q x then some a else en_gk x r
theorem en_gk_in {α : Type} {x : Nat} {a : α} : ∀ l : List (Nat × α), en_gk x l = some a → (x, a) ∈ l
  | [], h => by cases h
  | (q, b) :: r, h => by
    unfold en_gk at h
    by_cases hq : Nat.beq q x = true
    · rw [hq] at h
      cases h
      have := Nat.eq_of_beq_eq_true hq
      subst this
      exact List.mem_cons_self
    · rw [Bool.not_eq_true] at hq
      rw [hq] at h
      exact List.mem_cons_of_mem _ (en_gk_in r h)
theorem en_lk_in {pc : Nat} {x : Instr × Nat} : ∀ l : List (Nat × Instr × Nat), en_lk pc l = some x → (pc, x.1, x.2) ∈ l
  | [], h => by cases h
  | (q, i, n) :: r, h => by
    unfold en_lk at h
    by_cases hq : Nat.beq q pc = true
    · rw [hq] at h
      cases h
      have := Nat.eq_of_beq_eq_true hq
      subst this
      exact List.mem_cons_self
    · rw [Bool.not_eq_true] at hq
      rw [hq] at h
      exact List.mem_cons_of_mem _ (en_lk_in r h)
theorem en_lk2_in {pc : Nat} {x : Instr × Nat} : ∀ l : List (Nat × List (Nat × Instr × Nat)), en_lk2 pc l = some x → ∃ c ∈ l, (pc, x.1, x.2) ∈ c.2
  | [], h => by cases h
  | (b, c) :: r, h => by
    unfold en_lk2 at h
    by_cases hq : Nat.ble b pc = true
    · rw [hq] at h
      obtain ⟨c', h1, h2⟩ := en_lk2_in r h
      exact ⟨c', List.mem_cons_of_mem _ h1, h2⟩
    · rw [Bool.not_eq_true] at hq
      rw [hq] at h
      exact ⟨_, List.mem_cons_self, en_lk_in c h⟩
theorem en_n2_ok {α : Type} {LL : List (List α)} {d : α} {p : α → Prop} (h : ∀ L ∈ LL, ∀ a ∈ L, p a) (hd : p d) (j : Nat) : p (en_n2 LL d j) := by
  unfold en_n2
  rw [List.getD_eq_getElem?_getD, List.getD_eq_getElem?_getD]
  cases h1 : LL[j / 16]? with
  | none => simpa using hd
  | some L =>
    rw [Option.getD_some]
    cases h2 : L[j % 16]? with
    | none => simpa using hd
    | some a =>
      rw [Option.getD_some]
      exact h L (List.mem_of_getElem? h1) a (List.mem_of_getElem? h2)
