/-! what each opcode decodes to, once for all code -/
theorem od_bind {α β : Type} {m : Decoder α} {f : α → Decoder β} {B : ByteArray} {p p' : Nat} {a : α} (h : m B p = .ok (a, p')) : (m >>= f) B p = f a B p' := by
  show Except.bind (m B p) (fun x => f x.1 B x.2) = _
  rw [h]
  rfl
theorem od_map {α β : Type} {m : Decoder α} {f : α → β} {B : ByteArray} {p p' : Nat} {a : α} (h : m B p = .ok (a, p')) : (f <$> m) B p = .ok (f a, p') := by
  show (do let (a, s) ← m B p; pure (f a, s) : Except DecodeError (β × Nat)) = _
  rw [h]
  rfl
theorem od_u1 {B : ByteArray} {p : Nat} (h : p < B.size) : (Reader.u1 : Decoder Nat) B p = .ok (B[p].toNat, p + 1) := by
  show (if h : p < B.size then (do set (p + 1); pure B[p].toNat : Decoder Nat) else _) B p = _
  rw [dif_pos h]
  rfl
theorem od_u1L {B : ByteArray} {p : Nat} {b : UInt8} (h : B.data.toList[p]? = some b) : (Reader.u1 : Decoder Nat) B p = .ok (b.toNat, p + 1) := by
  obtain ⟨h1, h2⟩ := List.getElem?_eq_some_iff.mp h
  have hs : p < B.size := by
    show p < B.data.size
    rw [← Array.length_toList]
    exact h1
  rw [od_u1 hs]
  have h3 : B[p] = b := by
    rw [← h2]
    show B.data[p] = _
    rw [← Array.getElem_toList]
  rw [h3]
theorem od_u2 {B : ByteArray} {p a b : Nat} (h1 : (Reader.u1 : Decoder Nat) B p = .ok (a, p + 1)) (h2 : (Reader.u1 : Decoder Nat) B (p + 1) = .ok (b, p + 2)) : (Reader.u2 : Decoder Nat) B p = .ok (a * 256 + b, p + 2) := by
  unfold Reader.u2
  rw [od_bind h1, od_bind h2]
  rfl
theorem od_s2 {B : ByteArray} {p a b : Nat} (h1 : (Reader.u1 : Decoder Nat) B p = .ok (a, p + 1)) (h2 : (Reader.u1 : Decoder Nat) B (p + 1) = .ok (b, p + 2)) : (Reader.s2 : Decoder Int) B p = .ok (Reader.signed 16 (a * 256 + b), p + 2) := by
  unfold Reader.s2
  exact od_map (od_u2 h1 h2)
theorem od_s1 {B : ByteArray} {p a : Nat} (h1 : (Reader.u1 : Decoder Nat) B p = .ok (a, p + 1)) : (Reader.s1 : Decoder Int) B p = .ok (Reader.signed 8 a, p + 1) := by
  unfold Reader.s1
  exact od_map h1
theorem od_of {B : ByteArray} {pc len : Nat} {i : Instr} (h : (Decoder.instr pc) B pc = .ok (i, pc + len)) : decode B pc = .ok (i, len) := by
  show (do let (instr, next) ← (Decoder.instr pc) B pc; pure (instr, next - pc) : Except DecodeError (Instr × Nat)) = _
  rw [h]
  show Except.ok (i, pc + len - pc) = _
  rw [Nat.add_sub_cancel_left]
def od_Z (q : Nat × Instr) : Prop := ∀ (B : ByteArray) (pc : Nat), (Reader.u1 : Decoder Nat) B pc = .ok (q.1, pc + 1) → decode B pc = .ok (q.2, 1)
def od_A (q : Nat × (Nat → Instr)) : Prop := ∀ (B : ByteArray) (pc a : Nat), (Reader.u1 : Decoder Nat) B pc = .ok (q.1, pc + 1) → (Reader.u1 : Decoder Nat) B (pc + 1) = .ok (a, pc + 2) → decode B pc = .ok (q.2 a, 2)
def od_B (q : Nat × (Nat → Instr)) : Prop := ∀ (B : ByteArray) (pc a b : Nat), (Reader.u1 : Decoder Nat) B pc = .ok (q.1, pc + 1) → (Reader.u1 : Decoder Nat) B (pc + 1) = .ok (a, pc + 2) → (Reader.u1 : Decoder Nat) B (pc + 2) = .ok (b, pc + 3) → decode B pc = .ok (q.2 (a * 256 + b), 3)
def od_C (q : Nat × (Int → Instr)) : Prop := ∀ (B : ByteArray) (pc a b : Nat), (Reader.u1 : Decoder Nat) B pc = .ok (q.1, pc + 1) → (Reader.u1 : Decoder Nat) B (pc + 1) = .ok (a, pc + 2) → (Reader.u1 : Decoder Nat) B (pc + 2) = .ok (b, pc + 3) → decode B pc = .ok (q.2 (Reader.signed 16 (a * 256 + b)), 3)
def od_z : List (Nat × Instr) := [(2, .iconst (-1)), (3, .iconst 0), (4, .iconst 1), (5, .iconst 2), (6, .iconst 3), (7, .iconst 4), (8, .iconst 5), (9, .lconst 0), (10, .lconst 1), (26, .iload_n 0), (27, .iload_n 1), (28, .iload_n 2), (29, .iload_n 3), (30, .lload_n 0), (31, .lload_n 1), (32, .lload_n 2), (33, .lload_n 3), (42, .aload_n 0), (43, .aload_n 1), (44, .aload_n 2), (45, .aload_n 3), (46, .iaload), (47, .laload), (50, .aaload), (51, .baload), (59, .istore_n 0), (60, .istore_n 1), (61, .istore_n 2), (62, .istore_n 3), (63, .lstore_n 0), (64, .lstore_n 1), (65, .lstore_n 2), (66, .lstore_n 3), (75, .astore_n 0), (76, .astore_n 1), (77, .astore_n 2), (78, .astore_n 3), (79, .iastore), (80, .lastore), (83, .aastore), (84, .bastore), (87, .pop), (89, .dup), (92, .dup2), (96, .iadd), (97, .ladd), (100, .isub), (101, .lsub), (104, .imul), (105, .lmul), (108, .idiv), (109, .ldiv), (112, .irem), (113, .lrem), (116, .ineg), (117, .lneg), (120, .ishl), (121, .lshl), (122, .ishr), (123, .lshr), (124, .iushr), (125, .lushr), (126, .iand), (127, .land), (128, .ior), (129, .lor), (130, .ixor), (131, .lxor), (133, .i2l), (136, .l2i), (145, .i2b), (148, .lcmp), (172, .ireturn), (173, .lreturn), (177, .return_), (190, .arraylength)]
set_option maxRecDepth 100000 in
theorem od_z_2 : od_Z (2, .iconst (-1)) := by
  intro B pc h
  refine od_of ?_
  unfold Decoder.instr
  rw [od_bind h]
  rfl
set_option maxRecDepth 100000 in
theorem od_z_3 : od_Z (3, .iconst 0) := by
  intro B pc h
  refine od_of ?_
  unfold Decoder.instr
  rw [od_bind h]
  rfl
set_option maxRecDepth 100000 in
theorem od_z_4 : od_Z (4, .iconst 1) := by
  intro B pc h
  refine od_of ?_
  unfold Decoder.instr
  rw [od_bind h]
  rfl
set_option maxRecDepth 100000 in
theorem od_z_5 : od_Z (5, .iconst 2) := by
  intro B pc h
  refine od_of ?_
  unfold Decoder.instr
  rw [od_bind h]
  rfl
set_option maxRecDepth 100000 in
theorem od_z_6 : od_Z (6, .iconst 3) := by
  intro B pc h
  refine od_of ?_
  unfold Decoder.instr
  rw [od_bind h]
  rfl
set_option maxRecDepth 100000 in
theorem od_z_7 : od_Z (7, .iconst 4) := by
  intro B pc h
  refine od_of ?_
  unfold Decoder.instr
  rw [od_bind h]
  rfl
set_option maxRecDepth 100000 in
theorem od_z_8 : od_Z (8, .iconst 5) := by
  intro B pc h
  refine od_of ?_
  unfold Decoder.instr
  rw [od_bind h]
  rfl
set_option maxRecDepth 100000 in
theorem od_z_9 : od_Z (9, .lconst 0) := by
  intro B pc h
  refine od_of ?_
  unfold Decoder.instr
  rw [od_bind h]
  rfl
set_option maxRecDepth 100000 in
theorem od_z_10 : od_Z (10, .lconst 1) := by
  intro B pc h
  refine od_of ?_
  unfold Decoder.instr
  rw [od_bind h]
  rfl
set_option maxRecDepth 100000 in
theorem od_z_26 : od_Z (26, .iload_n 0) := by
  intro B pc h
  refine od_of ?_
  unfold Decoder.instr
  rw [od_bind h]
  rfl
set_option maxRecDepth 100000 in
theorem od_z_27 : od_Z (27, .iload_n 1) := by
  intro B pc h
  refine od_of ?_
  unfold Decoder.instr
  rw [od_bind h]
  rfl
set_option maxRecDepth 100000 in
theorem od_z_28 : od_Z (28, .iload_n 2) := by
  intro B pc h
  refine od_of ?_
  unfold Decoder.instr
  rw [od_bind h]
  rfl
set_option maxRecDepth 100000 in
theorem od_z_29 : od_Z (29, .iload_n 3) := by
  intro B pc h
  refine od_of ?_
  unfold Decoder.instr
  rw [od_bind h]
  rfl
set_option maxRecDepth 100000 in
theorem od_z_30 : od_Z (30, .lload_n 0) := by
  intro B pc h
  refine od_of ?_
  unfold Decoder.instr
  rw [od_bind h]
  rfl
set_option maxRecDepth 100000 in
theorem od_z_31 : od_Z (31, .lload_n 1) := by
  intro B pc h
  refine od_of ?_
  unfold Decoder.instr
  rw [od_bind h]
  rfl
set_option maxRecDepth 100000 in
theorem od_z_32 : od_Z (32, .lload_n 2) := by
  intro B pc h
  refine od_of ?_
  unfold Decoder.instr
  rw [od_bind h]
  rfl
set_option maxRecDepth 100000 in
theorem od_z_33 : od_Z (33, .lload_n 3) := by
  intro B pc h
  refine od_of ?_
  unfold Decoder.instr
  rw [od_bind h]
  rfl
set_option maxRecDepth 100000 in
theorem od_z_42 : od_Z (42, .aload_n 0) := by
  intro B pc h
  refine od_of ?_
  unfold Decoder.instr
  rw [od_bind h]
  rfl
set_option maxRecDepth 100000 in
theorem od_z_43 : od_Z (43, .aload_n 1) := by
  intro B pc h
  refine od_of ?_
  unfold Decoder.instr
  rw [od_bind h]
  rfl
set_option maxRecDepth 100000 in
theorem od_z_44 : od_Z (44, .aload_n 2) := by
  intro B pc h
  refine od_of ?_
  unfold Decoder.instr
  rw [od_bind h]
  rfl
set_option maxRecDepth 100000 in
theorem od_z_45 : od_Z (45, .aload_n 3) := by
  intro B pc h
  refine od_of ?_
  unfold Decoder.instr
  rw [od_bind h]
  rfl
set_option maxRecDepth 100000 in
theorem od_z_46 : od_Z (46, .iaload) := by
  intro B pc h
  refine od_of ?_
  unfold Decoder.instr
  rw [od_bind h]
  rfl
set_option maxRecDepth 100000 in
theorem od_z_47 : od_Z (47, .laload) := by
  intro B pc h
  refine od_of ?_
  unfold Decoder.instr
  rw [od_bind h]
  rfl
set_option maxRecDepth 100000 in
theorem od_z_50 : od_Z (50, .aaload) := by
  intro B pc h
  refine od_of ?_
  unfold Decoder.instr
  rw [od_bind h]
  rfl
set_option maxRecDepth 100000 in
theorem od_z_51 : od_Z (51, .baload) := by
  intro B pc h
  refine od_of ?_
  unfold Decoder.instr
  rw [od_bind h]
  rfl
set_option maxRecDepth 100000 in
theorem od_z_59 : od_Z (59, .istore_n 0) := by
  intro B pc h
  refine od_of ?_
  unfold Decoder.instr
  rw [od_bind h]
  rfl
set_option maxRecDepth 100000 in
theorem od_z_60 : od_Z (60, .istore_n 1) := by
  intro B pc h
  refine od_of ?_
  unfold Decoder.instr
  rw [od_bind h]
  rfl
set_option maxRecDepth 100000 in
theorem od_z_61 : od_Z (61, .istore_n 2) := by
  intro B pc h
  refine od_of ?_
  unfold Decoder.instr
  rw [od_bind h]
  rfl
set_option maxRecDepth 100000 in
theorem od_z_62 : od_Z (62, .istore_n 3) := by
  intro B pc h
  refine od_of ?_
  unfold Decoder.instr
  rw [od_bind h]
  rfl
set_option maxRecDepth 100000 in
theorem od_z_63 : od_Z (63, .lstore_n 0) := by
  intro B pc h
  refine od_of ?_
  unfold Decoder.instr
  rw [od_bind h]
  rfl
set_option maxRecDepth 100000 in
theorem od_z_64 : od_Z (64, .lstore_n 1) := by
  intro B pc h
  refine od_of ?_
  unfold Decoder.instr
  rw [od_bind h]
  rfl
set_option maxRecDepth 100000 in
theorem od_z_65 : od_Z (65, .lstore_n 2) := by
  intro B pc h
  refine od_of ?_
  unfold Decoder.instr
  rw [od_bind h]
  rfl
set_option maxRecDepth 100000 in
theorem od_z_66 : od_Z (66, .lstore_n 3) := by
  intro B pc h
  refine od_of ?_
  unfold Decoder.instr
  rw [od_bind h]
  rfl
set_option maxRecDepth 100000 in
theorem od_z_75 : od_Z (75, .astore_n 0) := by
  intro B pc h
  refine od_of ?_
  unfold Decoder.instr
  rw [od_bind h]
  rfl
set_option maxRecDepth 100000 in
theorem od_z_76 : od_Z (76, .astore_n 1) := by
  intro B pc h
  refine od_of ?_
  unfold Decoder.instr
  rw [od_bind h]
  rfl
set_option maxRecDepth 100000 in
theorem od_z_77 : od_Z (77, .astore_n 2) := by
  intro B pc h
  refine od_of ?_
  unfold Decoder.instr
  rw [od_bind h]
  rfl
set_option maxRecDepth 100000 in
theorem od_z_78 : od_Z (78, .astore_n 3) := by
  intro B pc h
  refine od_of ?_
  unfold Decoder.instr
  rw [od_bind h]
  rfl
set_option maxRecDepth 100000 in
theorem od_z_79 : od_Z (79, .iastore) := by
  intro B pc h
  refine od_of ?_
  unfold Decoder.instr
  rw [od_bind h]
  rfl
set_option maxRecDepth 100000 in
theorem od_z_80 : od_Z (80, .lastore) := by
  intro B pc h
  refine od_of ?_
  unfold Decoder.instr
  rw [od_bind h]
  rfl
set_option maxRecDepth 100000 in
theorem od_z_83 : od_Z (83, .aastore) := by
  intro B pc h
  refine od_of ?_
  unfold Decoder.instr
  rw [od_bind h]
  rfl
set_option maxRecDepth 100000 in
theorem od_z_84 : od_Z (84, .bastore) := by
  intro B pc h
  refine od_of ?_
  unfold Decoder.instr
  rw [od_bind h]
  rfl
set_option maxRecDepth 100000 in
theorem od_z_87 : od_Z (87, .pop) := by
  intro B pc h
  refine od_of ?_
  unfold Decoder.instr
  rw [od_bind h]
  rfl
set_option maxRecDepth 100000 in
theorem od_z_89 : od_Z (89, .dup) := by
  intro B pc h
  refine od_of ?_
  unfold Decoder.instr
  rw [od_bind h]
  rfl
set_option maxRecDepth 100000 in
theorem od_z_92 : od_Z (92, .dup2) := by
  intro B pc h
  refine od_of ?_
  unfold Decoder.instr
  rw [od_bind h]
  rfl
set_option maxRecDepth 100000 in
theorem od_z_96 : od_Z (96, .iadd) := by
  intro B pc h
  refine od_of ?_
  unfold Decoder.instr
  rw [od_bind h]
  rfl
set_option maxRecDepth 100000 in
theorem od_z_97 : od_Z (97, .ladd) := by
  intro B pc h
  refine od_of ?_
  unfold Decoder.instr
  rw [od_bind h]
  rfl
set_option maxRecDepth 100000 in
theorem od_z_100 : od_Z (100, .isub) := by
  intro B pc h
  refine od_of ?_
  unfold Decoder.instr
  rw [od_bind h]
  rfl
set_option maxRecDepth 100000 in
theorem od_z_101 : od_Z (101, .lsub) := by
  intro B pc h
  refine od_of ?_
  unfold Decoder.instr
  rw [od_bind h]
  rfl
set_option maxRecDepth 100000 in
theorem od_z_104 : od_Z (104, .imul) := by
  intro B pc h
  refine od_of ?_
  unfold Decoder.instr
  rw [od_bind h]
  rfl
set_option maxRecDepth 100000 in
theorem od_z_105 : od_Z (105, .lmul) := by
  intro B pc h
  refine od_of ?_
  unfold Decoder.instr
  rw [od_bind h]
  rfl
set_option maxRecDepth 100000 in
theorem od_z_108 : od_Z (108, .idiv) := by
  intro B pc h
  refine od_of ?_
  unfold Decoder.instr
  rw [od_bind h]
  rfl
set_option maxRecDepth 100000 in
theorem od_z_109 : od_Z (109, .ldiv) := by
  intro B pc h
  refine od_of ?_
  unfold Decoder.instr
  rw [od_bind h]
  rfl
set_option maxRecDepth 100000 in
theorem od_z_112 : od_Z (112, .irem) := by
  intro B pc h
  refine od_of ?_
  unfold Decoder.instr
  rw [od_bind h]
  rfl
set_option maxRecDepth 100000 in
theorem od_z_113 : od_Z (113, .lrem) := by
  intro B pc h
  refine od_of ?_
  unfold Decoder.instr
  rw [od_bind h]
  rfl
set_option maxRecDepth 100000 in
theorem od_z_116 : od_Z (116, .ineg) := by
  intro B pc h
  refine od_of ?_
  unfold Decoder.instr
  rw [od_bind h]
  rfl
set_option maxRecDepth 100000 in
theorem od_z_117 : od_Z (117, .lneg) := by
  intro B pc h
  refine od_of ?_
  unfold Decoder.instr
  rw [od_bind h]
  rfl
set_option maxRecDepth 100000 in
theorem od_z_120 : od_Z (120, .ishl) := by
  intro B pc h
  refine od_of ?_
  unfold Decoder.instr
  rw [od_bind h]
  rfl
set_option maxRecDepth 100000 in
theorem od_z_121 : od_Z (121, .lshl) := by
  intro B pc h
  refine od_of ?_
  unfold Decoder.instr
  rw [od_bind h]
  rfl
set_option maxRecDepth 100000 in
theorem od_z_122 : od_Z (122, .ishr) := by
  intro B pc h
  refine od_of ?_
  unfold Decoder.instr
  rw [od_bind h]
  rfl
set_option maxRecDepth 100000 in
theorem od_z_123 : od_Z (123, .lshr) := by
  intro B pc h
  refine od_of ?_
  unfold Decoder.instr
  rw [od_bind h]
  rfl
set_option maxRecDepth 100000 in
theorem od_z_124 : od_Z (124, .iushr) := by
  intro B pc h
  refine od_of ?_
  unfold Decoder.instr
  rw [od_bind h]
  rfl
set_option maxRecDepth 100000 in
theorem od_z_125 : od_Z (125, .lushr) := by
  intro B pc h
  refine od_of ?_
  unfold Decoder.instr
  rw [od_bind h]
  rfl
set_option maxRecDepth 100000 in
theorem od_z_126 : od_Z (126, .iand) := by
  intro B pc h
  refine od_of ?_
  unfold Decoder.instr
  rw [od_bind h]
  rfl
set_option maxRecDepth 100000 in
theorem od_z_127 : od_Z (127, .land) := by
  intro B pc h
  refine od_of ?_
  unfold Decoder.instr
  rw [od_bind h]
  rfl
set_option maxRecDepth 100000 in
theorem od_z_128 : od_Z (128, .ior) := by
  intro B pc h
  refine od_of ?_
  unfold Decoder.instr
  rw [od_bind h]
  rfl
set_option maxRecDepth 100000 in
theorem od_z_129 : od_Z (129, .lor) := by
  intro B pc h
  refine od_of ?_
  unfold Decoder.instr
  rw [od_bind h]
  rfl
set_option maxRecDepth 100000 in
theorem od_z_130 : od_Z (130, .ixor) := by
  intro B pc h
  refine od_of ?_
  unfold Decoder.instr
  rw [od_bind h]
  rfl
set_option maxRecDepth 100000 in
theorem od_z_131 : od_Z (131, .lxor) := by
  intro B pc h
  refine od_of ?_
  unfold Decoder.instr
  rw [od_bind h]
  rfl
set_option maxRecDepth 100000 in
theorem od_z_133 : od_Z (133, .i2l) := by
  intro B pc h
  refine od_of ?_
  unfold Decoder.instr
  rw [od_bind h]
  rfl
set_option maxRecDepth 100000 in
theorem od_z_136 : od_Z (136, .l2i) := by
  intro B pc h
  refine od_of ?_
  unfold Decoder.instr
  rw [od_bind h]
  rfl
set_option maxRecDepth 100000 in
theorem od_z_145 : od_Z (145, .i2b) := by
  intro B pc h
  refine od_of ?_
  unfold Decoder.instr
  rw [od_bind h]
  rfl
set_option maxRecDepth 100000 in
theorem od_z_148 : od_Z (148, .lcmp) := by
  intro B pc h
  refine od_of ?_
  unfold Decoder.instr
  rw [od_bind h]
  rfl
set_option maxRecDepth 100000 in
theorem od_z_172 : od_Z (172, .ireturn) := by
  intro B pc h
  refine od_of ?_
  unfold Decoder.instr
  rw [od_bind h]
  rfl
set_option maxRecDepth 100000 in
theorem od_z_173 : od_Z (173, .lreturn) := by
  intro B pc h
  refine od_of ?_
  unfold Decoder.instr
  rw [od_bind h]
  rfl
set_option maxRecDepth 100000 in
theorem od_z_177 : od_Z (177, .return_) := by
  intro B pc h
  refine od_of ?_
  unfold Decoder.instr
  rw [od_bind h]
  rfl
set_option maxRecDepth 100000 in
theorem od_z_190 : od_Z (190, .arraylength) := by
  intro B pc h
  refine od_of ?_
  unfold Decoder.instr
  rw [od_bind h]
  rfl
theorem od_z_ok : ∀ q ∈ od_z, od_Z q := List.forall_mem_cons.mpr ⟨od_z_2, List.forall_mem_cons.mpr ⟨od_z_3, List.forall_mem_cons.mpr ⟨od_z_4, List.forall_mem_cons.mpr ⟨od_z_5, List.forall_mem_cons.mpr ⟨od_z_6, List.forall_mem_cons.mpr ⟨od_z_7, List.forall_mem_cons.mpr ⟨od_z_8, List.forall_mem_cons.mpr ⟨od_z_9, List.forall_mem_cons.mpr ⟨od_z_10, List.forall_mem_cons.mpr ⟨od_z_26, List.forall_mem_cons.mpr ⟨od_z_27, List.forall_mem_cons.mpr ⟨od_z_28, List.forall_mem_cons.mpr ⟨od_z_29, List.forall_mem_cons.mpr ⟨od_z_30, List.forall_mem_cons.mpr ⟨od_z_31, List.forall_mem_cons.mpr ⟨od_z_32, List.forall_mem_cons.mpr ⟨od_z_33, List.forall_mem_cons.mpr ⟨od_z_42, List.forall_mem_cons.mpr ⟨od_z_43, List.forall_mem_cons.mpr ⟨od_z_44, List.forall_mem_cons.mpr ⟨od_z_45, List.forall_mem_cons.mpr ⟨od_z_46, List.forall_mem_cons.mpr ⟨od_z_47, List.forall_mem_cons.mpr ⟨od_z_50, List.forall_mem_cons.mpr ⟨od_z_51, List.forall_mem_cons.mpr ⟨od_z_59, List.forall_mem_cons.mpr ⟨od_z_60, List.forall_mem_cons.mpr ⟨od_z_61, List.forall_mem_cons.mpr ⟨od_z_62, List.forall_mem_cons.mpr ⟨od_z_63, List.forall_mem_cons.mpr ⟨od_z_64, List.forall_mem_cons.mpr ⟨od_z_65, List.forall_mem_cons.mpr ⟨od_z_66, List.forall_mem_cons.mpr ⟨od_z_75, List.forall_mem_cons.mpr ⟨od_z_76, List.forall_mem_cons.mpr ⟨od_z_77, List.forall_mem_cons.mpr ⟨od_z_78, List.forall_mem_cons.mpr ⟨od_z_79, List.forall_mem_cons.mpr ⟨od_z_80, List.forall_mem_cons.mpr ⟨od_z_83, List.forall_mem_cons.mpr ⟨od_z_84, List.forall_mem_cons.mpr ⟨od_z_87, List.forall_mem_cons.mpr ⟨od_z_89, List.forall_mem_cons.mpr ⟨od_z_92, List.forall_mem_cons.mpr ⟨od_z_96, List.forall_mem_cons.mpr ⟨od_z_97, List.forall_mem_cons.mpr ⟨od_z_100, List.forall_mem_cons.mpr ⟨od_z_101, List.forall_mem_cons.mpr ⟨od_z_104, List.forall_mem_cons.mpr ⟨od_z_105, List.forall_mem_cons.mpr ⟨od_z_108, List.forall_mem_cons.mpr ⟨od_z_109, List.forall_mem_cons.mpr ⟨od_z_112, List.forall_mem_cons.mpr ⟨od_z_113, List.forall_mem_cons.mpr ⟨od_z_116, List.forall_mem_cons.mpr ⟨od_z_117, List.forall_mem_cons.mpr ⟨od_z_120, List.forall_mem_cons.mpr ⟨od_z_121, List.forall_mem_cons.mpr ⟨od_z_122, List.forall_mem_cons.mpr ⟨od_z_123, List.forall_mem_cons.mpr ⟨od_z_124, List.forall_mem_cons.mpr ⟨od_z_125, List.forall_mem_cons.mpr ⟨od_z_126, List.forall_mem_cons.mpr ⟨od_z_127, List.forall_mem_cons.mpr ⟨od_z_128, List.forall_mem_cons.mpr ⟨od_z_129, List.forall_mem_cons.mpr ⟨od_z_130, List.forall_mem_cons.mpr ⟨od_z_131, List.forall_mem_cons.mpr ⟨od_z_133, List.forall_mem_cons.mpr ⟨od_z_136, List.forall_mem_cons.mpr ⟨od_z_145, List.forall_mem_cons.mpr ⟨od_z_148, List.forall_mem_cons.mpr ⟨od_z_172, List.forall_mem_cons.mpr ⟨od_z_173, List.forall_mem_cons.mpr ⟨od_z_177, List.forall_mem_cons.mpr ⟨od_z_190, fun _ h => absurd h List.not_mem_nil⟩⟩⟩⟩⟩⟩⟩⟩⟩⟩⟩⟩⟩⟩⟩⟩⟩⟩⟩⟩⟩⟩⟩⟩⟩⟩⟩⟩⟩⟩⟩⟩⟩⟩⟩⟩⟩⟩⟩⟩⟩⟩⟩⟩⟩⟩⟩⟩⟩⟩⟩⟩⟩⟩⟩⟩⟩⟩⟩⟩⟩⟩⟩⟩⟩⟩⟩⟩⟩⟩⟩⟩⟩⟩⟩⟩
def od_a : List (Nat × (Nat → Instr)) := [(18, fun n => .ldc n), (21, fun n => .iload n), (22, fun n => .lload n), (25, fun n => .aload n), (54, fun n => .istore n), (55, fun n => .lstore n), (58, fun n => .astore n)]
set_option maxRecDepth 100000 in
theorem od_a_18 : od_A (18, fun n => .ldc n) := by
  intro B pc a h h1
  refine od_of ?_
  unfold Decoder.instr
  rw [od_bind h]
  show ((Reader.u1 : Decoder Nat) >>= fun n => pure (Instr.ldc n)) B (pc + 1) = _
  rw [od_bind h1]
  rfl
set_option maxRecDepth 100000 in
theorem od_a_21 : od_A (21, fun n => .iload n) := by
  intro B pc a h h1
  refine od_of ?_
  unfold Decoder.instr
  rw [od_bind h]
  show ((Reader.u1 : Decoder Nat) >>= fun n => pure (Instr.iload n)) B (pc + 1) = _
  rw [od_bind h1]
  rfl
set_option maxRecDepth 100000 in
theorem od_a_22 : od_A (22, fun n => .lload n) := by
  intro B pc a h h1
  refine od_of ?_
  unfold Decoder.instr
  rw [od_bind h]
  show ((Reader.u1 : Decoder Nat) >>= fun n => pure (Instr.lload n)) B (pc + 1) = _
  rw [od_bind h1]
  rfl
set_option maxRecDepth 100000 in
theorem od_a_25 : od_A (25, fun n => .aload n) := by
  intro B pc a h h1
  refine od_of ?_
  unfold Decoder.instr
  rw [od_bind h]
  show ((Reader.u1 : Decoder Nat) >>= fun n => pure (Instr.aload n)) B (pc + 1) = _
  rw [od_bind h1]
  rfl
set_option maxRecDepth 100000 in
theorem od_a_54 : od_A (54, fun n => .istore n) := by
  intro B pc a h h1
  refine od_of ?_
  unfold Decoder.instr
  rw [od_bind h]
  show ((Reader.u1 : Decoder Nat) >>= fun n => pure (Instr.istore n)) B (pc + 1) = _
  rw [od_bind h1]
  rfl
set_option maxRecDepth 100000 in
theorem od_a_55 : od_A (55, fun n => .lstore n) := by
  intro B pc a h h1
  refine od_of ?_
  unfold Decoder.instr
  rw [od_bind h]
  show ((Reader.u1 : Decoder Nat) >>= fun n => pure (Instr.lstore n)) B (pc + 1) = _
  rw [od_bind h1]
  rfl
set_option maxRecDepth 100000 in
theorem od_a_58 : od_A (58, fun n => .astore n) := by
  intro B pc a h h1
  refine od_of ?_
  unfold Decoder.instr
  rw [od_bind h]
  show ((Reader.u1 : Decoder Nat) >>= fun n => pure (Instr.astore n)) B (pc + 1) = _
  rw [od_bind h1]
  rfl
theorem od_a_ok : ∀ q ∈ od_a, od_A q := List.forall_mem_cons.mpr ⟨od_a_18, List.forall_mem_cons.mpr ⟨od_a_21, List.forall_mem_cons.mpr ⟨od_a_22, List.forall_mem_cons.mpr ⟨od_a_25, List.forall_mem_cons.mpr ⟨od_a_54, List.forall_mem_cons.mpr ⟨od_a_55, List.forall_mem_cons.mpr ⟨od_a_58, fun _ h => absurd h List.not_mem_nil⟩⟩⟩⟩⟩⟩⟩
def od_b : List (Nat × (Nat → Instr)) := [(19, fun n => .ldc_w n), (20, fun n => .ldc2_w n), (178, fun n => .getstatic n), (180, fun n => .getfield n), (181, fun n => .putfield n), (182, fun n => .invokevirtual n), (183, fun n => .invokespecial n), (184, fun n => .invokestatic n), (187, fun n => .new n), (189, fun n => .anewarray n)]
set_option maxRecDepth 100000 in
theorem od_b_19 : od_B (19, fun n => .ldc_w n) := by
  intro B pc a b h h1 h2
  refine od_of ?_
  unfold Decoder.instr
  rw [od_bind h]
  show ((Reader.u2 : Decoder Nat) >>= fun n => pure (Instr.ldc_w n)) B (pc + 1) = _
  rw [od_bind (od_u2 h1 h2)]
  rfl
set_option maxRecDepth 100000 in
theorem od_b_20 : od_B (20, fun n => .ldc2_w n) := by
  intro B pc a b h h1 h2
  refine od_of ?_
  unfold Decoder.instr
  rw [od_bind h]
  show ((Reader.u2 : Decoder Nat) >>= fun n => pure (Instr.ldc2_w n)) B (pc + 1) = _
  rw [od_bind (od_u2 h1 h2)]
  rfl
set_option maxRecDepth 100000 in
theorem od_b_178 : od_B (178, fun n => .getstatic n) := by
  intro B pc a b h h1 h2
  refine od_of ?_
  unfold Decoder.instr
  rw [od_bind h]
  show ((Reader.u2 : Decoder Nat) >>= fun n => pure (Instr.getstatic n)) B (pc + 1) = _
  rw [od_bind (od_u2 h1 h2)]
  rfl
set_option maxRecDepth 100000 in
theorem od_b_180 : od_B (180, fun n => .getfield n) := by
  intro B pc a b h h1 h2
  refine od_of ?_
  unfold Decoder.instr
  rw [od_bind h]
  show ((Reader.u2 : Decoder Nat) >>= fun n => pure (Instr.getfield n)) B (pc + 1) = _
  rw [od_bind (od_u2 h1 h2)]
  rfl
set_option maxRecDepth 100000 in
theorem od_b_181 : od_B (181, fun n => .putfield n) := by
  intro B pc a b h h1 h2
  refine od_of ?_
  unfold Decoder.instr
  rw [od_bind h]
  show ((Reader.u2 : Decoder Nat) >>= fun n => pure (Instr.putfield n)) B (pc + 1) = _
  rw [od_bind (od_u2 h1 h2)]
  rfl
set_option maxRecDepth 100000 in
theorem od_b_182 : od_B (182, fun n => .invokevirtual n) := by
  intro B pc a b h h1 h2
  refine od_of ?_
  unfold Decoder.instr
  rw [od_bind h]
  show ((Reader.u2 : Decoder Nat) >>= fun n => pure (Instr.invokevirtual n)) B (pc + 1) = _
  rw [od_bind (od_u2 h1 h2)]
  rfl
set_option maxRecDepth 100000 in
theorem od_b_183 : od_B (183, fun n => .invokespecial n) := by
  intro B pc a b h h1 h2
  refine od_of ?_
  unfold Decoder.instr
  rw [od_bind h]
  show ((Reader.u2 : Decoder Nat) >>= fun n => pure (Instr.invokespecial n)) B (pc + 1) = _
  rw [od_bind (od_u2 h1 h2)]
  rfl
set_option maxRecDepth 100000 in
theorem od_b_184 : od_B (184, fun n => .invokestatic n) := by
  intro B pc a b h h1 h2
  refine od_of ?_
  unfold Decoder.instr
  rw [od_bind h]
  show ((Reader.u2 : Decoder Nat) >>= fun n => pure (Instr.invokestatic n)) B (pc + 1) = _
  rw [od_bind (od_u2 h1 h2)]
  rfl
set_option maxRecDepth 100000 in
theorem od_b_187 : od_B (187, fun n => .new n) := by
  intro B pc a b h h1 h2
  refine od_of ?_
  unfold Decoder.instr
  rw [od_bind h]
  show ((Reader.u2 : Decoder Nat) >>= fun n => pure (Instr.new n)) B (pc + 1) = _
  rw [od_bind (od_u2 h1 h2)]
  rfl
set_option maxRecDepth 100000 in
theorem od_b_189 : od_B (189, fun n => .anewarray n) := by
  intro B pc a b h h1 h2
  refine od_of ?_
  unfold Decoder.instr
  rw [od_bind h]
  show ((Reader.u2 : Decoder Nat) >>= fun n => pure (Instr.anewarray n)) B (pc + 1) = _
  rw [od_bind (od_u2 h1 h2)]
  rfl
theorem od_b_ok : ∀ q ∈ od_b, od_B q := List.forall_mem_cons.mpr ⟨od_b_19, List.forall_mem_cons.mpr ⟨od_b_20, List.forall_mem_cons.mpr ⟨od_b_178, List.forall_mem_cons.mpr ⟨od_b_180, List.forall_mem_cons.mpr ⟨od_b_181, List.forall_mem_cons.mpr ⟨od_b_182, List.forall_mem_cons.mpr ⟨od_b_183, List.forall_mem_cons.mpr ⟨od_b_184, List.forall_mem_cons.mpr ⟨od_b_187, List.forall_mem_cons.mpr ⟨od_b_189, fun _ h => absurd h List.not_mem_nil⟩⟩⟩⟩⟩⟩⟩⟩⟩⟩
def od_c : List (Nat × (Int → Instr)) := [(17, fun n => .sipush n), (153, fun n => .ifCond .eq n), (154, fun n => .ifCond .ne n), (155, fun n => .ifCond .lt n), (156, fun n => .ifCond .ge n), (157, fun n => .ifCond .gt n), (158, fun n => .ifCond .le n), (159, fun n => .if_icmp .eq n), (160, fun n => .if_icmp .ne n), (161, fun n => .if_icmp .lt n), (162, fun n => .if_icmp .ge n), (163, fun n => .if_icmp .gt n), (164, fun n => .if_icmp .le n), (167, fun n => .goto n)]
set_option maxRecDepth 100000 in
theorem od_c_17 : od_C (17, fun n => .sipush n) := by
  intro B pc a b h h1 h2
  refine od_of ?_
  unfold Decoder.instr
  rw [od_bind h]
  show ((Reader.s2 : Decoder Int) >>= fun n => pure (Instr.sipush n)) B (pc + 1) = _
  rw [od_bind (od_s2 h1 h2)]
  rfl
set_option maxRecDepth 100000 in
theorem od_c_153 : od_C (153, fun n => .ifCond .eq n) := by
  intro B pc a b h h1 h2
  refine od_of ?_
  unfold Decoder.instr
  rw [od_bind h]
  show ((Reader.s2 : Decoder Int) >>= fun n => pure (Instr.ifCond .eq n)) B (pc + 1) = _
  rw [od_bind (od_s2 h1 h2)]
  rfl
set_option maxRecDepth 100000 in
theorem od_c_154 : od_C (154, fun n => .ifCond .ne n) := by
  intro B pc a b h h1 h2
  refine od_of ?_
  unfold Decoder.instr
  rw [od_bind h]
  show ((Reader.s2 : Decoder Int) >>= fun n => pure (Instr.ifCond .ne n)) B (pc + 1) = _
  rw [od_bind (od_s2 h1 h2)]
  rfl
set_option maxRecDepth 100000 in
theorem od_c_155 : od_C (155, fun n => .ifCond .lt n) := by
  intro B pc a b h h1 h2
  refine od_of ?_
  unfold Decoder.instr
  rw [od_bind h]
  show ((Reader.s2 : Decoder Int) >>= fun n => pure (Instr.ifCond .lt n)) B (pc + 1) = _
  rw [od_bind (od_s2 h1 h2)]
  rfl
set_option maxRecDepth 100000 in
theorem od_c_156 : od_C (156, fun n => .ifCond .ge n) := by
  intro B pc a b h h1 h2
  refine od_of ?_
  unfold Decoder.instr
  rw [od_bind h]
  show ((Reader.s2 : Decoder Int) >>= fun n => pure (Instr.ifCond .ge n)) B (pc + 1) = _
  rw [od_bind (od_s2 h1 h2)]
  rfl
set_option maxRecDepth 100000 in
theorem od_c_157 : od_C (157, fun n => .ifCond .gt n) := by
  intro B pc a b h h1 h2
  refine od_of ?_
  unfold Decoder.instr
  rw [od_bind h]
  show ((Reader.s2 : Decoder Int) >>= fun n => pure (Instr.ifCond .gt n)) B (pc + 1) = _
  rw [od_bind (od_s2 h1 h2)]
  rfl
set_option maxRecDepth 100000 in
theorem od_c_158 : od_C (158, fun n => .ifCond .le n) := by
  intro B pc a b h h1 h2
  refine od_of ?_
  unfold Decoder.instr
  rw [od_bind h]
  show ((Reader.s2 : Decoder Int) >>= fun n => pure (Instr.ifCond .le n)) B (pc + 1) = _
  rw [od_bind (od_s2 h1 h2)]
  rfl
set_option maxRecDepth 100000 in
theorem od_c_159 : od_C (159, fun n => .if_icmp .eq n) := by
  intro B pc a b h h1 h2
  refine od_of ?_
  unfold Decoder.instr
  rw [od_bind h]
  show ((Reader.s2 : Decoder Int) >>= fun n => pure (Instr.if_icmp .eq n)) B (pc + 1) = _
  rw [od_bind (od_s2 h1 h2)]
  rfl
set_option maxRecDepth 100000 in
theorem od_c_160 : od_C (160, fun n => .if_icmp .ne n) := by
  intro B pc a b h h1 h2
  refine od_of ?_
  unfold Decoder.instr
  rw [od_bind h]
  show ((Reader.s2 : Decoder Int) >>= fun n => pure (Instr.if_icmp .ne n)) B (pc + 1) = _
  rw [od_bind (od_s2 h1 h2)]
  rfl
set_option maxRecDepth 100000 in
theorem od_c_161 : od_C (161, fun n => .if_icmp .lt n) := by
  intro B pc a b h h1 h2
  refine od_of ?_
  unfold Decoder.instr
  rw [od_bind h]
  show ((Reader.s2 : Decoder Int) >>= fun n => pure (Instr.if_icmp .lt n)) B (pc + 1) = _
  rw [od_bind (od_s2 h1 h2)]
  rfl
set_option maxRecDepth 100000 in
theorem od_c_162 : od_C (162, fun n => .if_icmp .ge n) := by
  intro B pc a b h h1 h2
  refine od_of ?_
  unfold Decoder.instr
  rw [od_bind h]
  show ((Reader.s2 : Decoder Int) >>= fun n => pure (Instr.if_icmp .ge n)) B (pc + 1) = _
  rw [od_bind (od_s2 h1 h2)]
  rfl
set_option maxRecDepth 100000 in
theorem od_c_163 : od_C (163, fun n => .if_icmp .gt n) := by
  intro B pc a b h h1 h2
  refine od_of ?_
  unfold Decoder.instr
  rw [od_bind h]
  show ((Reader.s2 : Decoder Int) >>= fun n => pure (Instr.if_icmp .gt n)) B (pc + 1) = _
  rw [od_bind (od_s2 h1 h2)]
  rfl
set_option maxRecDepth 100000 in
theorem od_c_164 : od_C (164, fun n => .if_icmp .le n) := by
  intro B pc a b h h1 h2
  refine od_of ?_
  unfold Decoder.instr
  rw [od_bind h]
  show ((Reader.s2 : Decoder Int) >>= fun n => pure (Instr.if_icmp .le n)) B (pc + 1) = _
  rw [od_bind (od_s2 h1 h2)]
  rfl
set_option maxRecDepth 100000 in
theorem od_c_167 : od_C (167, fun n => .goto n) := by
  intro B pc a b h h1 h2
  refine od_of ?_
  unfold Decoder.instr
  rw [od_bind h]
  show ((Reader.s2 : Decoder Int) >>= fun n => pure (Instr.goto n)) B (pc + 1) = _
  rw [od_bind (od_s2 h1 h2)]
  rfl
theorem od_c_ok : ∀ q ∈ od_c, od_C q := List.forall_mem_cons.mpr ⟨od_c_17, List.forall_mem_cons.mpr ⟨od_c_153, List.forall_mem_cons.mpr ⟨od_c_154, List.forall_mem_cons.mpr ⟨od_c_155, List.forall_mem_cons.mpr ⟨od_c_156, List.forall_mem_cons.mpr ⟨od_c_157, List.forall_mem_cons.mpr ⟨od_c_158, List.forall_mem_cons.mpr ⟨od_c_159, List.forall_mem_cons.mpr ⟨od_c_160, List.forall_mem_cons.mpr ⟨od_c_161, List.forall_mem_cons.mpr ⟨od_c_162, List.forall_mem_cons.mpr ⟨od_c_163, List.forall_mem_cons.mpr ⟨od_c_164, List.forall_mem_cons.mpr ⟨od_c_167, fun _ h => absurd h List.not_mem_nil⟩⟩⟩⟩⟩⟩⟩⟩⟩⟩⟩⟩⟩⟩
set_option maxRecDepth 100000 in
theorem od_bip {B : ByteArray} {pc a : Nat} (h : (Reader.u1 : Decoder Nat) B pc = .ok (16, pc + 1)) (h1 : (Reader.u1 : Decoder Nat) B (pc + 1) = .ok (a, pc + 2)) : decode B pc = .ok (.bipush (Reader.signed 8 a), 2) := by
  refine od_of ?_
  unfold Decoder.instr
  rw [od_bind h]
  show ((Reader.s1 : Decoder Int) >>= fun n => pure (Instr.bipush n)) B (pc + 1) = _
  rw [od_bind (od_s1 h1)]
  rfl
set_option maxRecDepth 100000 in
theorem od_inc {B : ByteArray} {pc a b : Nat} (h : (Reader.u1 : Decoder Nat) B pc = .ok (132, pc + 1)) (h1 : (Reader.u1 : Decoder Nat) B (pc + 1) = .ok (a, pc + 2)) (h2 : (Reader.u1 : Decoder Nat) B (pc + 2) = .ok (b, pc + 3)) : decode B pc = .ok (.iinc a (Reader.signed 8 b), 3) := by
  refine od_of ?_
  unfold Decoder.instr
  rw [od_bind h]
  show ((Reader.u1 : Decoder Nat) >>= fun n => (Reader.s1 : Decoder Int) >>= fun k => pure (Instr.iinc n k)) B (pc + 1) = _
  rw [od_bind h1, od_bind (od_s1 h2)]
  rfl
set_option maxRecDepth 100000 in
theorem od_nwa {B : ByteArray} {pc a : Nat} {ty : ArrayType} (hty : (a, ty) ∈ [(4, ArrayType.boolean), (8, ArrayType.byte), (10, ArrayType.int), (11, ArrayType.long)]) (h : (Reader.u1 : Decoder Nat) B pc = .ok (188, pc + 1)) (h1 : (Reader.u1 : Decoder Nat) B (pc + 1) = .ok (a, pc + 2)) : decode B pc = .ok (.newarray ty, 2) := by
  refine od_of ?_
  unfold Decoder.instr
  rw [od_bind h]
  show (Decoder.newarray pc) B (pc + 1) = _
  unfold Decoder.newarray
  rw [od_bind h1]
  simp only [List.mem_cons, Prod.mk.injEq, List.not_mem_nil, or_false] at hty
  rcases hty with ⟨rfl, rfl⟩ | ⟨rfl, rfl⟩ | ⟨rfl, rfl⟩ | ⟨rfl, rfl⟩ <;> rfl
def od_n : List (Nat × ArrayType) := [(4, ArrayType.boolean), (8, ArrayType.byte), (10, ArrayType.int), (11, ArrayType.long)]
/-- the instruction that the octets begin with (but the switches) -/
def od_d (bs : List UInt8) : Option (Instr × Nat) := match bs with
  | [] => none
  | b :: r => match en_gk b.toNat od_z with
    | some i => some (i, 1)
    | none => match r with
      | [] => none
      | a :: r2 => match en_gk b.toNat od_a with
        | some f => some (f a.toNat, 2)
        | none => if Nat.beq b.toNat 16 = true then some (.bipush (Reader.signed 8 a.toNat), 2) else if Nat.beq b.toNat 188 = true then (match en_gk a.toNat od_n with
          | some ty => some (.newarray ty, 2)
          | none => none) else match r2 with
          | [] => none
          | c :: _ => match en_gk b.toNat od_b with
            | some f => some (f (a.toNat * 256 + c.toNat), 3)
            | none => match en_gk b.toNat od_c with
              | some f => some (f (Reader.signed 16 (a.toNat * 256 + c.toNat)), 3)
              | none => if Nat.beq b.toNat 132 = true then some (.iinc a.toNat (Reader.signed 8 c.toNat), 3) else none
theorem od_d_ok {B : ByteArray} {pc : Nat} {bs : List UInt8} {i : Instr} {n : Nat} (hB : ∀ k : Nat, bs[k]? = B.data.toList[pc + k]?) (h : od_d bs = some (i, n)) : decode B pc = .ok (i, n) := by
  unfold od_d at h
  split at h
  · cases h
  · rename_i b r
    have u0 : (Reader.u1 : Decoder Nat) B pc = .ok (b.toNat, pc + 1) := od_u1L (show B.data.toList[pc]? = some b from (hB 0).symm)
    split at h
    · rename_i j hj
      cases h
      exact od_z_ok _ (en_gk_in _ hj) B pc u0
    · split at h
      · cases h
      · rename_i a r2
        have u1 : (Reader.u1 : Decoder Nat) B (pc + 1) = .ok (a.toNat, pc + 2) := od_u1L (show B.data.toList[pc + 1]? = some a from (hB 1).symm)
        split at h
        · rename_i f hf
          cases h
          exact od_a_ok _ (en_gk_in _ hf) B pc _ u0 u1
        · split at h
          · rename_i hb
            cases h
            rw [Nat.eq_of_beq_eq_true hb] at u0
            exact od_bip u0 u1
          · split at h
            · rename_i hb
              rw [Nat.eq_of_beq_eq_true hb] at u0
              split at h
              · rename_i ty hty
                cases h
                exact od_nwa (en_gk_in _ hty) u0 u1
              · cases h
            · split at h
              · cases h
              · rename_i c r3
                have u2 : (Reader.u1 : Decoder Nat) B (pc + 2) = .ok (c.toNat, pc + 3) := od_u1L (show B.data.toList[pc + 2]? = some c from (hB 2).symm)
                split at h
                · rename_i f hf
                  cases h
                  exact od_b_ok _ (en_gk_in _ hf) B pc _ _ u0 u1 u2
                · split at h
                  · rename_i f hf
                    cases h
                    exact od_c_ok _ (en_gk_in _ hf) B pc _ _ u0 u1 u2
                  · split at h
                    · rename_i hb
                      cases h
                      rw [Nat.eq_of_beq_eq_true hb] at u0
                      exact od_inc u0 u1 u2
                    · cases h
/-- instructions that are looked at one by one: switches, wide ones -/
def od_sw (i : Instr) (n : Nat) : Bool := match i with
  | .tableswitch _ _ _ _ => true
  | .lookupswitch _ _ => true
  | .iinc _ _ => Nat.beq n 6
  | _ => false
def od_wk (pc : Nat) (bs : List UInt8) (tab : List (Nat × Instr × Nat)) : Bool := match tab with
  | [] => true
  | (q, i, n) :: r => Nat.beq q pc && ((od_sw i n || (match od_d bs with
    | some (i', n') => decide (i' = i) && Nat.beq n' n
    | none => false)) && od_wk (pc + n) (bs.drop n) r)
theorem od_wk_ok {B : ByteArray} : ∀ (tab : List (Nat × Instr × Nat)) (pc : Nat) (bs : List UInt8), (∀ k : Nat, bs[k]? = B.data.toList[pc + k]?) → od_wk pc bs tab = true → ∀ e ∈ tab, od_sw e.2.1 e.2.2 = false → decode B e.1 = .ok (e.2.1, e.2.2)
  | [], _, _, _, _, e, he, _ => absurd he List.not_mem_nil
  | (q, i, n) :: r, pc, bs, hB, h, e, he, hs => by
    unfold od_wk at h
    rw [Bool.and_eq_true, Bool.and_eq_true, Bool.or_eq_true] at h
    obtain ⟨h1, h2, h3⟩ := h
    rcases List.mem_cons.mp he with rfl | he
    · have hq : q = pc := Nat.eq_of_beq_eq_true h1
      subst hq
      rcases h2 with z | z
      · rw [z] at hs; cases hs
      · split at z
        · rename_i i' n' hd
          rw [Bool.and_eq_true] at z
          have e1 := of_decide_eq_true z.1
          have e2 := Nat.eq_of_beq_eq_true z.2
          subst e1; subst e2
          exact od_d_ok hB hd
        · cases z
    · refine od_wk_ok r (pc + n) (bs.drop n) (fun k => ?_) h3 e he hs
      rw [List.getElem?_drop, hB, Nat.add_assoc]
def en_dP (m : en_Rc) : Prop := ∀ c ∈ m.2.1, ∀ e ∈ c.2, decode m.1 e.1 = .ok (e.2.1, e.2.2)
theorem od_meth {m : en_Rc} (h : od_wk 0 m.1.data.toList (m.2.1.flatMap (fun c => c.2)) = true) (hs : (m.2.1.flatMap (fun c => c.2)).all (fun e => !od_sw e.2.1 e.2.2 || en_dk m.1 e) = true) : en_dP m := by
  intro c hc e he
  have hm : e ∈ m.2.1.flatMap (fun c => c.2) := List.mem_flatMap.mpr ⟨c, hc, he⟩
  cases hw : od_sw e.2.1 e.2.2 with
  | false => exact od_wk_ok _ 0 _ (fun k => by rw [Nat.zero_add]) h e hm hw
  | true =>
    have h3 := List.all_eq_true.mp hs e hm
    rw [hw] at h3
    have h3 : en_dk m.1 e = true := h3
    unfold en_dk at h3
    split at h3
    · rename_i i' n' hd
      rw [Bool.and_eq_true] at h3
      rw [hd, of_decide_eq_true h3.1, Nat.eq_of_beq_eq_true h3.2]
    · cases h3
theorem en_dP_ok {m : en_Rc} (hm : en_dP m) {pc : Nat} {i : Instr} {len : Nat} (h : en_lk2 pc m.2.1 = some (i, len)) : decode m.1 pc = .ok (i, len) := by
  obtain ⟨c, h1, h2⟩ := en_lk2_in m.2.1 h
  have h3 : decode m.1 (pc, i, len).1 = .ok ((pc, i, len).2.1, (pc, i, len).2.2) := hm c h1 (pc, i, len) h2
  exact h3

