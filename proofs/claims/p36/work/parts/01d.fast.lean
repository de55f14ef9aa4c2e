abbrev INS : Type := Jvm.ClassFile.Instr
def lka {α : Type} : List (Nat × α) → Nat → Option α
  | [], _ => none
  | (j, x) :: r, i => bif Nat.beq j i then some x else lka r i
theorem lka_mem {α : Type} {i : Nat} {x : α} : ∀ {l : List (Nat × α)}, lka l i = some x → ∃ k : Nat, l[k]? = some (i, x)
  | [], h => by cases h
  | (j, b) :: r, h => by
    rw [lka] at h
    cases hj : Nat.beq j i with
    | true => rw [hj] at h; cases h; exact ⟨0, by rw [Nat.eq_of_beq_eq_true hj]; rfl⟩
    | false =>
      rw [hj] at h
      obtain ⟨k, hk⟩ := lka_mem (l := r) h
      exact ⟨k + 1, hk⟩
theorem lka_in {α : Type} {i : Nat} {x : α} {l : List (Nat × α)} (h : lka l i = some x) : (i, x) ∈ l := by
  obtain ⟨k, hk⟩ := lka_mem h
  exact List.mem_of_getElem? hk
/-- a method's instructions by their places, sixteen places a row -/
abbrev DT : Type := List (List (Nat × INS × Nat))
def dlk (d : DT) (pc : Nat) : Option (INS × Nat) := lka (d.getD (pc / 16) []) pc
def DOK (cc : ByteArray) (d : DT) : Prop := ∀ pc i n, dlk d pc = some (i, n) → decode cc pc = .ok (i, n)
theorem dlk_in {d : DT} {pc : Nat} {x : INS × Nat} (e : dlk d pc = some x) : ∃ ch ∈ d, (pc, x) ∈ ch := by
  unfold dlk at e
  have h1 := lka_in e
  rw [List.getD_eq_getElem?_getD] at h1
  cases hk : d[pc / 16]? with
  | none => rw [hk] at h1; cases h1
  | some ch => rw [hk] at h1; exact ⟨ch, List.mem_of_getElem? hk, h1⟩
theorem DOK_of {cc : ByteArray} {d : DT} (h : ∀ ch ∈ d, ∀ q ∈ ch, decode cc q.1 = .ok q.2) : DOK cc d := by
  intro pc i n e
  obtain ⟨ch, h1, h2⟩ := dlk_in e
  have h3 := h ch h1 _ h2
  dsimp only at h3
  exact h3
/-! instructions read off the bytes, one after another -/
theorem ra_bind {α β : Type} {r : Decoder α} {f : α → Decoder β} {cc : ByteArray} {p p' : Nat} {a : α} (h : Reader.runAt r cc p = .ok (a, p')) : Reader.runAt (r >>= f) cc p = Reader.runAt (f a) cc p' := by
  have h' : r cc p = Except.ok (a, p') := h
  show Except.bind (r cc p) _ = _
  rw [h']
  rfl
theorem ra_map {α β : Type} {r : Decoder α} {f : α → β} {cc : ByteArray} {p p' : Nat} {a : α} (h : Reader.runAt r cc p = .ok (a, p')) : Reader.runAt (f <$> r) cc p = .ok (f a, p') := by
  have h' : r cc p = Except.ok (a, p') := h
  first
    | (show Except.bind (r cc p) _ = _
       rw [h']
       rfl)
    | (show Except.map _ (r cc p) = _
       rw [h']
       rfl)
theorem dr_next {L : List UInt8} {p : Nat} {x : UInt8} {r : List UInt8} (h : L.drop p = x :: r) : L.drop (p + 1) = r := by
  have e := List.drop_drop (i := 1) (j := p) (l := L)
  rw [h] at e
  exact e.symm
theorem ra_u1 {cc : ByteArray} {p : Nat} {x : UInt8} {r : List UInt8} (h : cc.data.toList.drop p = x :: r) : Reader.runAt (Reader.u1 : Decoder Nat) cc p = .ok (x.toNat, p + 1) := by
  have hp : p < cc.data.toList.length := Nat.lt_of_not_le fun q => by rw [List.drop_eq_nil_of_le q] at h; cases h
  rw [List.drop_eq_getElem_cons hp] at h
  have e : cc.data.toList[p] = x := (List.cons.inj h).1
  cases cc with
  | mk d =>
    have hs : p < (ByteArray.mk d).size := hp
    have s1 : Reader.runAt (read : Reader DecodeError ByteArray) (ByteArray.mk d) p = .ok (ByteArray.mk d, p) := rfl
    have s2 : Reader.runAt (get : Reader DecodeError Nat) (ByteArray.mk d) p = .ok (p, p) := rfl
    have s3 : Reader.runAt (set (p + 1) : Reader DecodeError PUnit) (ByteArray.mk d) p = .ok (PUnit.unit, p + 1) := rfl
    unfold Reader.u1
    refine (ra_bind s1).trans ?_
    refine (ra_bind s2).trans ?_
    show Reader.runAt (dite (p < (ByteArray.mk d).size) _ _) (ByteArray.mk d) p = _
    rw [dif_pos hs]
    refine (ra_bind s3).trans ?_
    exact congrArg (fun z : UInt8 => (Except.ok (z.toNat, p + 1) : Except DecodeError (Nat × Nat))) e
theorem ra_s1 {cc : ByteArray} {p : Nat} {x : UInt8} {r : List UInt8} (h : cc.data.toList.drop p = x :: r) : Reader.runAt (Reader.s1 : Decoder Int) cc p = .ok (Reader.signed 8 x.toNat, p + 1) := ra_map (f := Reader.signed 8) (ra_u1 h)
theorem ra_u2 {cc : ByteArray} {p : Nat} {x y : UInt8} {r : List UInt8} (h : cc.data.toList.drop p = x :: y :: r) : Reader.runAt (Reader.u2 : Decoder Nat) cc p = .ok (x.toNat * 256 + y.toNat, p + 2) := by
  unfold Reader.u2
  refine (ra_bind (ra_u1 h)).trans ?_
  refine (ra_bind (ra_u1 (dr_next h))).trans ?_
  rfl
theorem ra_s2 {cc : ByteArray} {p : Nat} {x y : UInt8} {r : List UInt8} (h : cc.data.toList.drop p = x :: y :: r) : Reader.runAt (Reader.s2 : Decoder Int) cc p = .ok (Reader.signed 16 (x.toNat * 256 + y.toNat), p + 2) := ra_map (f := Reader.signed 16) (ra_u2 h)
/-- what stands behind the first byte: nothing, a byte, a byte with a sign, two bytes, two with a sign, a place and a step -/
abbrev SH : Type := INS ⊕ (Nat → INS) ⊕ (Int → INS) ⊕ (Nat → INS) ⊕ (Int → INS) ⊕ Unit
abbrev shN (i : INS) : SH := .inl i
abbrev shB (f : Nat → INS) : SH := .inr (.inl f)
abbrev shS (f : Int → INS) : SH := .inr (.inr (.inl f))
abbrev shW (f : Nat → INS) : SH := .inr (.inr (.inr (.inl f)))
abbrev shT (f : Int → INS) : SH := .inr (.inr (.inr (.inr (.inl f))))
abbrev shI : SH := .inr (.inr (.inr (.inr (.inr ()))))
def shd : SH → List UInt8 → Option (INS × Nat)
  | .inl i, _ => some (i, 0)
  | .inr (.inl f), x :: _ => some (f x.toNat, 1)
  | .inr (.inr (.inl f)), x :: _ => some (f (Reader.signed 8 x.toNat), 1)
  | .inr (.inr (.inr (.inl f))), x :: y :: _ => some (f (x.toNat * 256 + y.toNat), 2)
  | .inr (.inr (.inr (.inr (.inl f)))), x :: y :: _ => some (f (Reader.signed 16 (x.toNat * 256 + y.toNat)), 2)
  | .inr (.inr (.inr (.inr (.inr _)))), x :: y :: _ => some (.iinc x.toNat (Reader.signed 8 y.toNat), 2)
  | _, _ => none
def shr : SH → Decoder INS
  | .inl i => pure i
  | .inr (.inl f) => do pure (f (← Reader.u1))
  | .inr (.inr (.inl f)) => do pure (f (← Reader.s1))
  | .inr (.inr (.inr (.inl f))) => do pure (f (← Reader.u2))
  | .inr (.inr (.inr (.inr (.inl f)))) => do pure (f (← Reader.s2))
  | .inr (.inr (.inr (.inr (.inr _)))) => do pure (.iinc (← Reader.u1) (← Reader.s1))
theorem shr_ok {cc : ByteArray} {s : SH} {l : List UInt8} {i : INS} {k p : Nat} (h : shd s l = some (i, k)) (d : cc.data.toList.drop p = l) : Reader.runAt (shr s) cc p = .ok (i, p + k) := by
  rcases s with i' | f | f | f | f | u
  · have h : some (i', 0) = some (i, k) := h; cases h; rfl
  · match l, h, d with
    | [], h, _ => have h : (none : Option (INS × Nat)) = some (i, k) := h; cases h
    | x :: r, h, d => have h : some (f x.toNat, 1) = some (i, k) := h; cases h; exact (ra_bind (ra_u1 d)).trans rfl
  · match l, h, d with
    | [], h, _ => have h : (none : Option (INS × Nat)) = some (i, k) := h; cases h
    | x :: r, h, d => have h : some (f (Reader.signed 8 x.toNat), 1) = some (i, k) := h; cases h; exact (ra_bind (ra_s1 d)).trans rfl
  · match l, h, d with
    | [], h, _ => have h : (none : Option (INS × Nat)) = some (i, k) := h; cases h
    | [_], h, _ => have h : (none : Option (INS × Nat)) = some (i, k) := h; cases h
    | x :: y :: r, h, d => have h : some (f (x.toNat * 256 + y.toNat), 2) = some (i, k) := h; cases h; exact (ra_bind (ra_u2 d)).trans rfl
  · match l, h, d with
    | [], h, _ => have h : (none : Option (INS × Nat)) = some (i, k) := h; cases h
    | [_], h, _ => have h : (none : Option (INS × Nat)) = some (i, k) := h; cases h
    | x :: y :: r, h, d => have h : some (f (Reader.signed 16 (x.toNat * 256 + y.toNat)), 2) = some (i, k) := h; cases h; exact (ra_bind (ra_s2 d)).trans rfl
  · match l, h, d with
    | [], h, _ => have h : (none : Option (INS × Nat)) = some (i, k) := h; cases h
    | [_], h, _ => have h : (none : Option (INS × Nat)) = some (i, k) := h; cases h
    | x :: y :: r, h, d => have h : some (Jvm.ClassFile.Instr.iinc x.toNat (Reader.signed 8 y.toNat), 2) = some (i, k) := h; cases h; exact (ra_bind (ra_u1 d)).trans ((ra_bind (ra_s1 (dr_next d))).trans rfl)
/-- a first byte and what it says -/
def OPOK (o : Nat) (s : SH) : Prop := ∀ (cc : ByteArray) (pc p : Nat), Reader.runAt (Reader.u1 : Decoder Nat) cc p = .ok (o, p + 1) → Reader.runAt (Decoder.instr pc) cc p = Reader.runAt (shr s) cc (p + 1)
abbrev OPE : Type := {q : Nat × SH // OPOK q.1 q.2}
set_option maxRecDepth 100000 in
theorem op_42 : OPOK 42 (shN (Jvm.ClassFile.Instr.aload_n 0)) := fun cc pc p h => ra_bind h
set_option maxRecDepth 100000 in
theorem op_21 : OPOK 21 (shB Jvm.ClassFile.Instr.iload) := fun cc pc p h => ra_bind h
set_option maxRecDepth 100000 in
theorem op_180 : OPOK 180 (shW Jvm.ClassFile.Instr.getfield) := fun cc pc p h => ra_bind h
set_option maxRecDepth 100000 in
theorem op_27 : OPOK 27 (shN (Jvm.ClassFile.Instr.iload_n 1)) := fun cc pc p h => ra_bind h
set_option maxRecDepth 100000 in
theorem op_28 : OPOK 28 (shN (Jvm.ClassFile.Instr.iload_n 2)) := fun cc pc p h => ra_bind h
set_option maxRecDepth 100000 in
theorem op_182 : OPOK 182 (shW Jvm.ClassFile.Instr.invokevirtual) := fun cc pc p h => ra_bind h
set_option maxRecDepth 100000 in
theorem op_3 : OPOK 3 (shN (Jvm.ClassFile.Instr.iconst 0)) := fun cc pc p h => ra_bind h
set_option maxRecDepth 100000 in
theorem op_172 : OPOK 172 (shN (Jvm.ClassFile.Instr.ireturn)) := fun cc pc p h => ra_bind h
set_option maxRecDepth 100000 in
theorem op_4 : OPOK 4 (shN (Jvm.ClassFile.Instr.iconst 1)) := fun cc pc p h => ra_bind h
set_option maxRecDepth 100000 in
theorem op_29 : OPOK 29 (shN (Jvm.ClassFile.Instr.iload_n 3)) := fun cc pc p h => ra_bind h
set_option maxRecDepth 100000 in
theorem op_54 : OPOK 54 (shB Jvm.ClassFile.Instr.istore) := fun cc pc p h => ra_bind h
set_option maxRecDepth 100000 in
theorem op_46 : OPOK 46 (shN (Jvm.ClassFile.Instr.iaload)) := fun cc pc p h => ra_bind h
set_option maxRecDepth 100000 in
theorem op_167 : OPOK 167 (shT Jvm.ClassFile.Instr.goto) := fun cc pc p h => ra_bind h
set_option maxRecDepth 100000 in
theorem op_2 : OPOK 2 (shN (Jvm.ClassFile.Instr.iconst (-1))) := fun cc pc p h => ra_bind h
set_option maxRecDepth 100000 in
theorem op_153 : OPOK 153 (shT (Jvm.ClassFile.Instr.ifCond .eq)) := fun cc pc p h => ra_bind h
set_option maxRecDepth 100000 in
theorem op_16 : OPOK 16 (shS Jvm.ClassFile.Instr.bipush) := fun cc pc p h => ra_bind h
set_option maxRecDepth 100000 in
theorem op_184 : OPOK 184 (shW Jvm.ClassFile.Instr.invokestatic) := fun cc pc p h => ra_bind h
set_option maxRecDepth 100000 in
theorem op_132 : OPOK 132 (shI) := fun cc pc p h => ra_bind h
set_option maxRecDepth 100000 in
theorem op_162 : OPOK 162 (shT (Jvm.ClassFile.Instr.if_icmp .ge)) := fun cc pc p h => ra_bind h
set_option maxRecDepth 100000 in
theorem op_96 : OPOK 96 (shN (Jvm.ClassFile.Instr.iadd)) := fun cc pc p h => ra_bind h
set_option maxRecDepth 100000 in
theorem op_154 : OPOK 154 (shT (Jvm.ClassFile.Instr.ifCond .ne)) := fun cc pc p h => ra_bind h
set_option maxRecDepth 100000 in
theorem op_126 : OPOK 126 (shN (Jvm.ClassFile.Instr.iand)) := fun cc pc p h => ra_bind h
set_option maxRecDepth 100000 in
theorem op_128 : OPOK 128 (shN (Jvm.ClassFile.Instr.ior)) := fun cc pc p h => ra_bind h
set_option maxRecDepth 100000 in
theorem op_104 : OPOK 104 (shN (Jvm.ClassFile.Instr.imul)) := fun cc pc p h => ra_bind h
set_option maxRecDepth 100000 in
theorem op_160 : OPOK 160 (shT (Jvm.ClassFile.Instr.if_icmp .ne)) := fun cc pc p h => ra_bind h
set_option maxRecDepth 100000 in
theorem op_120 : OPOK 120 (shN (Jvm.ClassFile.Instr.ishl)) := fun cc pc p h => ra_bind h
set_option maxRecDepth 100000 in
theorem op_181 : OPOK 181 (shW Jvm.ClassFile.Instr.putfield) := fun cc pc p h => ra_bind h
set_option maxRecDepth 100000 in
theorem op_62 : OPOK 62 (shN (Jvm.ClassFile.Instr.istore_n 3)) := fun cc pc p h => ra_bind h
set_option maxRecDepth 100000 in
theorem op_79 : OPOK 79 (shN (Jvm.ClassFile.Instr.iastore)) := fun cc pc p h => ra_bind h
set_option maxRecDepth 100000 in
theorem op_43 : OPOK 43 (shN (Jvm.ClassFile.Instr.aload_n 1)) := fun cc pc p h => ra_bind h
set_option maxRecDepth 100000 in
theorem op_26 : OPOK 26 (shN (Jvm.ClassFile.Instr.iload_n 0)) := fun cc pc p h => ra_bind h
set_option maxRecDepth 100000 in
theorem op_100 : OPOK 100 (shN (Jvm.ClassFile.Instr.isub)) := fun cc pc p h => ra_bind h
set_option maxRecDepth 100000 in
theorem op_7 : OPOK 7 (shN (Jvm.ClassFile.Instr.iconst 4)) := fun cc pc p h => ra_bind h
set_option maxRecDepth 100000 in
theorem op_25 : OPOK 25 (shB Jvm.ClassFile.Instr.aload) := fun cc pc p h => ra_bind h
set_option maxRecDepth 100000 in
theorem op_163 : OPOK 163 (shT (Jvm.ClassFile.Instr.if_icmp .gt)) := fun cc pc p h => ra_bind h
set_option maxRecDepth 100000 in
theorem op_122 : OPOK 122 (shN (Jvm.ClassFile.Instr.ishr)) := fun cc pc p h => ra_bind h
set_option maxRecDepth 100000 in
theorem op_159 : OPOK 159 (shT (Jvm.ClassFile.Instr.if_icmp .eq)) := fun cc pc p h => ra_bind h
set_option maxRecDepth 100000 in
theorem op_130 : OPOK 130 (shN (Jvm.ClassFile.Instr.ixor)) := fun cc pc p h => ra_bind h
set_option maxRecDepth 100000 in
theorem op_61 : OPOK 61 (shN (Jvm.ClassFile.Instr.istore_n 2)) := fun cc pc p h => ra_bind h
set_option maxRecDepth 100000 in
theorem op_177 : OPOK 177 (shN (Jvm.ClassFile.Instr.return_)) := fun cc pc p h => ra_bind h
set_option maxRecDepth 100000 in
theorem op_45 : OPOK 45 (shN (Jvm.ClassFile.Instr.aload_n 3)) := fun cc pc p h => ra_bind h
set_option maxRecDepth 100000 in
theorem op_44 : OPOK 44 (shN (Jvm.ClassFile.Instr.aload_n 2)) := fun cc pc p h => ra_bind h
set_option maxRecDepth 100000 in
theorem op_198 : OPOK 198 (shT Jvm.ClassFile.Instr.ifnull) := fun cc pc p h => ra_bind h
set_option maxRecDepth 100000 in
theorem op_17 : OPOK 17 (shT Jvm.ClassFile.Instr.sipush) := fun cc pc p h => ra_bind h
set_option maxRecDepth 100000 in
theorem op_5 : OPOK 5 (shN (Jvm.ClassFile.Instr.iconst 2)) := fun cc pc p h => ra_bind h
set_option maxRecDepth 100000 in
theorem op_155 : OPOK 155 (shT (Jvm.ClassFile.Instr.ifCond .lt)) := fun cc pc p h => ra_bind h
set_option maxRecDepth 100000 in
theorem op_161 : OPOK 161 (shT (Jvm.ClassFile.Instr.if_icmp .lt)) := fun cc pc p h => ra_bind h
set_option maxRecDepth 100000 in
theorem op_6 : OPOK 6 (shN (Jvm.ClassFile.Instr.iconst 3)) := fun cc pc p h => ra_bind h
set_option maxRecDepth 100000 in
theorem op_60 : OPOK 60 (shN (Jvm.ClassFile.Instr.istore_n 1)) := fun cc pc p h => ra_bind h
set_option maxRecDepth 100000 in
theorem op_58 : OPOK 58 (shB Jvm.ClassFile.Instr.astore) := fun cc pc p h => ra_bind h
set_option maxRecDepth 100000 in
theorem op_51 : OPOK 51 (shN (Jvm.ClassFile.Instr.baload)) := fun cc pc p h => ra_bind h
set_option maxRecDepth 100000 in
theorem op_190 : OPOK 190 (shN (Jvm.ClassFile.Instr.arraylength)) := fun cc pc p h => ra_bind h
set_option maxRecDepth 100000 in
theorem op_164 : OPOK 164 (shT (Jvm.ClassFile.Instr.if_icmp .le)) := fun cc pc p h => ra_bind h
set_option maxRecDepth 100000 in
theorem op_92 : OPOK 92 (shN (Jvm.ClassFile.Instr.dup2)) := fun cc pc p h => ra_bind h
set_option maxRecDepth 100000 in
theorem op_9 : OPOK 9 (shN (Jvm.ClassFile.Instr.lconst 0)) := fun cc pc p h => ra_bind h
set_option maxRecDepth 100000 in
theorem op_22 : OPOK 22 (shB Jvm.ClassFile.Instr.lload) := fun cc pc p h => ra_bind h
set_option maxRecDepth 100000 in
theorem op_78 : OPOK 78 (shN (Jvm.ClassFile.Instr.astore_n 3)) := fun cc pc p h => ra_bind h
set_option maxRecDepth 100000 in
theorem op_84 : OPOK 84 (shN (Jvm.ClassFile.Instr.bastore)) := fun cc pc p h => ra_bind h
set_option maxRecDepth 100000 in
theorem op_10 : OPOK 10 (shN (Jvm.ClassFile.Instr.lconst 1)) := fun cc pc p h => ra_bind h
set_option maxRecDepth 100000 in
theorem op_124 : OPOK 124 (shN (Jvm.ClassFile.Instr.iushr)) := fun cc pc p h => ra_bind h
set_option maxRecDepth 100000 in
theorem op_158 : OPOK 158 (shT (Jvm.ClassFile.Instr.ifCond .le)) := fun cc pc p h => ra_bind h
set_option maxRecDepth 100000 in
theorem op_55 : OPOK 55 (shB Jvm.ClassFile.Instr.lstore) := fun cc pc p h => ra_bind h
set_option maxRecDepth 100000 in
theorem op_89 : OPOK 89 (shN (Jvm.ClassFile.Instr.dup)) := fun cc pc p h => ra_bind h
set_option maxRecDepth 100000 in
theorem op_32 : OPOK 32 (shN (Jvm.ClassFile.Instr.lload_n 2)) := fun cc pc p h => ra_bind h
set_option maxRecDepth 100000 in
theorem op_59 : OPOK 59 (shN (Jvm.ClassFile.Instr.istore_n 0)) := fun cc pc p h => ra_bind h
set_option maxRecDepth 100000 in
theorem op_20 : OPOK 20 (shW Jvm.ClassFile.Instr.ldc2_w) := fun cc pc p h => ra_bind h
set_option maxRecDepth 100000 in
theorem op_19 : OPOK 19 (shW Jvm.ClassFile.Instr.ldc_w) := fun cc pc p h => ra_bind h
set_option maxRecDepth 100000 in
theorem op_77 : OPOK 77 (shN (Jvm.ClassFile.Instr.astore_n 2)) := fun cc pc p h => ra_bind h
set_option maxRecDepth 100000 in
theorem op_199 : OPOK 199 (shT Jvm.ClassFile.Instr.ifnonnull) := fun cc pc p h => ra_bind h
set_option maxRecDepth 100000 in
theorem op_108 : OPOK 108 (shN (Jvm.ClassFile.Instr.idiv)) := fun cc pc p h => ra_bind h
set_option maxRecDepth 100000 in
theorem op_123 : OPOK 123 (shN (Jvm.ClassFile.Instr.lshr)) := fun cc pc p h => ra_bind h
set_option maxRecDepth 100000 in
theorem op_127 : OPOK 127 (shN (Jvm.ClassFile.Instr.land)) := fun cc pc p h => ra_bind h
set_option maxRecDepth 100000 in
theorem op_148 : OPOK 148 (shN (Jvm.ClassFile.Instr.lcmp)) := fun cc pc p h => ra_bind h
set_option maxRecDepth 100000 in
theorem op_178 : OPOK 178 (shW Jvm.ClassFile.Instr.getstatic) := fun cc pc p h => ra_bind h
set_option maxRecDepth 100000 in
theorem op_8 : OPOK 8 (shN (Jvm.ClassFile.Instr.iconst 5)) := fun cc pc p h => ra_bind h
set_option maxRecDepth 100000 in
theorem op_33 : OPOK 33 (shN (Jvm.ClassFile.Instr.lload_n 3)) := fun cc pc p h => ra_bind h
set_option maxRecDepth 100000 in
theorem op_121 : OPOK 121 (shN (Jvm.ClassFile.Instr.lshl)) := fun cc pc p h => ra_bind h
set_option maxRecDepth 100000 in
theorem op_129 : OPOK 129 (shN (Jvm.ClassFile.Instr.lor)) := fun cc pc p h => ra_bind h
set_option maxRecDepth 100000 in
theorem op_18 : OPOK 18 (shB Jvm.ClassFile.Instr.ldc) := fun cc pc p h => ra_bind h
set_option maxRecDepth 100000 in
theorem op_1 : OPOK 1 (shN (Jvm.ClassFile.Instr.aconst_null)) := fun cc pc p h => ra_bind h
set_option maxRecDepth 100000 in
theorem op_50 : OPOK 50 (shN (Jvm.ClassFile.Instr.aaload)) := fun cc pc p h => ra_bind h
set_option maxRecDepth 100000 in
theorem op_176 : OPOK 176 (shN (Jvm.ClassFile.Instr.areturn)) := fun cc pc p h => ra_bind h
set_option maxRecDepth 100000 in
theorem op_112 : OPOK 112 (shN (Jvm.ClassFile.Instr.irem)) := fun cc pc p h => ra_bind h
set_option maxRecDepth 100000 in
theorem op_105 : OPOK 105 (shN (Jvm.ClassFile.Instr.lmul)) := fun cc pc p h => ra_bind h
set_option maxRecDepth 100000 in
theorem op_97 : OPOK 97 (shN (Jvm.ClassFile.Instr.ladd)) := fun cc pc p h => ra_bind h
set_option maxRecDepth 100000 in
theorem op_125 : OPOK 125 (shN (Jvm.ClassFile.Instr.lushr)) := fun cc pc p h => ra_bind h
set_option maxRecDepth 100000 in
theorem op_133 : OPOK 133 (shN (Jvm.ClassFile.Instr.i2l)) := fun cc pc p h => ra_bind h
set_option maxRecDepth 100000 in
theorem op_113 : OPOK 113 (shN (Jvm.ClassFile.Instr.lrem)) := fun cc pc p h => ra_bind h
set_option maxRecDepth 100000 in
theorem op_136 : OPOK 136 (shN (Jvm.ClassFile.Instr.l2i)) := fun cc pc p h => ra_bind h
set_option maxRecDepth 100000 in
theorem op_156 : OPOK 156 (shT (Jvm.ClassFile.Instr.ifCond .ge)) := fun cc pc p h => ra_bind h
set_option maxRecDepth 100000 in
theorem op_145 : OPOK 145 (shN (Jvm.ClassFile.Instr.i2b)) := fun cc pc p h => ra_bind h
set_option maxRecDepth 100000 in
theorem op_116 : OPOK 116 (shN (Jvm.ClassFile.Instr.ineg)) := fun cc pc p h => ra_bind h
set_option maxRecDepth 100000 in
theorem op_157 : OPOK 157 (shT (Jvm.ClassFile.Instr.ifCond .gt)) := fun cc pc p h => ra_bind h
set_option maxRecDepth 100000 in
theorem op_76 : OPOK 76 (shN (Jvm.ClassFile.Instr.astore_n 1)) := fun cc pc p h => ra_bind h
set_option maxRecDepth 100000 in
theorem op_87 : OPOK 87 (shN (Jvm.ClassFile.Instr.pop)) := fun cc pc p h => ra_bind h
set_option maxRecDepth 100000 in
theorem op_183 : OPOK 183 (shW Jvm.ClassFile.Instr.invokespecial) := fun cc pc p h => ra_bind h
set_option maxRecDepth 100000 in
theorem op_187 : OPOK 187 (shW Jvm.ClassFile.Instr.new) := fun cc pc p h => ra_bind h
set_option maxRecDepth 100000 in
theorem op_47 : OPOK 47 (shN (Jvm.ClassFile.Instr.laload)) := fun cc pc p h => ra_bind h
set_option maxRecDepth 100000 in
theorem op_80 : OPOK 80 (shN (Jvm.ClassFile.Instr.lastore)) := fun cc pc p h => ra_bind h
set_option maxRecDepth 100000 in
theorem op_101 : OPOK 101 (shN (Jvm.ClassFile.Instr.lsub)) := fun cc pc p h => ra_bind h
set_option maxRecDepth 100000 in
theorem op_131 : OPOK 131 (shN (Jvm.ClassFile.Instr.lxor)) := fun cc pc p h => ra_bind h
def opt : List OPE := [⟨(42, shN (Jvm.ClassFile.Instr.aload_n 0)), op_42⟩, ⟨(21, shB Jvm.ClassFile.Instr.iload), op_21⟩, ⟨(180, shW Jvm.ClassFile.Instr.getfield), op_180⟩, ⟨(27, shN (Jvm.ClassFile.Instr.iload_n 1)), op_27⟩, ⟨(28, shN (Jvm.ClassFile.Instr.iload_n 2)), op_28⟩, ⟨(182, shW Jvm.ClassFile.Instr.invokevirtual), op_182⟩, ⟨(3, shN (Jvm.ClassFile.Instr.iconst 0)), op_3⟩, ⟨(172, shN (Jvm.ClassFile.Instr.ireturn)), op_172⟩, ⟨(4, shN (Jvm.ClassFile.Instr.iconst 1)), op_4⟩, ⟨(29, shN (Jvm.ClassFile.Instr.iload_n 3)), op_29⟩, ⟨(54, shB Jvm.ClassFile.Instr.istore), op_54⟩, ⟨(46, shN (Jvm.ClassFile.Instr.iaload)), op_46⟩, ⟨(167, shT Jvm.ClassFile.Instr.goto), op_167⟩, ⟨(2, shN (Jvm.ClassFile.Instr.iconst (-1))), op_2⟩, ⟨(153, shT (Jvm.ClassFile.Instr.ifCond .eq)), op_153⟩, ⟨(16, shS Jvm.ClassFile.Instr.bipush), op_16⟩, ⟨(184, shW Jvm.ClassFile.Instr.invokestatic), op_184⟩, ⟨(132, shI), op_132⟩, ⟨(162, shT (Jvm.ClassFile.Instr.if_icmp .ge)), op_162⟩, ⟨(96, shN (Jvm.ClassFile.Instr.iadd)), op_96⟩, ⟨(154, shT (Jvm.ClassFile.Instr.ifCond .ne)), op_154⟩, ⟨(126, shN (Jvm.ClassFile.Instr.iand)), op_126⟩, ⟨(128, shN (Jvm.ClassFile.Instr.ior)), op_128⟩, ⟨(104, shN (Jvm.ClassFile.Instr.imul)), op_104⟩, ⟨(160, shT (Jvm.ClassFile.Instr.if_icmp .ne)), op_160⟩, ⟨(120, shN (Jvm.ClassFile.Instr.ishl)), op_120⟩, ⟨(181, shW Jvm.ClassFile.Instr.putfield), op_181⟩, ⟨(62, shN (Jvm.ClassFile.Instr.istore_n 3)), op_62⟩, ⟨(79, shN (Jvm.ClassFile.Instr.iastore)), op_79⟩, ⟨(43, shN (Jvm.ClassFile.Instr.aload_n 1)), op_43⟩, ⟨(26, shN (Jvm.ClassFile.Instr.iload_n 0)), op_26⟩, ⟨(100, shN (Jvm.ClassFile.Instr.isub)), op_100⟩, ⟨(7, shN (Jvm.ClassFile.Instr.iconst 4)), op_7⟩, ⟨(25, shB Jvm.ClassFile.Instr.aload), op_25⟩, ⟨(163, shT (Jvm.ClassFile.Instr.if_icmp .gt)), op_163⟩, ⟨(122, shN (Jvm.ClassFile.Instr.ishr)), op_122⟩, ⟨(159, shT (Jvm.ClassFile.Instr.if_icmp .eq)), op_159⟩, ⟨(130, shN (Jvm.ClassFile.Instr.ixor)), op_130⟩, ⟨(61, shN (Jvm.ClassFile.Instr.istore_n 2)), op_61⟩, ⟨(177, shN (Jvm.ClassFile.Instr.return_)), op_177⟩, ⟨(45, shN (Jvm.ClassFile.Instr.aload_n 3)), op_45⟩, ⟨(44, shN (Jvm.ClassFile.Instr.aload_n 2)), op_44⟩, ⟨(198, shT Jvm.ClassFile.Instr.ifnull), op_198⟩, ⟨(17, shT Jvm.ClassFile.Instr.sipush), op_17⟩, ⟨(5, shN (Jvm.ClassFile.Instr.iconst 2)), op_5⟩, ⟨(155, shT (Jvm.ClassFile.Instr.ifCond .lt)), op_155⟩, ⟨(161, shT (Jvm.ClassFile.Instr.if_icmp .lt)), op_161⟩, ⟨(6, shN (Jvm.ClassFile.Instr.iconst 3)), op_6⟩, ⟨(60, shN (Jvm.ClassFile.Instr.istore_n 1)), op_60⟩, ⟨(58, shB Jvm.ClassFile.Instr.astore), op_58⟩, ⟨(51, shN (Jvm.ClassFile.Instr.baload)), op_51⟩, ⟨(190, shN (Jvm.ClassFile.Instr.arraylength)), op_190⟩, ⟨(164, shT (Jvm.ClassFile.Instr.if_icmp .le)), op_164⟩, ⟨(92, shN (Jvm.ClassFile.Instr.dup2)), op_92⟩, ⟨(9, shN (Jvm.ClassFile.Instr.lconst 0)), op_9⟩, ⟨(22, shB Jvm.ClassFile.Instr.lload), op_22⟩, ⟨(78, shN (Jvm.ClassFile.Instr.astore_n 3)), op_78⟩, ⟨(84, shN (Jvm.ClassFile.Instr.bastore)), op_84⟩, ⟨(10, shN (Jvm.ClassFile.Instr.lconst 1)), op_10⟩, ⟨(124, shN (Jvm.ClassFile.Instr.iushr)), op_124⟩, ⟨(158, shT (Jvm.ClassFile.Instr.ifCond .le)), op_158⟩, ⟨(55, shB Jvm.ClassFile.Instr.lstore), op_55⟩, ⟨(89, shN (Jvm.ClassFile.Instr.dup)), op_89⟩, ⟨(32, shN (Jvm.ClassFile.Instr.lload_n 2)), op_32⟩, ⟨(59, shN (Jvm.ClassFile.Instr.istore_n 0)), op_59⟩, ⟨(20, shW Jvm.ClassFile.Instr.ldc2_w), op_20⟩, ⟨(19, shW Jvm.ClassFile.Instr.ldc_w), op_19⟩, ⟨(77, shN (Jvm.ClassFile.Instr.astore_n 2)), op_77⟩, ⟨(199, shT Jvm.ClassFile.Instr.ifnonnull), op_199⟩, ⟨(108, shN (Jvm.ClassFile.Instr.idiv)), op_108⟩, ⟨(123, shN (Jvm.ClassFile.Instr.lshr)), op_123⟩, ⟨(127, shN (Jvm.ClassFile.Instr.land)), op_127⟩, ⟨(148, shN (Jvm.ClassFile.Instr.lcmp)), op_148⟩, ⟨(178, shW Jvm.ClassFile.Instr.getstatic), op_178⟩, ⟨(8, shN (Jvm.ClassFile.Instr.iconst 5)), op_8⟩, ⟨(33, shN (Jvm.ClassFile.Instr.lload_n 3)), op_33⟩, ⟨(121, shN (Jvm.ClassFile.Instr.lshl)), op_121⟩, ⟨(129, shN (Jvm.ClassFile.Instr.lor)), op_129⟩, ⟨(18, shB Jvm.ClassFile.Instr.ldc), op_18⟩, ⟨(1, shN (Jvm.ClassFile.Instr.aconst_null)), op_1⟩, ⟨(50, shN (Jvm.ClassFile.Instr.aaload)), op_50⟩, ⟨(176, shN (Jvm.ClassFile.Instr.areturn)), op_176⟩, ⟨(112, shN (Jvm.ClassFile.Instr.irem)), op_112⟩, ⟨(105, shN (Jvm.ClassFile.Instr.lmul)), op_105⟩, ⟨(97, shN (Jvm.ClassFile.Instr.ladd)), op_97⟩, ⟨(125, shN (Jvm.ClassFile.Instr.lushr)), op_125⟩, ⟨(133, shN (Jvm.ClassFile.Instr.i2l)), op_133⟩, ⟨(113, shN (Jvm.ClassFile.Instr.lrem)), op_113⟩, ⟨(136, shN (Jvm.ClassFile.Instr.l2i)), op_136⟩, ⟨(156, shT (Jvm.ClassFile.Instr.ifCond .ge)), op_156⟩, ⟨(145, shN (Jvm.ClassFile.Instr.i2b)), op_145⟩, ⟨(116, shN (Jvm.ClassFile.Instr.ineg)), op_116⟩, ⟨(157, shT (Jvm.ClassFile.Instr.ifCond .gt)), op_157⟩, ⟨(76, shN (Jvm.ClassFile.Instr.astore_n 1)), op_76⟩, ⟨(87, shN (Jvm.ClassFile.Instr.pop)), op_87⟩, ⟨(183, shW Jvm.ClassFile.Instr.invokespecial), op_183⟩, ⟨(187, shW Jvm.ClassFile.Instr.new), op_187⟩, ⟨(47, shN (Jvm.ClassFile.Instr.laload)), op_47⟩, ⟨(80, shN (Jvm.ClassFile.Instr.lastore)), op_80⟩, ⟨(101, shN (Jvm.ClassFile.Instr.lsub)), op_101⟩, ⟨(131, shN (Jvm.ClassFile.Instr.lxor)), op_131⟩]
def lkt : List OPE → Nat → Option OPE
  | [], _ => none
  | e :: t, o => bif Nat.beq e.1.1 o then some e else lkt t o
theorem lkt_o : ∀ (l : List OPE) (o : Nat) (e : OPE), lkt l o = some e → e.1.1 = o
  | [], _, _, h => by cases h
  | a :: t, o, e, h => by
    rw [lkt] at h
    cases q : Nat.beq a.1.1 o with
    | true =>
      rw [q] at h
      have h : some a = some e := h
      cases h
      exact Nat.eq_of_beq_eq_true q
    | false =>
      rw [q] at h
      exact lkt_o t o e h
def w1 (cc : ByteArray) (x : UInt8) (r : List UInt8) (p : Nat) (i : INS) (n : Nat) : Bool := match lkt opt x.toNat with
  | none => decide (decode cc p = .ok (i, n))
  | some e => match shd e.1.2 r with
    | none => decide (decode cc p = .ok (i, n))
    | some y => decide (y.1 = i) && Nat.beq (y.2 + 1) n
theorem w1_ok {cc : ByteArray} {x : UInt8} {r : List UInt8} {p n : Nat} {i : INS} (d : cc.data.toList.drop p = x :: r) (h : w1 cc x r p i n = true) : decode cc p = .ok (i, n) := by
  unfold w1 at h
  cases q : lkt opt x.toNat with
  | none =>
    rw [q] at h
    exact of_decide_eq_true h
  | some e =>
    rw [q] at h
    cases q2 : shd e.1.2 r with
    | none =>
      dsimp only at h
      rw [q2] at h
      exact of_decide_eq_true h
    | some y =>
      dsimp only at h
      rw [q2] at h
      obtain ⟨j, k⟩ := y
      have h : (decide (j = i) && Nat.beq (k + 1) n) = true := h
      rw [Bool.and_eq_true] at h
      have e1 : j = i := of_decide_eq_true h.1
      have e2 : k + 1 = n := Nat.eq_of_beq_eq_true h.2
      have u := ra_u1 d
      rw [← lkt_o _ _ _ q] at u
      have z := (e.2 cc p p u).trans (shr_ok (p := p + 1) q2 (dr_next d))
      show Except.bind (Reader.runAt (Decoder.instr p) cc p) _ = _
      rw [z]
      have e3 : p + 1 + k - p = n := by omega
      show Except.ok (j, p + 1 + k - p) = Except.ok (i, n)
      rw [e3, e1]
def wkf (cc : ByteArray) : List UInt8 → Nat → List (Nat × INS × Nat) → Bool
  | _, _, [] => true
  | l, pos, (p, i, n) :: t => match l.drop (p - pos) with
    | [] => false
    | x :: r => w1 cc x r p i n && (Nat.ble pos p && wkf cc (x :: r) p t)
theorem wkf_ok {cc : ByteArray} : ∀ (t : List (Nat × INS × Nat)) (l : List UInt8) (pos : Nat), cc.data.toList.drop pos = l → wkf cc l pos t = true → ∀ q ∈ t, decode cc q.1 = .ok q.2
  | [], _, _, _, _, q, hq => by cases hq
  | (p, i, n) :: t, l, pos, hl, h, q, hq => by
    rw [wkf] at h
    cases hd : l.drop (p - pos) with
    | nil => rw [hd] at h; cases h
    | cons x r =>
      rw [hd] at h
      have h : (w1 cc x r p i n && (Nat.ble pos p && wkf cc (x :: r) p t)) = true := h
      rw [Bool.and_eq_true, Bool.and_eq_true] at h
      obtain ⟨h1, h2, h3⟩ := h
      have hle := Nat.le_of_ble_eq_true h2
      have hp : cc.data.toList.drop p = x :: r := by
        rw [← hd, ← hl, List.drop_drop]
        exact congrArg (fun k => List.drop k cc.data.toList) (by omega)
      rcases List.mem_cons.mp hq with e | hq
      · subst e
        exact w1_ok hp h1
      · exact wkf_ok t _ _ hp h3 q hq
theorem DOK_fast {cc : ByteArray} {d : DT} (h : wkf cc cc.data.toList 0 (List.flatten d) = true) : DOK cc d := DOK_of fun ch hc q hq => wkf_ok (List.flatten d) cc.data.toList 0 rfl h q (List.mem_flatten.mpr ⟨ch, hc, hq⟩)
theorem wk_map {cc : ByteArray} {t : List (Nat × INS × Nat)} (h : wkf cc cc.data.toList 0 t = true) : List.map (decode cc) (t.map fun q => q.1) = t.map fun q => (Except.ok q.2 : Except DecodeError (INS × Nat)) := by
  rw [List.map_map]
  exact List.map_congr_left fun q hq => wkf_ok t cc.data.toList 0 rfl h q hq
