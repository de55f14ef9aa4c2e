/-! one instruction that goes straight on -/
/-- what sort of instruction: it is looked at but once -/
def kls : INS → Nat
  | .iconst _ => 0
  | .bipush _ => 0
  | .sipush _ => 0
  | .lconst _ => 0
  | .aconst_null => 0
  | .ineg => 1
  | .i2b => 1
  | .i2l => 1
  | .l2i => 1
  | .pop => 2
  | .dup => 2
  | .dup2 => 2
  | .getfield _ => 4
  | .putfield _ => 4
  | .iaload => 4
  | .baload => 4
  | .laload => 4
  | .aaload => 4
  | .arraylength => 4
  | .iastore => 4
  | .bastore => 4
  | .lastore => 4
  | .getstatic _ => 4
  | .ldc _ => 4
  | .ldc_w _ => 4
  | .ldc2_w _ => 4
  | .iload _ => 5
  | .iload_n _ => 5
  | .lload _ => 5
  | .lload_n _ => 5
  | .aload _ => 5
  | .aload_n _ => 5
  | .istore _ => 6
  | .istore_n _ => 6
  | .lstore _ => 6
  | .lstore_n _ => 6
  | .astore _ => 6
  | .astore_n _ => 6
  | .iinc _ _ => 7
  | .invokevirtual _ => 7
  | .invokestatic _ => 7
  | .goto _ => 8
  | .ifCond _ _ => 8
  | .if_icmp _ _ => 8
  | .ifnull _ => 8
  | .ifnonnull _ => 8
  | .ireturn => 8
  | .lreturn => 8
  | .areturn => 8
  | .return_ => 8
  | .tableswitch _ _ _ _ => 8
  | _ => 3
def gate {α : Type} (b : Bool) (x : Option α) : Option α := bif b then x else none
theorem gate_ok {α : Type} {b : Bool} {x : Option α} {y : α} (h : gate b x = some y) : x = some y := by
  unfold gate at h
  cases b with
  | true => exact h
  | false => cases h
def opA : INS → Option (Nat × AV)
  | .iconst k => some (1, nrm k k)
  | .bipush k => bif ile (-128) k && ile k 127 then some (2, (0, k, k)) else none
  | .sipush k => bif ile (-32768) k && ile k 32767 then some (3, (0, k, k)) else none
  | .lconst _ => some (1, (3, 0, 0))
  | .aconst_null => some (1, (4, 0, 0))
  | _ => none
def opU : INS → AV → Option AV
  | .ineg, a => bif Nat.beq a.1 0 then some (aneg a) else none
  | .i2b, a => bif Nat.beq a.1 0 then some (ai2b a) else none
  | .i2l, a => bif Nat.beq a.1 0 then some (3, (bif ile 1 a.2.1 then 1 else 0), 0) else none
  | .l2i, a => bif Nat.beq a.1 3 then some itop else none
  | _, _ => none
def opI : INS → AV → AV → Option AV
  | .iadd, a, b => some (aadd a b)
  | .isub, a, b => some (asub a b)
  | .imul, a, b => some (amul a b)
  | .iand, a, b => some (aand a b)
  | .ior, a, b => some (aor a b)
  | .ixor, a, b => some (axor a b)
  | .ishl, a, b => some (ashl a b)
  | .ishr, a, b => some (ashr a b)
  | .iushr, _, _ => some itop
  | .idiv, a, b => bif ile 1 b.2.1 then some (adiv a b) else none
  | .irem, a, b => bif ile 1 b.2.1 then some (arem a b) else none
  | _, _, _ => none
def opL : INS → AV → Option AV
  | .ladd, _ => some (3, 0, 0)
  | .lsub, _ => some (3, 0, 0)
  | .lmul, _ => some (3, 0, 0)
  | .land, _ => some (3, 0, 0)
  | .lor, _ => some (3, 0, 0)
  | .lxor, _ => some (3, 0, 0)
  | .lcmp, _ => some (0, -1, 1)
  | .ldiv, b => bif ile 1 b.2.1 then some (3, 0, 0) else none
  | .lrem, b => bif ile 1 b.2.1 then some (3, 0, 0) else none
  | _, _ => none
def opM : INS → Option AV
  | .lshl => some (3, 0, 0)
  | .lshr => some (3, 0, 0)
  | .lushr => some (3, 0, 0)
  | _ => none
def opB (i : INS) (a b : AV) : Option AV :=
  bif Nat.beq b.1 0 then (bif Nat.beq a.1 0 then opI i a b else bif Nat.beq a.1 3 then opM i else none)
  else bif Nat.beq b.1 3 && Nat.beq a.1 3 then opL i b else none
def opS : INS → SE → List SE → Option (List SE)
  | .pop, b, r => bif Nat.beq b.1.1 3 then none else some r
  | .dup, b, r => bif Nat.beq b.1.1 3 then none else some (b :: b :: r)
  | .dup2, b, r => match r with
    | a :: r2 => bif Nat.beq b.1.1 3 || Nat.beq a.1.1 3 then none else some (b :: a :: b :: a :: r2)
    | [] => none
  | _, _, _ => none
def stpA (i : INS) (st : List SE) : Option (Nat × List SE) := match opA i with
  | some (n, a) => some (n, (a, 0, []) :: st)
  | none => none
def stpU (i : INS) : List SE → Option (Nat × List SE)
  | [] => none
  | b :: r => match opU i b.1 with
    | some x => some (1, (x, 0, []) :: r)
    | none => none
def stpS (i : INS) : List SE → Option (Nat × List SE)
  | [] => none
  | b :: r => match opS i b r with
    | some r' => some (1, r')
    | none => none
def stpB (i : INS) : List SE → Option (Nat × List SE)
  | b :: a :: r2 => match opB i a.1 b.1 with
    | some x => some (1, (x, 0, []) :: r2)
    | none => none
  | _ => none
def stp (k : Nat) (i : INS) (st : List SE) : Option (Nat × List SE) :=
  bif Nat.ble k 3 then (bif Nat.ble k 1 then (bif Nat.beq k 0 then stpA i st else stpU i st) else bif Nat.beq k 2 then stpS i st else stpB i st) else none
theorem lg_cmp_in {g : GG} {Γ : Nat → Nat} (x y : Int64) : avi g Γ (0, -1, 1) (.int (lg_cmp x y)) := by
  unfold lg_cmp
  split
  · exact ⟨rfl, by decide, by decide⟩
  · split
    · exact ⟨rfl, by decide, by decide⟩
    · exact ⟨rfl, by decide, by decide⟩
section
variable {p : Program} {l : Launch} {e : Env} {R : Room} {s : State} {m : MethodId} {args : Array Value} {below : List Frame} {meth : Method} {c : Code} {H : Heap} {locs : List Loc} {cells slots : Nat} {Q : State → Prop}
variable {cc : ByteArray} {pc nL : Nat} {ls : Array Slot} {rest : List Value} {own : String} {g : GG} {ts : TS} {Γ : Nat → Nat} {mods : List (Nat × Nat)} {z : Nat} {E : ENV}
theorem opA_ok (X : CTX p l m meth c cc nL s args own g (AA Γ z)) {i : INS} {n : Nat} {a : AV} (h : opA i = some (n, a)) (hdg : decode cc pc = .ok (i, n)) : ∃ v, avi g Γ a v ∧ (W p l e R s m args below meth c H locs cells slots Q (F0 m (pc + n) ls (v :: rest)) → W p l e R s m args below meth c H locs cells slots Q (F0 m pc ls rest)) := by
  unfold opA at h
  split at h
  · rename_i k
    cases h
    exact ⟨_, nrm_ok (Int.le_refl _) (Int.le_refl _), fun kk => lv_iconst X.1 X.2.1 hdg rfl kk⟩
  · rename_i k
    cases hk : (ile (-128) k && ile k 127) with
    | false => rw [hk] at h; cases h
    | true =>
      rw [hk] at h
      cases h
      obtain ⟨h1, h2⟩ := Bool.and_eq_true_iff.mp hk
      have h1 := ile_ok h1
      have h2 := ile_ok h2
      have e : (Int8.ofInt k).toInt32.toInt = k := by rw [Int8.toInt_toInt32]; exact Int8.toInt_ofInt_of_le (by omega) (by omega)
      exact ⟨.int (Int8.ofInt k).toInt32, ⟨rfl, by rw [e]; exact Int.le_refl _, by rw [e]; exact Int.le_refl _⟩, fun kk => lv_bipush X.1 X.2.1 hdg rfl kk⟩
  · rename_i k
    cases hk : (ile (-32768) k && ile k 32767) with
    | false => rw [hk] at h; cases h
    | true =>
      rw [hk] at h
      cases h
      obtain ⟨h1, h2⟩ := Bool.and_eq_true_iff.mp hk
      have h1 := ile_ok h1
      have h2 := ile_ok h2
      have e : (Int16.ofInt k).toInt32.toInt = k := by rw [Int16.toInt_toInt32]; exact Int16.toInt_ofInt_of_le (by omega) (by omega)
      exact ⟨.int (Int16.ofInt k).toInt32, ⟨rfl, by rw [e]; exact Int.le_refl _, by rw [e]; exact Int.le_refl _⟩, fun kk => lv_sipush X.1 X.2.1 hdg rfl kk⟩
  · rename_i k
    cases h
    exact ⟨.long (Int64.ofNat (k : Nat)), lg0 _, fun kk => lv_lconst X.1 X.2.1 hdg rfl kk⟩
  · cases h
    exact ⟨.null, Or.inr rfl, fun kk => lv_null X.1 X.2.1 hdg kk⟩
  · cases h
theorem opU_ok (X : CTX p l m meth c cc nL s args own g (AA Γ z)) {i : INS} {a b : AV} {v : Value} (hv : avi g Γ a v) (h : opU i a = some b) (hdg : decode cc pc = .ok (i, 1)) : ∃ w, avi g Γ b w ∧ (W p l e R s m args below meth c H locs cells slots Q (F0 m (pc + 1) ls (w :: rest)) → W p l e R s m args below meth c H locs cells slots Q (F0 m pc ls (v :: rest))) := by
  unfold opU at h
  split at h
  · cases hk : Nat.beq a.1 0 with
    | false => rw [hk] at h; cases h
    | true =>
      rw [hk] at h; cases h
      obtain ⟨x, rfl, -⟩ := avi_int hk hv
      exact ⟨_, aneg_ok hv, fun kk => lv_ineg X.1 X.2.1 hdg kk⟩
  · cases hk : Nat.beq a.1 0 with
    | false => rw [hk] at h; cases h
    | true =>
      rw [hk] at h; cases h
      obtain ⟨x, rfl, -⟩ := avi_int hk hv
      exact ⟨_, ai2b_ok hv, fun kk => lv_i2b X.1 X.2.1 hdg rfl kk⟩
  · cases hk : Nat.beq a.1 0 with
    | false => rw [hk] at h; cases h
    | true =>
      rw [hk] at h; cases h
      obtain ⟨x, rfl, -⟩ := avi_int hk hv
      refine ⟨.long x.toInt64, ⟨rfl, fun h1 => ?_⟩, fun kk => lv_i2l X.1 X.2.1 hdg rfl kk⟩
      cases hz : ile 1 a.2.1 with
      | false => rw [hz] at h1; exact absurd h1 (by decide)
      | true =>
        have h2 := ile_ok hz
        intro e
        have h3 : x.toInt64.toInt = x.toInt := Int32.toInt_toInt64 x
        rw [e] at h3
        have h4 : (0 : Int64).toInt = 0 := rfl
        have h5 := hv.2.1
        omega
  · cases hk : Nat.beq a.1 3 with
    | false => rw [hk] at h; cases h
    | true =>
      rw [hk] at h; cases h
      obtain ⟨x, rfl⟩ := avi_long hk hv
      exact ⟨_, avi_top x.toInt32, fun kk => lv_l2i X.1 X.2.1 hdg rfl kk⟩
  · cases h
theorem opI_ok (X : CTX p l m meth c cc nL s args own g (AA Γ z)) {i : INS} {a b d : AV} {x y : Int32} (hx : avi g Γ a (.int x)) (hy : avi g Γ b (.int y)) (h : opI i a b = some d) (hdg : decode cc pc = .ok (i, 1)) : ∃ w, avi g Γ d w ∧ (W p l e R s m args below meth c H locs cells slots Q (F0 m (pc + 1) ls (w :: rest)) → W p l e R s m args below meth c H locs cells slots Q (F0 m pc ls (.int y :: .int x :: rest))) := by
  unfold opI at h
  split at h
  · cases h; exact ⟨_, aadd_ok hx hy, fun kk => lv_iadd X.1 X.2.1 hdg kk⟩
  · cases h; exact ⟨_, asub_ok hx hy, fun kk => lv_isub X.1 X.2.1 hdg kk⟩
  · cases h; exact ⟨_, amul_ok hx hy, fun kk => lv_imul X.1 X.2.1 hdg kk⟩
  · cases h; exact ⟨_, aand_ok hx hy, fun kk => lv_iand X.1 X.2.1 hdg kk⟩
  · cases h; exact ⟨_, aor_ok hx hy, fun kk => lv_ior X.1 X.2.1 hdg kk⟩
  · cases h; exact ⟨_, axor_ok hx hy, fun kk => lv_ixor X.1 X.2.1 hdg kk⟩
  · cases h; exact ⟨_, ashl_ok hx hy, fun kk => lv_ishl X.1 X.2.1 hdg kk⟩
  · cases h; exact ⟨_, ashr_ok hx hy, fun kk => lv_ishr X.1 X.2.1 hdg kk⟩
  · cases h; exact ⟨_, avi_top _, fun kk => lv_iushr X.1 X.2.1 hdg rfl kk⟩
  · cases hk : ile 1 b.2.1 with
    | false => rw [hk] at h; cases h
    | true =>
      rw [hk] at h; cases h
      have h1 := ile_ok hk
      exact ⟨_, adiv_ok hx hy h1, fun kk => lv_idiv X.1 X.2.1 hdg (fun q => by rw [q] at hy; exact absurd (Int.le_trans h1 hy.2.1) (by decide)) kk⟩
  · cases hk : ile 1 b.2.1 with
    | false => rw [hk] at h; cases h
    | true =>
      rw [hk] at h; cases h
      have h1 := ile_ok hk
      exact ⟨_, arem_ok hx hy h1, fun kk => lv_irem X.1 X.2.1 hdg (fun q => by rw [q] at hy; exact absurd (Int.le_trans h1 hy.2.1) (by decide)) kk⟩
  · cases h
theorem opL_ok (X : CTX p l m meth c cc nL s args own g (AA Γ z)) {i : INS} {b d : AV} {x y : Int64} (hy : avi g Γ b (.long y)) (h : opL i b = some d) (hdg : decode cc pc = .ok (i, 1)) : ∃ w, avi g Γ d w ∧ (W p l e R s m args below meth c H locs cells slots Q (F0 m (pc + 1) ls (w :: rest)) → W p l e R s m args below meth c H locs cells slots Q (F0 m pc ls (.long y :: .long x :: rest))) := by
  unfold opL at h
  split at h
  · cases h; exact ⟨.long _, lg0 _, fun kk => lv_ladd X.1 X.2.1 hdg kk⟩
  · cases h; exact ⟨.long _, lg0 _, fun kk => lv_lsub X.1 X.2.1 hdg kk⟩
  · cases h; exact ⟨.long _, lg0 _, fun kk => lv_lmul X.1 X.2.1 hdg kk⟩
  · cases h; exact ⟨.long _, lg0 _, fun kk => lv_land X.1 X.2.1 hdg kk⟩
  · cases h; exact ⟨.long _, lg0 _, fun kk => lv_lor X.1 X.2.1 hdg kk⟩
  · cases h; exact ⟨.long _, lg0 _, fun kk => lv_lxor X.1 X.2.1 hdg kk⟩
  · cases h; exact ⟨_, lg_cmp_in x y, fun kk => W.lcmp X.1 X.2.1 hdg kk⟩
  · cases hk : ile 1 b.2.1 with
    | false => rw [hk] at h; cases h
    | true => rw [hk] at h; cases h; exact ⟨.long _, lg0 _, fun kk => lv_ldiv X.1 X.2.1 hdg (avi_lnz hk hy) kk⟩
  · cases hk : ile 1 b.2.1 with
    | false => rw [hk] at h; cases h
    | true => rw [hk] at h; cases h; exact ⟨.long _, lg0 _, fun kk => lv_lrem X.1 X.2.1 hdg (avi_lnz hk hy) kk⟩
  · cases h
theorem opM_ok (X : CTX p l m meth c cc nL s args own g (AA Γ z)) {i : INS} {d : AV} {x : Int64} {y : Int32} (h : opM i = some d) (hdg : decode cc pc = .ok (i, 1)) : ∃ w, avi g Γ d w ∧ (W p l e R s m args below meth c H locs cells slots Q (F0 m (pc + 1) ls (w :: rest)) → W p l e R s m args below meth c H locs cells slots Q (F0 m pc ls (.int y :: .long x :: rest))) := by
  unfold opM at h
  split at h
  · cases h; exact ⟨.long _, lg0 _, fun kk => lv_lshl X.1 X.2.1 hdg rfl kk⟩
  · cases h; exact ⟨.long _, lg0 _, fun kk => lv_lshr X.1 X.2.1 hdg rfl kk⟩
  · cases h; exact ⟨.long _, lg0 _, fun kk => lv_lushr X.1 X.2.1 hdg rfl kk⟩
  · cases h
theorem opB_ok (X : CTX p l m meth c cc nL s args own g (AA Γ z)) {i : INS} {a b d : AV} {v w : Value} (hv : avi g Γ a v) (hw : avi g Γ b w) (h : opB i a b = some d) (hdg : decode cc pc = .ok (i, 1)) : ∃ u, avi g Γ d u ∧ (W p l e R s m args below meth c H locs cells slots Q (F0 m (pc + 1) ls (u :: rest)) → W p l e R s m args below meth c H locs cells slots Q (F0 m pc ls (w :: v :: rest))) := by
  unfold opB at h
  cases h1 : Nat.beq b.1 0 with
  | true =>
    rw [h1] at h
    obtain ⟨y, rfl, -⟩ := avi_int h1 hw
    cases h2 : Nat.beq a.1 0 with
    | true =>
      rw [h2] at h
      obtain ⟨x, rfl, -⟩ := avi_int h2 hv
      exact opI_ok X hv hw h hdg
    | false =>
      rw [h2] at h
      cases h3 : Nat.beq a.1 3 with
      | true =>
        rw [h3] at h
        obtain ⟨x, rfl⟩ := avi_long h3 hv
        exact opM_ok X h hdg
      | false => rw [h3] at h; cases h
  | false =>
    rw [h1] at h
    cases h2 : (Nat.beq b.1 3 && Nat.beq a.1 3) with
    | true =>
      rw [h2] at h
      obtain ⟨q1, q2⟩ := Bool.and_eq_true_iff.mp h2
      obtain ⟨y, rfl⟩ := avi_long q1 hw
      obtain ⟨x, rfl⟩ := avi_long q2 hv
      exact opL_ok X hw h hdg
    | false => rw [h2] at h; cases h
theorem cat1 {a : AV} {v : Value} (hv : avi g Γ a v) (h : Nat.beq a.1 3 = false) : v.category = 1 := by
  rw [acat_ok hv]; unfold acat; rw [h]; rfl
theorem opS_ok (X : CTX p l m meth c cc nL s args own g (AA Γ z)) {i : INS} {b : SE} {r st' : List SE} {v : Value} {vs : List Value} (hv : sei g Γ E b v) (hr : SR g Γ E r vs) (h : opS i b r = some st') (hdg : decode cc pc = .ok (i, 1)) : ∃ ws, SR g Γ E st' ws ∧ (W p l e R s m args below meth c H locs cells slots Q (F0 m (pc + 1) ls ws) → W p l e R s m args below meth c H locs cells slots Q (F0 m pc ls (v :: vs))) := by
  unfold opS at h
  split at h
  · cases hk : Nat.beq b.1.1 3 with
    | true => rw [hk] at h; cases h
    | false =>
      rw [hk] at h; cases h
      exact ⟨vs, hr, fun kk => lv_pop X.1 X.2.1 hdg (cat1 hv.1 hk) kk⟩
  · cases hk : Nat.beq b.1.1 3 with
    | true => rw [hk] at h; cases h
    | false =>
      rw [hk] at h; cases h
      exact ⟨v :: v :: vs, ⟨hv, hv, hr⟩, fun kk => lv_dup X.1 X.2.1 hdg (cat1 hv.1 hk) kk⟩
  · split at h
    · rename_i a r2
      obtain ⟨w, us, rfl, h1, h2⟩ := hr.two
      cases hk : (Nat.beq b.1.1 3 || Nat.beq a.1.1 3) with
      | true => rw [hk] at h; cases h
      | false =>
        rw [hk] at h; cases h
        obtain ⟨k1, k2⟩ := Bool.or_eq_false_iff.mp hk
        exact ⟨v :: w :: v :: w :: us, ⟨hv, h1, hv, h1, h2⟩, fun kk => lv_dup2_11 X.1 X.2.1 hdg (cat1 hv.1 k1) (cat1 h1.1 k2) kk⟩
    · cases h
  · cases h
theorem stpA_ok (X : CTX p l m meth c cc nL s args own g (AA Γ z)) {i : INS} {st st' : List SE} {n : Nat} {vs : List Value} (hs : SR g Γ E st vs) (h : stpA i st = some (n, st')) (hdg : decode cc pc = .ok (i, n)) : ∃ ws, SR g Γ E st' ws ∧ (W p l e R s m args below meth c H locs cells slots Q (F0 m (pc + n) ls ws) → W p l e R s m args below meth c H locs cells slots Q (F0 m pc ls vs)) := by
  unfold stpA at h
  split at h
  · rename_i n' a ha
    cases h
    obtain ⟨v, h1, h2⟩ := opA_ok (e := e) (R := R) (below := below) (H := H) (locs := locs) (cells := cells) (slots := slots) (Q := Q) (ls := ls) (rest := vs) X ha hdg
    exact ⟨v :: vs, ⟨sei_of h1, hs⟩, h2⟩
  · cases h
theorem stpU_ok (X : CTX p l m meth c cc nL s args own g (AA Γ z)) {i : INS} {st st' : List SE} {n : Nat} {vs : List Value} (hs : SR g Γ E st vs) (h : stpU i st = some (n, st')) (hdg : decode cc pc = .ok (i, n)) : ∃ ws, SR g Γ E st' ws ∧ (W p l e R s m args below meth c H locs cells slots Q (F0 m (pc + n) ls ws) → W p l e R s m args below meth c H locs cells slots Q (F0 m pc ls vs)) := by
  unfold stpU at h
  split at h
  · cases h
  · rename_i b r
    obtain ⟨v, us, rfl, h1, h2⟩ := hs.two
    split at h
    · rename_i x hx
      cases h
      obtain ⟨w, h3, h4⟩ := opU_ok (e := e) (R := R) (below := below) (H := H) (locs := locs) (cells := cells) (slots := slots) (Q := Q) (ls := ls) (rest := us) X h1.1 hx hdg
      exact ⟨w :: us, ⟨sei_of h3, h2⟩, h4⟩
    · cases h
theorem stpS_ok (X : CTX p l m meth c cc nL s args own g (AA Γ z)) {i : INS} {st st' : List SE} {n : Nat} {vs : List Value} (hs : SR g Γ E st vs) (h : stpS i st = some (n, st')) (hdg : decode cc pc = .ok (i, n)) : ∃ ws, SR g Γ E st' ws ∧ (W p l e R s m args below meth c H locs cells slots Q (F0 m (pc + n) ls ws) → W p l e R s m args below meth c H locs cells slots Q (F0 m pc ls vs)) := by
  unfold stpS at h
  split at h
  · cases h
  · rename_i b r
    obtain ⟨v, us, rfl, h1, h2⟩ := hs.two
    split at h
    · rename_i r' hr
      cases h
      exact opS_ok X h1 h2 hr hdg
    · cases h
theorem stpB_ok (X : CTX p l m meth c cc nL s args own g (AA Γ z)) {i : INS} {st st' : List SE} {n : Nat} {vs : List Value} (hs : SR g Γ E st vs) (h : stpB i st = some (n, st')) (hdg : decode cc pc = .ok (i, n)) : ∃ ws, SR g Γ E st' ws ∧ (W p l e R s m args below meth c H locs cells slots Q (F0 m (pc + n) ls ws) → W p l e R s m args below meth c H locs cells slots Q (F0 m pc ls vs)) := by
  unfold stpB at h
  split at h
  · rename_i b a r2
    obtain ⟨v, us, rfl, h1, h2⟩ := hs.two
    obtain ⟨w, us2, rfl, h3, h4⟩ := h2.two
    split at h
    · rename_i x hx
      cases h
      obtain ⟨u, h5, h6⟩ := opB_ok (e := e) (R := R) (below := below) (H := H) (locs := locs) (cells := cells) (slots := slots) (Q := Q) (ls := ls) (rest := us2) X h3.1 h1.1 hx hdg
      exact ⟨u :: us2, ⟨sei_of h5, h4⟩, h6⟩
    · cases h
  · cases h
theorem stp_ok (X : CTX p l m meth c cc nL s args own g (AA Γ z)) {k : Nat} {i : INS} {st st' : List SE} {n : Nat} {vs : List Value} (hs : SR g Γ E st vs) (h : stp k i st = some (n, st')) (hdg : decode cc pc = .ok (i, n)) : ∃ ws, SR g Γ E st' ws ∧ (W p l e R s m args below meth c H locs cells slots Q (F0 m (pc + n) ls ws) → W p l e R s m args below meth c H locs cells slots Q (F0 m pc ls vs)) := by
  unfold stp at h
  cases k3 : Nat.ble k 3 with
  | false => rw [k3] at h; cases h
  | true =>
    rw [k3, cond_true] at h
    cases k1 : Nat.ble k 1 with
    | true =>
      rw [k1, cond_true] at h
      cases k0 : Nat.beq k 0 with
      | true => rw [k0] at h; exact stpA_ok X hs h hdg
      | false => rw [k0] at h; exact stpU_ok X hs h hdg
    | false =>
      rw [k1, cond_false] at h
      cases k2 : Nat.beq k 2 with
      | true => rw [k2] at h; exact stpS_ok X hs h hdg
      | false => rw [k2] at h; exact stpB_ok X hs h hdg
end
