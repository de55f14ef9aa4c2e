/-! the checker and what it proves -/
def tgt (pc : Nat) (off : Int) : Option Nat := match Int.ofNat pc + off with
  | .ofNat t => some t
  | .negSucc _ => none
theorem tgt_ok {pc t : Nat} {off : Int} (h : tgt pc off = some t) : (pc : Int) + off = (t : Int) := by
  unfold tgt at h
  split at h
  · rename_i t' e; cases h; exact e
  · cases h
def cnum : Jvm.ClassFile.Cond → Nat
  | .eq => 0
  | .ne => 1
  | .lt => 2
  | .ge => 3
  | .gt => 4
  | .le => 5
def covo (nd : Nat → NODE) (N id : Nat) (pc : Option Nat) (al : Option (List (Nat × AV))) (st : List SE) (F : MF) : Bool := match pc with
  | none => false
  | some t => match al with
    | none => true
    | some bl => cov nd N id t bl st F
def sz0 : SE := ((0, 0, 0), 0, [])
def br2 (nd : Nat → NODE) (N s0 s1 rel pc : Nat) (off : Int) (al : List (Nat × AV)) (e1 e2 : SE) (r : List SE) (F : MF) : Bool :=
  covo nd N s0 (tgt pc off) (bra rel al e1 e2) r F && covo nd N s1 (some (pc + 3)) (bra (nrel rel) al e1 e2) r F
def setp (al : List (Nat × AV)) (e : SE) (a : AV) : List (Nat × AV) := match e.2.1 with
  | 0 => al
  | i + 1 => seta al i a
/-- null, or not -/
def brn (nd : Nat → NODE) (N sN sR : Nat) (tN tR : Option Nat) (al : List (Nat × AV)) (e : SE) (r : List SE) (F : MF) : Bool :=
  bif Nat.beq e.1.1 1 then covo nd N sR tR (some al) r F
  else bif Nat.beq e.1.1 2 then covo nd N sR tR (some (setp al e (1, e.1.2))) r F && covo nd N sN tN (some (setp al e (4, 0, 0))) r F
  else bif Nat.beq e.1.1 4 then covo nd N sN tN (some al) r F else false
def imd (prot : List (Nat × Nat)) (al : List (Nat × AV)) (e : SE) (q : Int × Int × Nat × AV) : Bool :=
  (Nat.beq e.1.1 0 && (ile (e.1.2.2 + 1) q.1 || ile (q.2.1 + 1) e.1.2.1)) || match lka prot q.2.2.1 with
    | none => false
    | some i => match lka al i with
      | none => false
      | some b => avle b q.2.2.2 || (Nat.beq e.1.1 0 && (Nat.blt i 1000 && ((Nat.beq e.2.1 (i + 1) && avle (ameet b (0, imax q.1 e.1.2.1, imin q.2.1 e.1.2.2)) q.2.2.2) || e.2.2.any fun r => Nat.beq r.2.2.1 i && ((ile r.1 (imax q.1 e.1.2.1) && ile (imin q.2.1 e.1.2.2) r.2.1) && avle (ameet b r.2.2.2) q.2.2.2))))
def retc (sp : SPEC) (prot : List (Nat × Nat)) (al : List (Nat × AV)) (st : List SE) : Bool := match st with
  | [e] => avle e.1 sp.2.2.1 && sp.2.2.2.1.all (imd prot al e)
  | _ => false
def ret1 (rk : Nat) (st : List SE) : Bool := match st with
  | [e] => Nat.beq e.1.1 0 && (Nat.beq rk 0 || (Nat.beq rk 1 && (ile 0 e.1.2.1 && ile e.1.2.2 1)))
  | _ => false
def ret2 (rk : Nat) (st : List SE) : Bool := match st with
  | [e] => Nat.beq rk 2 && Nat.beq e.1.1 3
  | _ => false
def ret4 (rk : Nat) (st : List SE) : Bool := match st with
  | [e] => Nat.beq rk 4 && (Nat.beq e.1.1 1 || (Nat.beq e.1.1 2 || Nat.beq e.1.1 4))
  | _ => false
def tsw (nd : Nat → NODE) (N pc : Nat) (al : List (Nat × AV)) (r : List SE) (F : MF) : List Nat → List Int → Bool
  | _, [] => true
  | [], _ :: _ => false
  | s :: ss, o :: os => covo nd N s (tgt pc o) (some al) r F && tsw nd N pc al r F ss os
def ctl (nd : Nat → NODE) (N : Nat) (sp : SPEC) (rk : Nat) (prot : List (Nat × Nat)) (sc : List Nat) (i : INS) (n pc : Nat) (al : List (Nat × AV)) (st : List SE) (F : MF) : Bool := match i with
  | .goto off => Nat.beq n 3 && covo nd N (sc.getD 0 N) (tgt pc off) (some al) st F
  | .ifCond c off => match st with
    | e :: r => (Nat.beq n 3 && Nat.beq e.1.1 0) && br2 nd N (sc.getD 0 N) (sc.getD 1 N) (cnum c) pc off al e sz0 r F
    | [] => false
  | .if_icmp c off => match st with
    | b :: a :: r => (Nat.beq n 3 && (Nat.beq a.1.1 0 && Nat.beq b.1.1 0)) && br2 nd N (sc.getD 0 N) (sc.getD 1 N) (cnum c) pc off al a b r F
    | _ => false
  | .ifnull off => match st with
    | e :: r => Nat.beq n 3 && brn nd N (sc.getD 0 N) (sc.getD 1 N) (tgt pc off) (some (pc + 3)) al e r F
    | [] => false
  | .ifnonnull off => match st with
    | e :: r => Nat.beq n 3 && brn nd N (sc.getD 1 N) (sc.getD 0 N) (some (pc + 3)) (tgt pc off) al e r F
    | [] => false
  | .ireturn => Nat.beq n 1 && (ret1 rk st && retc sp prot al st)
  | .lreturn => Nat.beq n 1 && (ret2 rk st && retc sp prot al st)
  | .areturn => Nat.beq n 1 && (ret4 rk st && retc sp prot al st)
  | .return_ => Nat.beq n 1 && (Nat.beq rk 3 && (Nat.beq sp.2.2.1.1 7 && st.isEmpty))
  | .tableswitch d lo hi offs => match st with
    | e :: r => (Nat.beq e.1.1 0 && (ile (hi - lo + 1) (.ofNat offs.size))) && tsw nd N pc al r F sc (d :: offs.toList)
    | [] => false
  | _ => false
def ldo : INS → Option (Nat × Nat × Nat)
  | .iload j => some (2, j, 0)
  | .iload_n k => some (1, k.val, 0)
  | .lload j => some (2, j, 1)
  | .lload_n k => some (1, k.val, 1)
  | .aload j => some (2, j, 2)
  | .aload_n k => some (1, k.val, 2)
  | _ => none
def soo : INS → Option (Nat × Nat × Nat)
  | .istore j => some (2, j, 0)
  | .istore_n k => some (1, k.val, 0)
  | .lstore j => some (2, j, 1)
  | .lstore_n k => some (1, k.val, 1)
  | .astore j => some (2, j, 2)
  | .astore_n k => some (1, k.val, 2)
  | _ => none
def kdo (kd : Nat) (a : AV) : Bool := match kd with
  | 0 => Nat.beq a.1 0
  | 1 => Nat.beq a.1 3
  | _ => Nat.beq a.1 1 || (Nat.beq a.1 2 || Nat.beq a.1 4 || (Nat.beq a.1 5 || Nat.beq a.1 6))
/-- the measure when a local (or two) is overwritten -/
def fkl (al : List (Nat × AV)) (j k : Nat) : List (Nat × Int) → Option (Int × List (Nat × Int))
  | [] => some (0, [])
  | (i, c) :: r => match fkl al j k r with
    | none => none
    | some (d, l) => match lka al i with
      | none => none
      | some a => bif Nat.blt i 1000 && Nat.beq a.1 0 then (bif Nat.beq i j || Nat.beq i k then some (d + (bif ile 0 c then c * a.2.1 else c * a.2.2), l) else some (d, (i, c) :: l)) else none
def cfs (j : Nat) : List (Nat × Int) → Int
  | [] => 0
  | (i, c) :: r => (bif Nat.beq i j then c else 0) + cfs j r
def fok (al : List (Nat × AV)) (l : List (Nat × Int)) : Bool := l.all fun q => match lka al q.1 with
  | none => false
  | some a => Nat.blt q.1 1000 && Nat.beq a.1 0
def finc (al : List (Nat × AV)) (a : AV) (j : Nat) (d : Int) (F : MF) : Option MF :=
  bif fok al F.2 then (bif ile (-2147483648) (a.2.1 + d) && ile (a.2.2 + d) 2147483647 then some (F.1 - cfs j F.2 * d, F.2) else bif F.2.all (fun q => !(Nat.beq q.1 j)) then some F else none) else none
def npr (prot : List (Nat × Nat)) (j : Nat) : Bool := prot.all fun q => !(Nat.beq q.2 j)
abbrev CAL : Type := List (Nat × Nat × Nat × Nat × SPEC)
def rcv (ts : TS) (ci : Nat) : List SE → Bool
  | e :: _ => Nat.beq e.1.1 1 && match ts.1 e.1.2.1.toNat with
    | .inl (c2, _) => Nat.beq c2 ci
    | .inr _ => false
  | [] => false
def clg (ts : TS) (sp : SPEC) (isV : Bool) (x kd idx ci : Nat) (sq : SPEC) (as r : List SE) : Bool :=
  (Nat.beq idx x && (bif isV then Nat.beq kd 0 else (Nat.ble 1 kd && Nat.ble kd 5))) && (ach as sq.2.1 && (Nat.ble (sq.1 + 1) sp.1 && ((sq.2.2.2.2.1.all fun q => md sp.2.2.2.2.1 q.1 q.2) && (Nat.ble (r.map fun e => acat e.1).sum 8 && (bif isV then rcv ts ci as else true)))))
/-- a callee's followed place, as the caller has it -/
def mkey (prot : List (Nat × Nat)) (as : List SE) (key : Nat) : Option Nat := match fkd (tgo key) with
  | 1 => match as[tgo key - 300]? with
    | none => none
    | some e => match e.2.1 with
      | 0 => none
      | l + 1 => bif Nat.blt l 1000 then match lkb prot l with
          | none => none
          | some j => bif Nat.blt j 50 then some (fkey (300 + j) (plo key)) else none
        else none
  | _ => some key
def pfok (al : List (Nat × AV)) (prot : List (Nat × Nat)) (as : List SE) (pf : List (Nat × AV)) : Bool := pf.all fun q => match mkey prot as q.1 with
  | none => false
  | some k => Nat.ble 1000 k && match lka al k with
    | none => false
    | some b => avle b q.2
def clst (ts : TS) (cal : CAL) (sp : SPEC) (prot : List (Nat × Nat)) (isV : Bool) (x : Nat) (al : List (Nat × AV)) (st : List SE) (h : Nat) : Option (List (Nat × AV) × List SE) := match cal[h]? with
  | none => none
  | some (kd, idx, na, ci, sq) => match tk (bif Nat.beq kd 0 then na + 1 else na) st with
    | none => none
    | some (as, r) => bif clg ts sp isV x kd idx ci sq as r && pfok al prot as sq.2.2.2.2.2 then some (dro ts sq.2.2.2.2.1 al, (bif Nat.beq sq.2.2.1.1 7 then clrf r else (sq.2.2.1, 0, imt as sq.2.2.2.1) :: clrf r)) else none
def run (nd : Nat → NODE) (N : Nat) (dt : DT) (ts : TS) (fl : FLT) (gs : List (Nat × Nat)) (kc : List (Nat × Int)) (kl : List Nat) (cal : CAL) (sp : SPEC) (rk nL : Nat) (prot : List (Nat × Nat)) (sc : List Nat) : Nat → Nat → List (Nat × AV) → List SE → MF → List Nat → Bool
  | 0, pc, al, st, F, _ => cov nd N (sc.getD 0 N) pc al st F
  | k + 1, pc, al, st, F, hs => match dlk dt pc with
    | none => false
    | some (i, n) => match stp (kls i) i st with
      | some (n', st') => Nat.beq n n' && run nd N dt ts fl gs kc kl cal sp rk nL prot sc k (pc + n) al st' F hs
      | none => match gate (Nat.beq (kls i) 4) (hst ts fl gs kc kl sp.2.2.2.2.1 prot i al st) with
        | some (n', al', st') => Nat.beq n n' && run nd N dt ts fl gs kc kl cal sp rk nL prot sc k (pc + n) al' st' F hs
        | none => match gate (Nat.beq (kls i) 5) (ldo i) with
          | some (n', j, kd) => match lka al j with
            | none => false
            | some a => (Nat.beq n n' && (Nat.blt j 1000 && kdo kd a)) && run nd N dt ts fl gs kc kl cal sp rk nL prot sc k (pc + n) al ((a, j + 1, []) :: st) F hs
          | none => match gate (Nat.beq (kls i) 6) (soo i) with
            | some (n', j, kd) => match st with
              | [] => false
              | e :: r => match fkl al j (bif Nat.beq kd 1 then j + 1 else j) F.2 with
                | none => false
                | some (d, l) => ((Nat.beq n n' && kdo kd e.1) && (npr prot j && (npr prot (bif Nat.beq kd 1 then j + 1 else j) && (Nat.blt (bif Nat.beq kd 1 then j + 1 else j) nL && Nat.blt j 1000)))) && run nd N dt ts fl gs kc kl cal sp rk nL prot sc k (pc + n) (bif Nat.beq kd 1 then sto2 al j e.1 else sto al j e.1) (clr r) (F.1 + d, l) hs
            | none => match i with
              | .iinc j d => match lka al j with
                | none => false
                | some a => match finc al a j d F with
                  | none => false
                  | some F' => ((Nat.beq n 3 && Nat.beq a.1 0) && (npr prot j && (Nat.blt j nL && Nat.blt j 1000))) && run nd N dt ts fl gs kc kl cal sp rk nL prot sc k (pc + n) (sto al j (nrm (a.2.1 + d) (a.2.2 + d))) (clr st) F' hs
              | .invokevirtual x => match hs with
                | [] => false
                | h :: hs' => match clst ts cal sp prot true x al st h with
                  | none => false
                  | some (al', st') => Nat.beq n 3 && run nd N dt ts fl gs kc kl cal sp rk nL prot sc k (pc + n) al' st' F hs'
              | .invokestatic x => match hs with
                | [] => false
                | h :: hs' => match clst ts cal sp prot false x al st h with
                  | none => false
                  | some (al', st') => Nat.beq n 3 && run nd N dt ts fl gs kc kl cal sp rk nL prot sc k (pc + n) al' st' F hs'
              | _ => Nat.beq k 0 && ctl nd N sp rk prot sc i n pc al st F
def st0 (l : List AV) : List SE := l.map fun a => (a, 0, [])
/-- a local's bounds are split among what follows -/
def spl (nd : Nat → NODE) (N pc j : Nat) (al : List (Nat × AV)) (st : List SE) (F : MF) (hi : Int) : Int → List Nat → Bool
  | lo, [] => ile (hi + 1) lo
  | lo, s :: ss => match lka (nd s).2.1 j with
    | none => false
    | some a => cov nd N s pc (seta al j (0, lo, a.2.2)) st F && spl nd N pc j al st F hi (a.2.2 + 1) ss
def chk (nd : Nat → NODE) (N : Nat) (dt : DT) (ts : TS) (fl : FLT) (gs : List (Nat × Nat)) (kc : List (Nat × Int)) (kl : List Nat) (cal : CAL) (sp : SPEC) (rk nL : Nat) (prot : List (Nat × Nat)) (id : Nat) : Bool := match nd id with
  | (pc, al, st, F, len, hs, sc, sl) => match sl with
    | 0 => run nd N dt ts fl gs kc kl cal sp rk nL prot sc len pc al (st0 st) F hs
    | j + 1 => match lka al j with
      | none => false
      | some a => (Nat.beq a.1 0 && Nat.blt j 1000) && spl nd N pc j al (st0 st) F a.2.2 a.2.1 sc
