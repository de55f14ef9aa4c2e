/-! the checker's soundness -/
def KP (vl wl : List (Nat × Value)) (j k : Nat) : Prop := ∀ i w, i ≠ j → i ≠ k → w.category = 1 → lka vl i = some w → lka wl i = some w
theorem KP.sto {vl : List (Nat × Value)} {j : Nat} {v : Value} : KP vl ((j, v) :: vl.filter (fun q => !(q.1 == j) && !(q.1 + 1 == j && q.2.category == 2))) j j := by
  intro i w hi _ hc hw
  rw [lka, beq_ne hi]
  refine lka_filt ?_ hw
  have h1 : (i == j) = false := by simpa using hi
  have h2 : (w.category == 2) = false := by rw [hc]; rfl
  simp [h1, h2]
theorem KP.sto2 {vl : List (Nat × Value)} {j : Nat} {v : Value} : KP vl ((j, v) :: vl.filter (fun q => !(q.1 == j) && (!(q.1 == j + 1) && !(q.1 + 1 == j && q.2.category == 2)))) j (j + 1) := by
  intro i w hi hi2 hc hw
  rw [lka, beq_ne hi]
  refine lka_filt ?_ hw
  have h1 : (i == j) = false := by simpa using hi
  have h3 : (i == j + 1) = false := by simpa using hi2
  have h2 : (w.category == 2) = false := by rw [hc]; rfl
  simp [h1, h2, h3]
theorem npr_ok {prot : List (Nat × Nat)} {j : Nat} (h : npr prot j = true) : ∀ q ∈ prot, q.2 ≠ j := by
  intro q hq e
  have h1 := List.all_eq_true.mp h q hq
  rw [e, show Nat.beq j j = true from Nat.beq_refl j] at h1
  cases h1
theorem PV.keep {As : List Value} {prot : List (Nat × Nat)} {vl wl : List (Nat × Value)} {j k : Nat} (h : PV As prot vl) (hk : KP vl wl j k) (h1 : npr prot j = true) (h2 : npr prot k = true) : PV As prot wl := by
  intro q hq
  obtain ⟨w, e1, e2, e3⟩ := h q hq
  exact ⟨w, e1, hk q.2 w (npr_ok h1 q hq) (npr_ok h2 q hq) e3 e2, e3⟩
theorem fkl_ok {g : GG} {Γ : Nat → Nat} {al : List (Nat × AV)} {vl wl fl : List (Nat × Value)} {j k : Nat} (hL : LR g Γ al (NV vl fl)) (hk : KP vl wl j k) : ∀ {l l' : List (Nat × Int)} {d : Int}, fkl al j k l = some (d, l') → d + fv wl l' ≤ fv vl l
  | [], l', d, e => by cases e; exact Int.le_refl _
  | (i, c) :: r, l', d, e => by
    rw [fkl] at e
    split at e
    · cases e
    · rename_i d1 l1 h1
      have ih := fkl_ok hL hk (l := r) h1
      split at e
      · cases e
      · rename_i a ha
        cases h0 : (Nat.blt i 1000 && Nat.beq a.1 0) with
        | false => rw [h0] at e; cases e
        | true =>
          rw [h0] at e
          obtain ⟨x, hx, e2, e3, e4⟩ := LR_lval hL ha h0
          cases hq : (Nat.beq i j || Nat.beq i k) with
          | true =>
            rw [hq] at e
            cases e
            have := coef_ge (c := c) e3 e4
            show _ + fv wl _ ≤ c * lval vl i + fv vl r
            rw [e2]
            generalize (bif ile 0 c then c * a.2.1 else c * a.2.2) = u at this ⊢
            omega
          | false =>
            rw [hq] at e
            cases e
            obtain ⟨q1, q2⟩ := Bool.or_eq_false_iff.mp hq
            have hw := hk i (.int x) (Nat.ne_of_beq_eq_false q1) (Nat.ne_of_beq_eq_false q2) rfl hx
            have e5 : lval wl i = x.toInt := by unfold lval; rw [hw]
            show d + (c * lval wl i + fv wl l1) ≤ c * lval vl i + fv vl r
            rw [e2, e5]
            omega
theorem fv_inc {g : GG} {Γ : Nat → Nat} {al : List (Nat × AV)} {vl wl fl : List (Nat × Value)} {j : Nat} {d : Int} (hL : LR g Γ al (NV vl fl)) (hk : KP vl wl j j) (hj : lval wl j = lval vl j + d) : ∀ {l : List (Nat × Int)}, fok al l = true → fv wl l = fv vl l + cfs j l * d
  | [], _ => by show (0 : Int) = 0 + 0 * d; omega
  | (i, c) :: r, e => by
    obtain ⟨e1, e2⟩ := Bool.and_eq_true_iff.mp (show ((match lka al i with | none => false | some a => Nat.blt i 1000 && Nat.beq a.1 0) && fok al r) = true from e)
    have ih := fv_inc hL hk hj (l := r) e2
    split at e1
    · cases e1
    · rename_i a ha
      obtain ⟨x, hx, f2, -⟩ := LR_lval hL ha e1
      show c * lval wl i + fv wl r = (c * lval vl i + fv vl r) + ((bif Nat.beq i j then c else 0) + cfs j r) * d
      rw [ih]
      cases hq : Nat.beq i j with
      | true =>
        have e := Nat.eq_of_beq_eq_true hq
        subst e
        rw [hj]
        show c * (lval vl i + d) + _ = _ + (c + cfs i r) * d
        rw [Int.mul_add, Int.add_mul]; omega
      | false =>
        have hw := hk i (.int x) (Nat.ne_of_beq_eq_false hq) (Nat.ne_of_beq_eq_false hq) rfl hx
        have e5 : lval wl i = lval vl i := by rw [f2]; unfold lval; rw [hw]
        rw [e5]
        show _ = _ + (0 + cfs j r) * d
        rw [Int.zero_add]; omega
theorem fv_keep {g : GG} {Γ : Nat → Nat} {al : List (Nat × AV)} {vl wl fl : List (Nat × Value)} {j : Nat} (hL : LR g Γ al (NV vl fl)) (hk : KP vl wl j j) : ∀ {l : List (Nat × Int)}, fok al l = true → l.all (fun q => !(Nat.beq q.1 j)) = true → fv wl l = fv vl l
  | [], _, _ => rfl
  | (i, c) :: r, e, h => by
    obtain ⟨e1, e2⟩ := Bool.and_eq_true_iff.mp (show ((match lka al i with | none => false | some a => Nat.blt i 1000 && Nat.beq a.1 0) && fok al r) = true from e)
    obtain ⟨h1, h2⟩ := Bool.and_eq_true_iff.mp (show ((!(Nat.beq i j)) && r.all (fun q => !(Nat.beq q.1 j))) = true from h)
    have ih := fv_keep hL hk (l := r) e2 h2
    split at e1
    · cases e1
    · rename_i a ha
      obtain ⟨x, hx, f2, -⟩ := LR_lval hL ha e1
      cases hq : Nat.beq i j with
      | true => rw [hq] at h1; cases h1
      | false =>
        have hw := hk i (.int x) (Nat.ne_of_beq_eq_false hq) (Nat.ne_of_beq_eq_false hq) rfl hx
        have e5 : lval wl i = lval vl i := by rw [f2]; unfold lval; rw [hw]
        show c * lval wl i + fv wl r = c * lval vl i + fv vl r
        rw [e5, ih]
theorem st0_ok {g : GG} {Γ : Nat → Nat} {E E' : ENV} : ∀ {st : List SE} {l : List AV} {vs : List Value}, SR g Γ E st vs → ach st l = true → SR g Γ E' (st0 l) vs
  | [], [], [], _, _ => trivial
  | e :: r, a :: s, v :: w, h, q => by
    obtain ⟨q1, q2⟩ := Bool.and_eq_true_iff.mp q
    exact ⟨sei_of (avle_ok q1 h.1.1), st0_ok h.2 q2⟩
  | [], _ :: _, _, _, q => by cases q
  | _ :: _, [], _, _, q => by cases q
  | [], [], _ :: _, h, _ => h.elim
  | _ :: _, _ :: _, [], h, _ => h.elim
theorem rel_i32 {c : Jvm.ClassFile.Cond} {x y : Int32} : RLN (cnum c) x.toInt y.toInt ↔ (match c with
    | .eq => x = y
    | .ne => ¬ x = y
    | .lt => x < y
    | .ge => y ≤ x
    | .gt => y < x
    | .le => x ≤ y) := by
  cases c
  · exact Int32.toInt_inj
  · exact not_congr Int32.toInt_inj
  · exact Int32.lt_iff_toInt_lt.symm
  · exact Int32.le_iff_toInt_le.symm
  · exact Int32.lt_iff_toInt_lt.symm
  · exact Int32.le_iff_toInt_le.symm
section
variable {p : Program} {l : Launch} {e : Env} {R : Room} {s : State} {m : MethodId} {args : Array Value} {below : List Frame} {meth : Method} {c : Code} {H : Heap} {locs : List Loc} {Q : State → Prop}
variable {cc : ByteArray} {pc nL : Nat} {ls : Array Slot} {rest : List Value} {own : String} {g : GG} {ts : TS} {Γ : Nat → Nat} {vl fl : List (Nat × Value)} {st : List SE} {vs : List Value} {al : List (Nat × AV)} {F : MF}
variable {cells slots : Nat}
theorem if_row (hexec : p.tables.exec = Jvm.exec) (hb : c.code = cc) {k : Jvm.ClassFile.Cond} {x : Int32} {off : Int} {t : Nat} (hdg : decode cc pc = .ok (.ifCond k off, 3)) (ht : (pc : Int) + off = (t : Int))
    (kt : RLN (cnum k) x.toInt (0 : Int32).toInt → W p l e R s m args below meth c H locs cells slots Q (F0 m t ls rest)) (kf : ¬ RLN (cnum k) x.toInt (0 : Int32).toInt → W p l e R s m args below meth c H locs cells slots Q (F0 m (pc + 3) ls rest)) : W p l e R s m args below meth c H locs cells slots Q (F0 m pc ls (.int x :: rest)) := by
  rw [rel_i32] at kt kf
  cases k
  · exact lv_if_eq hexec hb hdg ht kt kf
  · exact lv_if_ne hexec hb hdg ht kt (fun h => kf (fun z => z h))
  · exact lv_if_lt hexec hb hdg ht kt kf
  · exact lv_if_ge hexec hb hdg ht kt kf
  · exact lv_if_gt hexec hb hdg ht kt kf
  · exact lv_if_le hexec hb hdg ht kt kf
theorem icmp_row (hexec : p.tables.exec = Jvm.exec) (hb : c.code = cc) {k : Jvm.ClassFile.Cond} {x y : Int32} {off : Int} {t : Nat} (hdg : decode cc pc = .ok (.if_icmp k off, 3)) (ht : (pc : Int) + off = (t : Int))
    (kt : RLN (cnum k) x.toInt y.toInt → W p l e R s m args below meth c H locs cells slots Q (F0 m t ls rest)) (kf : ¬ RLN (cnum k) x.toInt y.toInt → W p l e R s m args below meth c H locs cells slots Q (F0 m (pc + 3) ls rest)) : W p l e R s m args below meth c H locs cells slots Q (F0 m pc ls (.int y :: .int x :: rest)) := by
  rw [rel_i32] at kt kf
  cases k
  · exact lv_icmp_eq hexec hb hdg ht kt kf
  · exact lv_icmp_ne hexec hb hdg ht kt (fun h => kf (fun z => z h))
  · exact lv_icmp_lt hexec hb hdg ht kt kf
  · exact lv_icmp_ge hexec hb hdg ht kt kf
  · exact lv_icmp_gt hexec hb hdg ht kt kf
  · exact lv_icmp_le hexec hb hdg ht kt kf
variable {nd : Nat → NODE} {N : Nat} {flt : FLT} {gs : List (Nat × Nat)} {kc : List (Nat × Int)} {kl : List Nat} {cal : CAL} {sp : SPEC} {rk : Nat} {prot : List (Nat × Nat)} {As : List Value} {m0 : Int}
/-- what is known of all nodes, under a measure -/
def IHT (p : Program) (l : Launch) (e : Env) (R : Room) (s : State) (m : MethodId) (args : Array Value) (below : List Frame) (meth : Method) (c : Code) (Q : State → Prop) (nL : Nat) (g : GG) (ts : TS) (Γ : Nat → Nat) (nd : Nat → NODE) (N : Nat) (sp : SPEC) (prot : List (Nat × Nat)) (As : List Value) (m0 : Int) : Prop :=
  ∀ id : Nat, id < N → ∀ (ls : Array Slot) (vs : List Value) (vl fl : List (Nat × Value)) (H : Heap) (locs : List Loc), lv_has ls nL vl → STT g ts Γ As sp.2.2.2.2.1 s vl fl (nd id).2.1 (st0 (nd id).2.2.1) vs H locs → PV As prot vl → 0 ≤ mv vl (nd id).2.2.2.1 → mv vl (nd id).2.2.2.1 < m0 → W p l e R s m args below meth c H locs 0 0 Q (F0 m (nd id).1 ls vs)
theorem cov_ok
    (IH : IHT p l e R s m args below meth c Q nL g ts Γ nd N sp prot As m0)
    {id : Nat} (h : cov nd N id pc al st F = true) (hl : lv_has ls nL vl) (hS : STT g ts Γ As sp.2.2.2.2.1 s vl fl al st vs H locs) (hP : PV As prot vl) (hm : mv vl F ≤ m0) : W p l e R s m args below meth c H locs 0 0 Q (F0 m pc ls vs) := by
  obtain ⟨hL, hS, hT, hK, hI⟩ := hS
  obtain ⟨h1, h2⟩ := Bool.and_eq_true_iff.mp (show (Nat.blt id N && (Nat.beq pc (nd id).1 && (leal al (nd id).2.1 && (ach st (nd id).2.2.1 && mlt al (nd id).2.2.2.1 F)))) = true from h)
  obtain ⟨h2, h3⟩ := Bool.and_eq_true_iff.mp h2
  obtain ⟨h3, h4⟩ := Bool.and_eq_true_iff.mp h3
  obtain ⟨h4, h5⟩ := Bool.and_eq_true_iff.mp h4
  have hid : id < N := Nat.le_of_ble_eq_true h1
  have hpc := Nat.eq_of_beq_eq_true h2
  obtain ⟨m1, m2⟩ := mlt_ok hL h5
  rw [hpc]
  exact IH id hid ls vs vl fl H locs hl ⟨LR_leal hL h3, st0_ok hS h4, hT, hK, hI⟩ hP m2 (Int.lt_of_lt_of_le m1 hm)
theorem covo_ok
    (IH : IHT p l e R s m args below meth c Q nL g ts Γ nd N sp prot As m0)
    {id : Nat} {o : Option Nat} {bl : Option (List (Nat × AV))} (h : covo nd N id o bl st F = true) (hl : lv_has ls nL vl) (hS : SR g Γ (NV vl fl) st vs) (hT : FT g ts Γ As fl H) (hK : FK fl) (hP : PV As prot vl) (hI : HI g ts Γ sp.2.2.2.2.1 s H locs) (hm : mv vl F ≤ m0) : ∃ t, o = some t ∧ ((∃ al, bl = some al ∧ LR g Γ al (NV vl fl)) → W p l e R s m args below meth c H locs 0 0 Q (F0 m t ls vs)) := by
  unfold covo at h
  split at h
  · cases h
  · rename_i t
    refine ⟨t, rfl, fun ⟨al, e, hL⟩ => ?_⟩
    subst e
    exact cov_ok IH h hl ⟨hL, hS, hT, hK, hI⟩ hP hm
theorem sz0_ok {E : ENV} : sei g Γ E sz0 (.int 0) := sei_of ⟨rfl, by decide, by decide⟩
theorem ctl_ok (X : CTX p l m meth c cc nL s args own g (AA Γ s.heap.size)) {r : Option FieldType} (hQ : MQ below (SQ g ts Γ sp As) args s 0 0 (fun q => Γ q ≠ 0) = Q) (hr : meth.sig.returnType = r) (hrt : RTY rk r)
    (IH : IHT p l e R s m args below meth c Q nL g ts Γ nd N sp prot As m0)
    {i : INS} {n : Nat} {sc : List Nat} (hdg : decode cc pc = .ok (i, n)) (h : ctl nd N sp rk prot sc i n pc al st F = true) (hl : lv_has ls nL vl) (hST : STT g ts Γ As sp.2.2.2.2.1 s vl fl al st vs H locs) (hP : PV As prot vl) (hPlt : ∀ q ∈ prot, q.2 < 1000) (hm : mv vl F ≤ m0) : W p l e R s m args below meth c H locs 0 0 Q (F0 m pc ls vs) := by
  obtain ⟨hL, hS, hT, hK, hI⟩ := hST
  have retv : ∀ {e1 : SE} {v : Value}, sei g Γ (NV vl fl) e1 v → retc sp prot al [e1] = true → RO g Γ sp As (some v) := by
    intro e1 v hv hh
    obtain ⟨h1, h2⟩ := Bool.and_eq_true_iff.mp (show (avle e1.1 sp.2.2.1 && sp.2.2.2.1.all (imd prot al e1)) = true from hh)
    refine ⟨avle_ok h1 hv.1, fun q hq x hx hlo hhi => ?_⟩
    have h3 := List.all_eq_true.mp h2 q hq
    unfold imd at h3
    subst hx
    rcases Bool.or_eq_true_iff.mp h3 with h3 | h3
    · obtain ⟨-, h4⟩ := Bool.and_eq_true_iff.mp h3
      have hv1 := hv.1
      obtain ⟨-, v1, v2⟩ := hv1
      rcases Bool.or_eq_true_iff.mp h4 with h4 | h4
      · have := ile_ok h4; omega
      · have := ile_ok h4; omega
    · split at h3
      · cases h3
      · rename_i j hj
        split at h3
        · cases h3
        · rename_i b hb
          obtain ⟨k, hk⟩ := lka_mem hj
          obtain ⟨w, e1', e2', -⟩ := hP _ (List.mem_of_getElem? hk)
          obtain ⟨v, hv3, hv4⟩ := hL.look hb
          have e2' : lka vl j = some w := e2'
          rcases Bool.or_eq_true_iff.mp h3 with h3 | h3
          · by_cases hj1 : j < 1000
            · rw [NV_lt hj1, e2'] at hv3
              cases hv3
              exact ⟨w, e1', avle_ok h3 hv4⟩
            · rw [NV_ge (by omega)] at hv3
              exact absurd (hPlt _ (List.mem_of_getElem? hk)) (by dsimp only; omega)
          · obtain ⟨z0, h3⟩ := Bool.and_eq_true_iff.mp h3
            obtain ⟨hj1, h3⟩ := Bool.and_eq_true_iff.mp h3
            have hj1 := blt_lt hj1
            rw [NV_lt hj1, e2'] at hv3
            cases hv3
            have hx0 := hv.1
            obtain ⟨-, x1, x2⟩ := hx0
            rcases Bool.or_eq_true_iff.mp h3 with h3 | h3
            · obtain ⟨n1, n2⟩ := Bool.and_eq_true_iff.mp h3
              have n1 := Nat.eq_of_beq_eq_true n1
              have ew : w = .int x := by
                rcases hv.2.1 with z | z
                · rw [n1] at z; cases z
                · rw [n1, Nat.add_sub_cancel, NV_lt hj1, e2'] at z
                  exact Option.some.inj z
              subst ew
              exact ⟨_, e1', avle_ok n2 (ameet_ok hv4 (show avi g Γ (0, imax q.1 e1.1.2.1, imin q.2.1 e1.1.2.2) (.int x) from ⟨rfl, imax_u hlo x1, imin_l hhi x2⟩))⟩
            · obtain ⟨r', hr1, hr2⟩ := List.any_eq_true.mp h3
              obtain ⟨n1, n2⟩ := Bool.and_eq_true_iff.mp hr2
              obtain ⟨n2, n3⟩ := Bool.and_eq_true_iff.mp n2
              obtain ⟨n4, n5⟩ := Bool.and_eq_true_iff.mp n2
              have n1 := Nat.eq_of_beq_eq_true n1
              obtain ⟨w', f1, f2⟩ := hv.2.2 r' hr1 x rfl (Int.le_trans (ile_ok n4) (imax_u hlo x1)) (Int.le_trans (imin_l hhi x2) (ile_ok n5))
              rw [n1, NV_lt hj1, e2'] at f1
              cases f1
              exact ⟨w, e1', avle_ok n3 (ameet_ok hv4 f2)⟩
  unfold ctl at h
  split at h
  · obtain ⟨h1, h2⟩ := Bool.and_eq_true_iff.mp h
    have h1 := Nat.eq_of_beq_eq_true h1
    subst h1
    obtain ⟨t, ht, k⟩ := covo_ok IH h2 hl hS hT hK hP hI hm
    exact lv_goto X.1 X.2.1 hdg (tgt_ok ht) (k ⟨al, rfl, hL⟩)
  · split at h
    · rename_i b r'
      obtain ⟨h1, h2⟩ := Bool.and_eq_true_iff.mp h
      obtain ⟨h0, h1⟩ := Bool.and_eq_true_iff.mp h1
      have h0 := Nat.eq_of_beq_eq_true h0
      subst h0
      obtain ⟨v, us, rfl, s1, s2⟩ := hS.two
      obtain ⟨x, rfl, -⟩ := avi_int h1 s1.1
      obtain ⟨c1, c2⟩ := Bool.and_eq_true_iff.mp h2
      obtain ⟨t, ht, k⟩ := covo_ok IH c1 hl s2 hT hK hP hI hm
      obtain ⟨t2, ht2, k2⟩ := covo_ok IH c2 hl s2 hT hK hP hI hm
      cases ht2
      refine if_row X.1 X.2.1 hdg (tgt_ok ht) (fun hh => k ?_) (fun hh => k2 ?_)
      · exact bra_ok hL s1 sz0_ok hh
      · exact bra_ok hL s1 sz0_ok (nrel_ok hh)
    · cases h
  · split at h
    · rename_i b a r'
      obtain ⟨h1, h2⟩ := Bool.and_eq_true_iff.mp h
      obtain ⟨h0, h1⟩ := Bool.and_eq_true_iff.mp h1
      obtain ⟨ha, hb⟩ := Bool.and_eq_true_iff.mp h1
      have h0 := Nat.eq_of_beq_eq_true h0
      subst h0
      obtain ⟨v, us, rfl, s1, s2⟩ := hS.two
      obtain ⟨w, us, rfl, s3, s4⟩ := s2.two
      obtain ⟨y, rfl, -⟩ := avi_int hb s1.1
      obtain ⟨x, rfl, -⟩ := avi_int ha s3.1
      obtain ⟨c1, c2⟩ := Bool.and_eq_true_iff.mp h2
      obtain ⟨t, ht, k⟩ := covo_ok IH c1 hl s4 hT hK hP hI hm
      obtain ⟨t2, ht2, k2⟩ := covo_ok IH c2 hl s4 hT hK hP hI hm
      cases ht2
      refine icmp_row X.1 X.2.1 hdg (tgt_ok ht) (fun hh => k ?_) (fun hh => k2 ?_)
      · exact bra_ok hL s3 s1 hh
      · exact bra_ok hL s3 s1 (nrel_ok hh)
    · cases h
  · split at h
    · rename_i b r'
      obtain ⟨h0, h2⟩ := Bool.and_eq_true_iff.mp h
      have h0 := Nat.eq_of_beq_eq_true h0
      subst h0
      obtain ⟨v, us, rfl, s1, s2⟩ := hS.two
      unfold brn at h2
      cases k1 : Nat.beq b.1.1 1 with
      | true =>
        rw [k1] at h2
        dsimp only [cond] at h2
        obtain ⟨q, rfl, -⟩ := avi_ref k1 s1.1
        obtain ⟨t2, ht2, k2⟩ := covo_ok IH h2 hl s2 hT hK hP hI hm
        cases ht2
        exact lv_ifnull X.1 X.2.1 hdg (k2 ⟨al, rfl, hL⟩)
      | false =>
        rw [k1] at h2
        cases k2 : Nat.beq b.1.1 2 with
        | true =>
          rw [k2] at h2
          have e2 := Nat.eq_of_beq_eq_true k2
          obtain ⟨c1, c2⟩ := Bool.and_eq_true_iff.mp h2
          obtain ⟨t, ht, q1⟩ := covo_ok IH c1 hl s2 hT hK hP hI hm
          obtain ⟨t2, ht2, q2⟩ := covo_ok IH c2 hl s2 hT hK hP hI hm
          cases ht
          have hset : ∀ a', avi g Γ a' v → LR g Γ (setp al b a') (NV vl fl) := by
            intro a' ha'
            unfold setp
            split
            · exact hL
            · rename_i j hj
              rcases s1.2.1 with z | z
              · rw [hj] at z; cases z
              · rw [hj] at z; exact hL.set ha' z
          have s0 := s1.1
          cases v with
          | ref q =>
            refine lv_ifnull X.1 X.2.1 hdg (q1 ⟨_, rfl, hset _ ?_⟩)
            rcases s0 with ⟨-, z⟩ | ⟨z, -⟩ | ⟨z, -⟩
            · exact Or.inl ⟨Or.inl rfl, z⟩
            · rw [e2] at z; cases z
            · rw [e2] at z; cases z
          | null => exact lv_ifnullN X.1 X.2.1 hdg (tgt_ok ht2) (q2 ⟨_, rfl, hset _ (Or.inr rfl)⟩)
          | int x => rw [s0.1] at e2; cases e2
          | long x => rw [s0.1] at e2; cases e2
          | float x => exact absurd s0 id
          | double x => exact absurd s0 id
          | retAddr x => exact absurd s0 id
        | false =>
          rw [k2] at h2
          cases k4 : Nat.beq b.1.1 4 with
          | false => rw [k4] at h2; cases h2
          | true =>
            rw [k4] at h2
            dsimp only [cond] at h2
            have e4 := Nat.eq_of_beq_eq_true k4
            obtain ⟨t2, ht2, q2⟩ := covo_ok IH h2 hl s2 hT hK hP hI hm
            have s0 := s1.1
            cases v with
            | null => exact lv_ifnullN X.1 X.2.1 hdg (tgt_ok ht2) (q2 ⟨_, rfl, hL⟩)
            | ref q => rcases s0 with ⟨z | z, -⟩ | ⟨z, -⟩ | ⟨z, -⟩ <;> (rw [e4] at z; cases z)
            | int x => rw [s0.1] at e4; cases e4
            | long x => rw [s0.1] at e4; cases e4
            | float x => exact absurd s0 id
            | double x => exact absurd s0 id
            | retAddr x => exact absurd s0 id
    · cases h
  · split at h
    · rename_i b r'
      obtain ⟨h0, h2⟩ := Bool.and_eq_true_iff.mp h
      have h0 := Nat.eq_of_beq_eq_true h0
      subst h0
      obtain ⟨v, us, rfl, s1, s2⟩ := hS.two
      unfold brn at h2
      cases k1 : Nat.beq b.1.1 1 with
      | true =>
        rw [k1] at h2
        dsimp only [cond] at h2
        obtain ⟨q, rfl, -⟩ := avi_ref k1 s1.1
        obtain ⟨t2, ht2, k2⟩ := covo_ok IH h2 hl s2 hT hK hP hI hm
        exact lv_ifnonnull X.1 X.2.1 hdg (tgt_ok ht2) (k2 ⟨al, rfl, hL⟩)
      | false =>
        rw [k1] at h2
        cases k2 : Nat.beq b.1.1 2 with
        | true =>
          rw [k2] at h2
          have e2 := Nat.eq_of_beq_eq_true k2
          obtain ⟨c1, c2⟩ := Bool.and_eq_true_iff.mp h2
          obtain ⟨t, ht, q1⟩ := covo_ok IH c1 hl s2 hT hK hP hI hm
          obtain ⟨t2, ht2, q2⟩ := covo_ok IH c2 hl s2 hT hK hP hI hm
          cases ht2
          have hset : ∀ a', avi g Γ a' v → LR g Γ (setp al b a') (NV vl fl) := by
            intro a' ha'
            unfold setp
            split
            · exact hL
            · rename_i j hj
              rcases s1.2.1 with z | z
              · rw [hj] at z; cases z
              · rw [hj] at z; exact hL.set ha' z
          have s0 := s1.1
          cases v with
          | ref q =>
            refine lv_ifnonnull X.1 X.2.1 hdg (tgt_ok ht) (q1 ⟨_, rfl, hset _ ?_⟩)
            rcases s0 with ⟨-, z⟩ | ⟨z, -⟩ | ⟨z, -⟩
            · exact Or.inl ⟨Or.inl rfl, z⟩
            · rw [e2] at z; cases z
            · rw [e2] at z; cases z
          | null => exact lv_ifnonnullN X.1 X.2.1 hdg (q2 ⟨_, rfl, hset _ (Or.inr rfl)⟩)
          | int x => rw [s0.1] at e2; cases e2
          | long x => rw [s0.1] at e2; cases e2
          | float x => exact absurd s0 id
          | double x => exact absurd s0 id
          | retAddr x => exact absurd s0 id
        | false =>
          rw [k2] at h2
          cases k4 : Nat.beq b.1.1 4 with
          | false => rw [k4] at h2; cases h2
          | true =>
            rw [k4] at h2
            dsimp only [cond] at h2
            have e4 := Nat.eq_of_beq_eq_true k4
            obtain ⟨t2, ht2, q2⟩ := covo_ok IH h2 hl s2 hT hK hP hI hm
            cases ht2
            have s0 := s1.1
            cases v with
            | null => exact lv_ifnonnullN X.1 X.2.1 hdg (q2 ⟨_, rfl, hL⟩)
            | ref q => rcases s0 with ⟨z | z, -⟩ | ⟨z, -⟩ | ⟨z, -⟩ <;> (rw [e4] at z; cases z)
            | int x => rw [s0.1] at e4; cases e4
            | long x => rw [s0.1] at e4; cases e4
            | float x => exact absurd s0 id
            | double x => exact absurd s0 id
            | retAddr x => exact absurd s0 id
    · cases h
  · obtain ⟨h1, h2⟩ := Bool.and_eq_true_iff.mp h
    have h1 := Nat.eq_of_beq_eq_true h1
    subst h1
    obtain ⟨h2, h3⟩ := Bool.and_eq_true_iff.mp h2
    unfold ret1 at h2
    split at h2
    · rename_i e1
      obtain ⟨v, us, rfl, s1, s2⟩ := hS.two
      cases us with
      | cons _ _ => exact s2.elim
      | nil =>
        obtain ⟨q1, q2⟩ := Bool.and_eq_true_iff.mp h2
        have q1' := Nat.eq_of_beq_eq_true q1
        refine h_ret X hI hQ hr hrt s1.1 (retv s1 h3) ?_ hdg
        rcases Bool.or_eq_true_iff.mp q2 with q2 | q2
        · exact Or.inl ⟨Nat.eq_of_beq_eq_true q2, rfl, q1'⟩
        · obtain ⟨q2, q3⟩ := Bool.and_eq_true_iff.mp q2
          obtain ⟨q3, q4⟩ := Bool.and_eq_true_iff.mp q3
          exact Or.inr (Or.inl ⟨Nat.eq_of_beq_eq_true q2, rfl, q1', ile_ok q3, ile_ok q4⟩)
    · cases h2
  · obtain ⟨h1, h2⟩ := Bool.and_eq_true_iff.mp h
    have h1 := Nat.eq_of_beq_eq_true h1
    subst h1
    obtain ⟨h2, h3⟩ := Bool.and_eq_true_iff.mp h2
    unfold ret2 at h2
    split at h2
    · rename_i e1
      obtain ⟨v, us, rfl, s1, s2⟩ := hS.two
      cases us with
      | cons _ _ => exact s2.elim
      | nil =>
        obtain ⟨q1, q2⟩ := Bool.and_eq_true_iff.mp h2
        exact h_ret X hI hQ hr hrt s1.1 (retv s1 h3) (Or.inr (Or.inr (Or.inl ⟨Nat.eq_of_beq_eq_true q1, rfl, Nat.eq_of_beq_eq_true q2⟩))) hdg
    · cases h2
  · obtain ⟨h1, h2⟩ := Bool.and_eq_true_iff.mp h
    have h1 := Nat.eq_of_beq_eq_true h1
    subst h1
    obtain ⟨h2, h3⟩ := Bool.and_eq_true_iff.mp h2
    unfold ret4 at h2
    split at h2
    · rename_i e1 _
      obtain ⟨v, us, rfl, s1, s2⟩ := hS.two
      cases us with
      | cons _ _ => exact s2.elim
      | nil =>
        obtain ⟨q1, q2⟩ := Bool.and_eq_true_iff.mp h2
        have hn : e1.1.1 ≠ 0 ∧ e1.1.1 ≠ 3 := by
          rcases Bool.or_eq_true_iff.mp q2 with q | q
          · have := Nat.eq_of_beq_eq_true q; omega
          · rcases Bool.or_eq_true_iff.mp q with q | q <;> (have := Nat.eq_of_beq_eq_true q; omega)
        exact h_ret X hI hQ hr hrt s1.1 (retv s1 h3) (Or.inr (Or.inr (Or.inr ⟨Nat.eq_of_beq_eq_true q1, rfl, hn⟩))) hdg
    · cases h2
  · obtain ⟨h1, h2⟩ := Bool.and_eq_true_iff.mp h
    have h1 := Nat.eq_of_beq_eq_true h1
    subst h1
    obtain ⟨h2, h3⟩ := Bool.and_eq_true_iff.mp h2
    obtain ⟨h5, h4⟩ := Bool.and_eq_true_iff.mp h3
    have h2 := Nat.eq_of_beq_eq_true h2
    subst h2
    cases st with
    | cons _ _ => cases h4
    | nil =>
      cases vs with
      | cons _ _ => exact hS.elim
      | nil => exact h_vret X hI hQ hr hrt (Nat.eq_of_beq_eq_true h5) hdg
  · rename_i d lo hi offs
    split at h
    · rename_i b r'
      obtain ⟨h1, h2⟩ := Bool.and_eq_true_iff.mp h
      obtain ⟨h0, h1⟩ := Bool.and_eq_true_iff.mp h1
      obtain ⟨v, us, rfl, s1, s2⟩ := hS.two
      obtain ⟨x, rfl, -⟩ := avi_int h0 s1.1
      have h1 := ile_ok h1
      have key : ∀ (ss : List Nat) (os : List Int), tsw nd N pc al r' F ss os = true → ∀ (j : Nat) (o : Int), os[j]? = some o → ∃ t : Nat, (pc : Int) + o = (t : Int) ∧ W p l e R s m args below meth c H locs 0 0 Q (F0 m t ls us) := by
        intro ss os
        induction os generalizing ss with
        | nil => intro _ j o hj; cases hj
        | cons o' os ih =>
          intro hh j o hj
          cases ss with
          | nil => cases hh
          | cons s' ss =>
            obtain ⟨g1, g2⟩ := Bool.and_eq_true_iff.mp hh
            cases j with
            | zero =>
              cases hj
              obtain ⟨t, ht, k⟩ := covo_ok IH g1 hl s2 hT hK hP hI hm
              exact ⟨t, tgt_ok ht, k ⟨al, rfl, hL⟩⟩
            | succ j => exact ih ss g2 j o hj
      by_cases ho : x.toInt < lo ∨ hi < x.toInt
      · obtain ⟨t, ht, k⟩ := key _ _ h2 0 d rfl
        exact lv_tableOut X.1 X.2.1 hdg ho ht k
      · have hlt : (x.toInt - lo).toNat < offs.size := by
          have h1 : hi - lo + 1 ≤ (offs.size : Int) := h1
          omega
        obtain ⟨t, ht, k⟩ := key _ _ h2 ((x.toInt - lo).toNat + 1) (offs[(x.toInt - lo).toNat]) (by
          rw [List.getElem?_cons_succ, Array.getElem?_toList, Array.getElem?_eq_getElem hlt])
        exact lv_tableIn X.1 X.2.1 hdg (fun z => ho (Or.inl z)) (fun z => ho (Or.inr z)) (Array.getElem?_eq_getElem hlt) ht k
    · cases h
  · cases h
end
