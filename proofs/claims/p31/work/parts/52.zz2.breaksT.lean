/-! breaks: which calls may be skipped in the search for those by whose loss a plan breaks -/
def lb (x : Int64) (i : Nat) : Bool := x.toBitVec.getLsbD i
theorem lb_ext {x y : Int64} (h : ∀ i, i < 64 → lb x i = lb y i) : x = y := Int64.toBitVec_inj.mp (BitVec.eq_of_getLsbD_eq (fun i hi => h i hi))
theorem lb_or (x y : Int64) (i : Nat) : lb (x ||| y) i = (lb x i || lb y i) := by unfold lb; rw [Int64.toBitVec_or, BitVec.getLsbD_or]
theorem lb_and (x y : Int64) (i : Nat) : lb (x &&& y) i = (lb x i && lb y i) := by unfold lb; rw [Int64.toBitVec_and, BitVec.getLsbD_and]
theorem lb_0 (i : Nat) : lb 0 i = false := BitVec.getLsbD_zero
theorem lb_m1 : ∀ i, i < 64 → lb (-1) i = true := by decide +kernel
theorem lb_one0 : lb 1 0 = true := by decide +kernel
theorem s64_l : ∀ n, n < 64 → (((nI n).toInt64 &&& 63).toBitVec.smod 64).toNat = n := by decide +kernel
theorem lb_sshr (n : Nat) (hn : n < 64) (x : Int64) {i : Nat} (hi : i < 64) : lb (x >>> ((nI n).toInt64 &&& 63)) i = if n + i < 64 then lb x (n + i) else lb x 63 := by
  unfold lb
  rw [Int64.toBitVec_shiftRight]
  show (x.toBitVec.sshiftRight (((nI n).toInt64 &&& 63).toBitVec.smod 64).toNat).getLsbD i = _
  rw [s64_l n hn, BitVec.getLsbD_sshiftRight, BitVec.msb_eq_getLsbD_last]
  simp [hi]
/-- one call lost -/
abbrev bL (c : Nat) : Int64 := (1 : Int64) <<< ((nI c).toInt64 &&& 63)
theorem lb_bL : ∀ c, c < 64 → ∀ i, i < 64 → lb (bL c) i = decide (i = c) := by decide +kernel
theorem isL_b {lo : Int64} {t : Nat} (ht : t < 64) : isL lo t ↔ lb lo t = true := by
  have e : lb ((lo >>> ((nI t).toInt64 &&& 63)) &&& 1) 0 = lb lo t := by rw [lb_and, lb_sshr t ht lo (by omega), if_pos (by omega), Nat.add_zero, lb_one0, Bool.and_true]
  show ¬ lg_cmp ((lo >>> ((nI t).toInt64 &&& 63)) &&& (1 : Int64)) 0 = 0 ↔ _
  constructor
  · intro h
    rcases i64_and1 (lo >>> ((nI t).toInt64 &&& 63)) with q | q
    · exact absurd ((lg_cmp_eq _ _).mpr q) h
    · rw [← e, q]; exact lb_one0
  · intro h q
    rw [(lg_cmp_eq _ _).mp q, lb_0] at e
    rw [h] at e
    cases e
theorem isL_or {lo : Int64} {c t : Nat} (hc : c < 64) (ht : t < 64) : isL (lo ||| bL c) t ↔ isL lo t ∨ t = c := by
  rw [isL_b ht, isL_b ht, lb_or, lb_bL c hc t ht, Bool.or_eq_true, decide_eq_true_eq]
theorem or_bL {lo : Int64} {c d : Nat} : lo ||| bL c ||| bL d = lo ||| bL d ||| bL c := lb_ext fun i _ => by
  rw [lb_or, lb_or, lb_or, lb_or, Bool.or_assoc, Bool.or_assoc, Bool.or_comm (lb (bL c) i)]
/-! a call that told nobody anything new changed nothing -/
theorem tell_0 {yd : Int32} {kN tO : Nat → Int32} {o : Nat} {nw : Int32} (ho : o < 32) (inv : tO o &&& kN o = 0) (h : (F_X1_tell yd kN tO o nw).1 = 0) : (F_X1_tell yd kN tO o nw).2.1 = kN ∧ (F_X1_tell yd kN tO o nw).2.2 = tO := by
  rw [tell_eq ho] at h ⊢
  have hz : hrd (kN o) nw = 0 := by
    by_cases q : hrd (kN o) nw = 0
    · exact q
    · have h : (if hrd (kN o) nw = 0 then (0 : Int32) else 1) = 0 := h
      rw [if_neg q] at h
      exact absurd h (by decide)
  have e4 : tlK (bt yd o) (kN o) (tO o) nw = tlK (bt yd o) (kN o) (tO o) 0 := by
    unfold tlK
    rw [hz, hrd_0]
  have e1 : tlK (bt yd o) (kN o) (tO o) nw = kN o := e4.trans tlK_0
  have e5 : tlT (bt yd o) (kN o) (tO o) nw = tlT (bt yd o) (kN o) (tO o) 0 := by
    unfold tlT
    rw [e4, hz, hrd_0]
  have e2 : tlT (bt yd o) (kN o) (tO o) nw = tO o := e5.trans (tlT_0 inv)
  show upd kN o (tlK (bt yd o) (kN o) (tO o) nw) = kN ∧ upd tO o (tlT (bt yd o) (kN o) (tO o) nw) = tO
  rw [e1, e2]
  exact ⟨upd_same, upd_same⟩
theorem shout_0 {yd ot wo : Int32} {ca : Nat} {kN tO : Nat → Int32} (inv : ∀ x : Nat, x < 7 → tO x &&& kN x = 0) : ∀ m : Nat, m ≤ 7 → (L1_X1_shout yd ca ot wo 0 kN tO m).1 = 0 → (L1_X1_shout yd ca ot wo 0 kN tO m).2.1 = kN ∧ (L1_X1_shout yd ca ot wo 0 kN tO m).2.2 = tO
  | 0, _, _ => ⟨rfl, rfl⟩
  | m + 1, hm, h => by
    have ih := shout_0 (yd := yd) (ot := ot) (wo := wo) (ca := ca) inv m (by omega)
    have e : L1_X1_shout yd ca ot wo 0 kN tO (m + 1) = L1_X1_shouts yd ca ot wo m (L1_X1_shout yd ca ot wo 0 kN tO m).1 (L1_X1_shout yd ca ot wo 0 kN tO m).2.1 (L1_X1_shout yd ca ot wo 0 kN tO m).2.2 := rfl
    rw [e] at h ⊢
    generalize L1_X1_shout yd ca ot wo 0 kN tO m = s at ih h ⊢
    unfold L1_X1_shouts at h ⊢
    by_cases h1 : hasv ot (nI m) = 0
    · rw [if_pos h1] at h ⊢
      exact ih h
    · rw [if_neg h1] at h ⊢
      by_cases h2 : nI m = wo
      · rw [if_pos h2] at h ⊢
        exact ih h
      · rw [if_neg h2] at h ⊢
        by_cases h3 : (F_X1_tell yd s.2.1 s.2.2 m (s.2.1 ca)).1 = 0
        · rw [if_pos h3] at h ⊢
          obtain ⟨a, b⟩ := ih h
          obtain ⟨c, d⟩ := tell_0 (by omega) (by rw [a, b]; exact inv m (by omega)) h3
          exact ⟨c.trans a, d.trans b⟩
        · rw [if_neg h3] at h
          exact absurd (show (1 : Int32) = 0 from h) (by decide)
theorem call_0 {yd wo : Int32} {kN tO R k8 : Nat → Int32} {w : PP} {t : Nat} (c : CKO w R t) (inv : ∀ x : Nat, x < 7 → tO x &&& kN x = 0) (h : (F_X1_carryCall yd kN tO t wo w.k w.a w.b R k8).1 = 0) : (F_X1_carryCall yd kN tO t wo w.k w.a w.b R k8).2.1 = kN ∧ (F_X1_carryCall yd kN tO t wo w.k w.a w.b R k8).2.2 = tO := by
  have ha := c.ha
  unfold F_X1_carryCall at h ⊢
  by_cases c0 : nI (tN (w.a t)) = wo
  · rw [if_pos c0]; exact ⟨rfl, rfl⟩
  rw [if_neg c0] at h ⊢
  by_cases c3 : w.k t = 3
  · rw [if_pos c3] at h ⊢
    unfold F_X1_shout at h ⊢
    exact shout_0 inv 7 (Nat.le_refl _) h
  rw [if_neg c3] at h ⊢
  have hb := (c.hb c3).2.1
  by_cases cb : nI (tN (w.b t)) = wo
  · rw [if_pos cb]; exact ⟨rfl, rfl⟩
  rw [if_neg cb] at h ⊢
  by_cases k0 : w.k t = 0
  · rw [if_pos k0] at h ⊢
    by_cases t1 : (F_X1_tell yd kN tO (tN (w.b t)) (kN (tN (w.a t)))).1 = 0
    · obtain ⟨a, b⟩ := tell_0 (by omega) (inv _ hb) t1
      rw [if_pos t1] at h ⊢
      rw [a, b] at h ⊢
      by_cases t2 : (F_X1_tell yd kN tO (tN (w.a t)) (kN (tN (w.b t)))).1 = 0
      · rw [if_pos t2]
        exact tell_0 (by omega) (inv _ ha) t2
      · rw [if_neg t2] at h
        exact absurd (show (1 : Int32) = 0 from h) (by decide)
    · rw [if_neg t1] at h
      exact absurd (show (1 : Int32) = 0 from h) (by decide)
  rw [if_neg k0] at h ⊢
  by_cases k1 : w.k t = 1
  · rw [if_pos k1] at h ⊢
    exact tell_0 (by omega) (inv _ hb) h
  rw [if_neg k1] at h ⊢
  by_cases k2 : w.k t = 2
  · rw [if_pos k2] at h ⊢
    exact tell_0 (by omega) (inv _ ha) h
  rw [if_neg k2, if_neg c3] at h ⊢
  by_cases k4 : w.k t = 4
  · rw [if_pos k4] at h ⊢
    exact tell_0 (by omega) (inv _ hb) h
  · rw [if_neg k4] at h ⊢
    exact tell_0 (by omega) (inv _ hb) h
section
variable {yd wo : Int32} {lo : Int64} {w : PP} {W R k8 k6 kN tO : Nat → Int32} {c t : Nat}
theorem hin_cong {f g : Nat → CS → CS} {h : Nat → Nat} {H : Nat} : ∀ m : Nat, (∀ t : Nat, t < m → ∀ s : CS, f t s = g t s) → ∀ s : CS, hin f h H m s = hin g h H m s
  | 0, _, _ => rfl
  | m + 1, e, s => by
    have ih := hin_cong (h := h) (H := H) m (fun t ht => e t (by omega)) s
    rw [hin, hin, ih]
    by_cases q : h m = H
    · rw [if_pos q, if_pos q]; exact e m (Nat.lt_succ_self _) _
    · rw [if_neg q, if_neg q]
theorem hrs_cong {f g : Nat → CS → CS} {h : Nat → Nat} {c : Nat} (e : ∀ t : Nat, t < c → ∀ s : CS, f t s = g t s) : ∀ (H : Nat) (s : CS), hrs f h c H s = hrs g h c H s
  | 0, _ => rfl
  | H + 1, s => by rw [hrs, hrs, hrs_cong e H s, hin_cong c e]
theorem step_skip (hc : c < 64) (hW : ¬ W c = 0) (ht : t < 64) (s : CS) : cStep yd (lo ||| bL c) wo w W R k8 t s = cStep yd lo wo w W R k8 t s := by
  unfold cStep
  by_cases v : W t = 0
  · rw [if_pos v, if_pos v]
    have e : isL (lo ||| bL c) t ↔ isL lo t := (isL_or hc ht).trans ⟨fun q => q.elim id fun e => absurd (by rw [← e]; exact v) hW, Or.inl⟩
    by_cases l : isL lo t
    · rw [if_pos l, if_pos (e.mpr l)]
    · rw [if_neg l, if_neg (fun q => l (e.mp q))]
  · rw [if_neg v, if_neg v]
theorem cHS_skip {z : Nat} (h40 : w.c ≤ 40) (hc : c < 64) (hW : ¬ W c = 0) : cHS yd (lo ||| bL c) wo w W R k8 k6 kN tO z = cHS yd lo wo w W R k8 k6 kN tO z := hrs_cong (fun t ht s => step_skip hc hW (by omega) s) z _
/-- nobody has both heard once and known it -/
def CSI (s : CS) : Prop := ∀ x : Nat, x < 7 → s.2.1 x &&& s.1 x = 0
theorem cS_inv {s : CS} (ck : CKO w R t) (h : CSI s) : CSI (cS yd wo w R k8 t s) := fun x hx => by
  obtain ⟨a, b⟩ := call_at (yd := yd) (wo := wo) (k8 := k8) ck h x hx
  show (F_X1_carryCall yd s.1 s.2.1 t wo w.k w.a w.b R k8).2.2 x &&& (F_X1_carryCall yd s.1 s.2.1 t wo w.k w.a w.b R k8).2.1 x = 0
  rw [a, b]
  exact tlT_k
theorem cStep_inv {s : CS} (ck : CKO w R t) (h : CSI s) : CSI (cStep yd lo wo w W R k8 t s) := by
  unfold cStep
  by_cases v : W t = 0
  · rw [if_pos v]
    by_cases l : isL lo t
    · rw [if_pos l]; exact h
    · rw [if_neg l]; exact cS_inv ck h
  · rw [if_neg v]; exact h
/-- both alike, or this call told somebody something new -/
def SAB (c : Nat) (s s' : CS) : Prop := lb s.2.2 c = true ∨ s' = s
theorem step_use {s s' : CS} (ck : CKO w R t) (hc : c < 64) (ht : t < 64) (h : CSI s) (r : SAB c s s') : SAB c (cStep yd lo wo w W R k8 t s) (cStep yd (lo ||| bL c) wo w W R k8 t s') := by
  rcases r with r | r
  · refine Or.inl ?_
    unfold cStep
    by_cases v : W t = 0
    · rw [if_pos v]
      by_cases l : isL lo t
      · rw [if_pos l]; exact r
      · rw [if_neg l]
        show lb (if (F_X1_carryCall yd s.1 s.2.1 t wo w.k w.a w.b R k8).1 = 0 then s.2.2 else s.2.2 ||| bL t) c = true
        by_cases u : (F_X1_carryCall yd s.1 s.2.1 t wo w.k w.a w.b R k8).1 = 0
        · rw [if_pos u]; exact r
        · rw [if_neg u, lb_or, r, Bool.true_or]
    · rw [if_neg v]; exact r
  · subst r
    unfold cStep
    by_cases v : W t = 0
    · rw [if_pos v, if_pos v]
      by_cases l : isL lo t
      · rw [if_pos l, if_pos ((isL_or hc ht).mpr (Or.inl l))]
        exact Or.inr rfl
      · rw [if_neg l]
        by_cases e : t = c
        · subst e
          rw [if_pos ((isL_or hc ht).mpr (Or.inr rfl))]
          by_cases u : (F_X1_carryCall yd s'.1 s'.2.1 t wo w.k w.a w.b R k8).1 = 0
          · refine Or.inr ?_
            obtain ⟨a, b⟩ := call_0 ck h u
            show s' = ((F_X1_carryCall yd s'.1 s'.2.1 t wo w.k w.a w.b R k8).2.1, (F_X1_carryCall yd s'.1 s'.2.1 t wo w.k w.a w.b R k8).2.2, if (F_X1_carryCall yd s'.1 s'.2.1 t wo w.k w.a w.b R k8).1 = 0 then s'.2.2 else s'.2.2 ||| bL t)
            rw [if_pos u, a, b]
          · refine Or.inl ?_
            show lb (if (F_X1_carryCall yd s'.1 s'.2.1 t wo w.k w.a w.b R k8).1 = 0 then s'.2.2 else s'.2.2 ||| bL t) t = true
            rw [if_neg u, lb_or, lb_bL t ht t ht, decide_eq_true rfl, Bool.or_true]
        · rw [if_neg (fun q => ((isL_or hc ht).mp q).elim l e)]
          exact Or.inr rfl
    · rw [if_neg v, if_neg v]
      exact Or.inr rfl
theorem hin_use {H : Nat} {s s' : CS} (ck : ∀ t : Nat, t < w.c → CKO w R t) (h40 : w.c ≤ 40) (hc : c < 64) (h : CSI s) (r : SAB c s s') : ∀ m : Nat, m ≤ w.c → SAB c (hin (cStep yd lo wo w W R k8) (hn w) H m s) (hin (cStep yd (lo ||| bL c) wo w W R k8) (hn w) H m s') ∧ CSI (hin (cStep yd lo wo w W R k8) (hn w) H m s)
  | 0, _ => ⟨r, h⟩
  | m + 1, hm => by
    obtain ⟨a, b⟩ := hin_use (H := H) ck h40 hc h r m (by omega)
    rw [hin, hin]
    by_cases q : hn w m = H
    · rw [if_pos q, if_pos q]
      exact ⟨step_use (ck m (by omega)) hc (by omega) b a, cStep_inv (ck m (by omega)) b⟩
    · rw [if_neg q, if_neg q]
      exact ⟨a, b⟩
theorem hrs_use {s : CS} (ck : ∀ t : Nat, t < w.c → CKO w R t) (h40 : w.c ≤ 40) (hc : c < 64) (h : CSI s) : ∀ H : Nat, SAB c (hrs (cStep yd lo wo w W R k8) (hn w) w.c H s) (hrs (cStep yd (lo ||| bL c) wo w W R k8) (hn w) w.c H s) ∧ CSI (hrs (cStep yd lo wo w W R k8) (hn w) w.c H s)
  | 0 => by
    show SAB c s s ∧ CSI s
    exact ⟨Or.inr rfl, h⟩
  | H + 1 => by
    obtain ⟨a, b⟩ := hrs_use ck h40 hc h H
    rw [hrs, hrs]
    exact hin_use (H := H) ck h40 hc b a w.c (Nat.le_refl _)
theorem cS0_inv : CSI (cS0 k6 kN tO) := fun x hx => by
  show (L1_X1_carry k6 kN tO 7).2 x &&& (L1_X1_carry k6 kN tO 7).1 x = 0
  rw [(L1c_at (k6 := k6) (kN := kN) (tO := tO) 7 x).2, if_pos hx]
  exact b_ext fun i _ => by rw [b_and, b_0, Bool.false_and]
theorem cHS_use {z : Nat} (ck : ∀ t : Nat, t < w.c → CKO w R t) (h40 : w.c ≤ 40) (hc : c < 64) (hu : ¬ lb (cHS yd lo wo w W R k8 k6 kN tO z).2.2 c = true) : cHS yd (lo ||| bL c) wo w W R k8 k6 kN tO z = cHS yd lo wo w W R k8 k6 kN tO z :=
  (hrs_use (yd := yd) (lo := lo) (wo := wo) (W := W) (k8 := k8) ck h40 hc (cS0_inv (k6 := k6) (kN := kN) (tO := tO)) z).1.elim (fun q => absurd q hu) id
end
/-! whether a plan breaks with some lost (0: it does) -/
abbrev BKf (v : VV) (w : PP) (lo : Int64) : Int32 := F_X1_isDone (hw7 (kC v w lo (-1)) 24) v.p (nwr v.mu) (-1)
section
variable {v : VV} {w : PP} {lo lo' : Int64} {W R kN tO : Nat → Int32} {c : Nat}
theorem BK_of (ok : VOK v) (h : ∀ x : Nat, x < v.p → kC v w lo' (-1) (7 * 24 + x) = kC v w lo (-1) (7 * 24 + x)) : BKf v w lo' = BKf v w lo := dn_cong ok.1 (fun x hx => h x hx) (fun _ _ => rfl) _ 0 (Nat.zero_le _)
theorem BK_skip (ok : VOK v) (nl : NLP v) (hw : PWF v.p w) (hc : c < 64) (hW : ¬ vdT (kx v) w c = 0) : BKf v w (lo ||| bL c) = BKf v w lo := BK_of ok fun x hx => by
  rw [← kC_at (W := vdT (kx v) w) (R := rcT (kx v) w) (kN := fun _ => 0) (tO := fun _ => 0) ok nl hw (fun _ _ => ⟨rfl, rfl⟩) (Nat.le_refl 24) hx, ← kC_at (lo := lo) (W := vdT (kx v) w) (R := rcT (kx v) w) (kN := fun _ => 0) (tO := fun _ => 0) ok nl hw (fun _ _ => ⟨rfl, rfl⟩) (Nat.le_refl 24) hx, cHS_skip hw.1 hc hW]
theorem BK_use (ok : VOK v) (nl : NLP v) (hw : PWF v.p w) (ho : ORD w) (hJ : JD v w W R) (hc : c < 64) (hu : ¬ isL (F_X1_carry kN tO w.c v.de 24 lo (-1) w.h w.k w.a w.b w.o W R (nwr v.kn) (nwr v.mn)).2.2.2 c) : BKf v w (lo ||| bL c) = BKf v w lo := BK_of ok fun x hx => by
  have e := carry_eq (yd := v.de) (wo := -1) (lo := lo) (W := W) (R := R) (k6 := nwr v.kn) (k8 := nwr v.mn) (kN := kN) (tO := tO) hw ho (Nat.le_refl 24)
  have hu2 : ¬ lb (cHS v.de lo (-1) w W R (nwr v.mn) (nwr v.kn) kN tO 25).2.2 c = true := fun q => hu ((isL_b hc).mpr (by
    have e2 : (F_X1_carry kN tO w.c v.de 24 lo (-1) w.h w.k w.a w.b w.o W R (nwr v.kn) (nwr v.mn)).2.2.2 = (cHS v.de lo (-1) w W R (nwr v.mn) (nwr v.kn) kN tO 25).2.2 := congrArg (fun z => z.2.2.2) e
    rw [e2]; exact q))
  have hj := cHS_use (yd := v.de) (wo := -1) (lo := lo) (W := W) (k8 := nwr v.mn) (k6 := nwr v.kn) (kN := kN) (tO := tO) (z := 25) (fun t ht => cok_of ok nl hw ht (hJ t ht).2) hw.1 hc hu2
  rw [← kC_at (W := W) (R := R) (kN := kN) (tO := tO) ok nl hw hJ (Nat.le_refl 24) hx, ← kC_at (lo := lo) (W := W) (R := R) (kN := kN) (tO := tO) ok nl hw hJ (Nat.le_refl 24) hx, hj]
theorem cls_B (ok : VOK v) (nl : NLP v) (hw : PWF v.p w) (ho : ORD w) (hJ : JD v w W R) : F_X1_isDone (F_X1_carry kN tO w.c v.de 24 lo (-1) w.h w.k w.a w.b w.o W R (nwr v.kn) (nwr v.mn)).1 v.p (nwr v.mu) (-1) = BKf v w lo := dn_cong ok.1 (fun x hx => cls_carry ok nl hw ho hJ (Nat.le_refl 24) hx) (fun _ _ => rfl) _ 0 (Nat.zero_le _)
end
/-! the search: so many calls from this one on, the lowest first -/
def fL (g : Nat → Int64 → Option (List Nat)) (c : Nat) : Nat → Nat → Int64 → Option (List Nat)
  | 0, _, _ => none
  | m + 1, f, lo => if c ≤ f then none else (match g (f + 1) (lo ||| bL f) with
    | some l => some (f :: l)
    | none => fL g c m (f + 1) lo)
def fS (B : Int64 → Int32) (c : Nat) : Nat → Nat → Int64 → Option (List Nat)
  | 0, _, lo => if B lo = 0 then some [] else none
  | k + 1, f, lo => fL (fS B c k) c (c - f + 1) f lo
theorem fL_some {g : Nat → Int64 → Option (List Nat)} {c m f : Nat} {lo : Int64} {l : List Nat} (h : f < c) (e : g (f + 1) (lo ||| bL f) = some l) : fL g c (m + 1) f lo = some (f :: l) := by
  rw [fL, if_neg (by omega), e]
theorem fL_next {g : Nat → Int64 → Option (List Nat)} {c m f : Nat} {lo : Int64} (h : f < c) (e : g (f + 1) (lo ||| bL f) = none) : fL g c (m + 1) f lo = fL g c m (f + 1) lo := by
  rw [fL, if_neg (by omega), e]
theorem fL_end {g : Nat → Int64 → Option (List Nat)} {c m f : Nat} {lo : Int64} (h : c ≤ f) : fL g c (m + 1) f lo = none := by
  rw [fL, if_pos h]
theorem fL_none {g : Nat → Int64 → Option (List Nat)} {c : Nat} {lo : Int64} : ∀ m f : Nat, c < m + f → (fL g c m f lo = none ↔ ∀ q : Nat, f ≤ q → q < c → g (q + 1) (lo ||| bL q) = none)
  | 0, f, h => ⟨fun _ q h1 h2 => absurd h1 (by omega), fun _ => rfl⟩
  | m + 1, f, h => by
    by_cases c1 : c ≤ f
    · rw [fL_end c1]
      exact ⟨fun _ q h1 h2 => absurd h1 (by omega), fun _ => rfl⟩
    · cases e : g (f + 1) (lo ||| bL f) with
      | some l =>
        rw [fL_some (by omega) e]
        exact ⟨fun q => (by cases q), fun q => by rw [q f (Nat.le_refl _) (by omega)] at e; cases e⟩
      | none =>
        rw [fL_next (by omega) e, fL_none m (f + 1) (by omega)]
        refine ⟨fun a q h1 h2 => ?_, fun a q h1 h2 => a q (by omega) h2⟩
        by_cases z : q = f
        · subst z; exact e
        · exact a q (by omega) h2
/-- no so many from this one on break it -/
def NBR (B : Int64 → Int32) (c : Nat) : Nat → Nat → Int64 → Prop
  | 0, _, lo => ¬ B lo = 0
  | k + 1, f, lo => ∀ q : Nat, f ≤ q → q < c → NBR B c k (q + 1) (lo ||| bL q)
theorem fS_none {B : Int64 → Int32} {c : Nat} : ∀ (k f : Nat) (lo : Int64), fS B c k f lo = none ↔ NBR B c k f lo
  | 0, f, lo => by
    rw [fS, NBR]
    by_cases q : B lo = 0
    · rw [if_pos q]; exact ⟨fun z => (by cases z), fun z => absurd q z⟩
    · rw [if_neg q]; exact ⟨fun _ => q, fun _ => rfl⟩
  | k + 1, f, lo => by
    rw [fS, NBR, fL_none _ _ (by omega)]
    exact ⟨fun a q h1 h2 => (fS_none k (q + 1) _).mp (a q h1 h2), fun a q h1 h2 => (fS_none k (q + 1) _).mpr (a q h1 h2)⟩
theorem NBR_mono {B : Int64 → Int32} {c f f' : Nat} {lo : Int64} (h : f ≤ f') : ∀ k : Nat, NBR B c k f lo → NBR B c k f' lo
  | 0, a => a
  | k + 1, a => fun q h1 h2 => a q (by omega) h2
theorem NBR_skip {B : Int64 → Int32} {c q0 : Nat} (hB : ∀ lo : Int64, B (lo ||| bL q0) = B lo) : ∀ (k f : Nat) (lo : Int64), NBR B c k f lo → NBR B c k f (lo ||| bL q0)
  | 0, f, lo, a => by
    show ¬ B (lo ||| bL q0) = 0
    rw [hB]; exact a
  | k + 1, f, lo, a => fun q h1 h2 => by
    rw [or_bL]
    exact NBR_skip hB k (q + 1) _ (a q h1 h2)
/-! the class's search -/
abbrev bits (lo : Int64) (l : List Nat) : Int64 := l.foldl (fun s c => s ||| bL c) lo
def FBR (lo : Int64) (o : Option (List Nat)) (r : Int32) (b : Int64) : Prop := match o with
  | some l => r = 1 ∧ b = bits lo l
  | none => r = 0
def CHY (v : VV) (w : PP) (W R : Nat → Int32) : Prop := VOK v ∧ NLP v ∧ PWF v.p w ∧ ORD w ∧ JD v w W R
section
variable {v : VV} {w : PP} {W R : Nat → Int32}

theorem fb1_loop (H : CHY v w W R) {kN tO : Nat → Int32} {lo : Int64} {f : Nat} (hB : ¬ BKf v w lo = 0) : ∀ (m j : Nat) (yk yt : Nat → Int32) (y2 : Int32) (y3 y4 : Int64), f + j ≤ w.c → FBR lo (fL (fS (BKf v w) w.c 0) w.c m (f + j) lo) (L1_X1_findBreaking1 kN tO w.c v.p v.de lo f w.h w.k w.a w.b w.o W R (nwr v.kn) (nwr v.mu) (nwr v.mn) m j yk yt y2 y3 y4).1 (L1_X1_findBreaking1 kN tO w.c v.p v.de lo f w.h w.k w.a w.b w.o W R (nwr v.kn) (nwr v.mu) (nwr v.mn) m j yk yt y2 y3 y4).2.2.2.2.2
  | 0, j, _, _, _, _, _, _ => rfl
  | m + 1, j, yk, yt, y2, y3, y4, hj => by
    obtain ⟨ok, nl, hw, ho, hJ⟩ := H
    have hc := hw.1
    have ih := fb1_loop (kN := kN) (tO := tO) (lo := lo) (f := f) ⟨ok, nl, hw, ho, hJ⟩ hB m (j + 1)
    rw [L1_X1_findBreaking1]
    by_cases c1 : w.c ≤ f + j
    · rw [if_pos (show nI w.c ≤ nI (f + j) by rw [show f + j = w.c by omega]; exact Int32.le_refl _), fL_end c1]
      exact (rfl : (0 : Int32) = 0)
    · rw [if_neg (fun q => c1 ((nI_leI (a := w.c) (b := f + j) (by omega) (by omega)).mp q))]
      have lt : f + j < w.c := by omega
      have skip : BKf v w (lo ||| bL (f + j)) = BKf v w lo → fL (fS (BKf v w) w.c 0) w.c (m + 1) (f + j) lo = fL (fS (BKf v w) w.c 0) w.c m (f + (j + 1)) lo := fun e => fL_next lt (by
        show (if BKf v w (lo ||| bL (f + j)) = 0 then some [] else none) = none
        rw [e, if_neg hB])
      by_cases v1 : W (f + j) = 0
      · rw [if_pos v1]
        by_cases u : isL (F_X1_carry kN tO w.c v.de 24 lo (-1) w.h w.k w.a w.b w.o W R (nwr v.kn) (nwr v.mn)).2.2.2 (f + j)
        · rw [if_neg u]
          have eB : F_X1_isDone (F_X1_carry yk yt w.c v.de 24 (lo ||| bL (f + j)) (-1) w.h w.k w.a w.b w.o W R (nwr v.kn) (nwr v.mn)).1 v.p (nwr v.mu) (-1) = BKf v w (lo ||| bL (f + j)) := cls_B ok nl hw ho hJ
          by_cases d : BKf v w (lo ||| bL (f + j)) = 0
          · rw [if_pos (eB.trans d), fL_some (l := []) lt (if_pos d)]
            exact ⟨rfl, rfl⟩
          · rw [if_neg (fun q => d (eB.symm.trans q)), fL_next lt (if_neg d)]
            exact ih _ _ _ _ _ (by omega)
        · rw [if_pos (Classical.not_not.mp u), skip (BK_use ok nl hw ho hJ (by omega) u)]
          exact ih _ _ _ _ _ (by omega)
      · rw [if_neg v1, skip (BK_skip ok nl hw (by omega) (fun q => v1 ((hJ _ lt).1.trans q)))]
        exact ih _ _ _ _ _ (by omega)
theorem fb_1 (H : CHY v w W R) {kN tO : Nat → Int32} {yb lo : Int64} {f : Nat} (hf : f ≤ w.c) (hB : NBR (BKf v w) w.c 0 f lo) : FBR lo (fS (BKf v w) w.c 1 f lo) (F_X1_findBreaking1 yb kN tO w.c v.p v.de lo f w.h w.k w.a w.b w.o W R (nwr v.kn) (nwr v.mu) (nwr v.mn)).1 (F_X1_findBreaking1 yb kN tO w.c v.p v.de lo f w.h w.k w.a w.b w.o W R (nwr v.kn) (nwr v.mu) (nwr v.mn)).2.2.2.2.2 :=
  fb1_loop H hB (w.c - f + 1) 0 _ _ _ _ _ hf

theorem fb2_loop (H : CHY v w W R) {lo : Int64} {f : Nat} (hN : NBR (BKf v w) w.c 1 f lo) : ∀ (m j : Nat) (yk yt : Nat → Int32) (y2 : Int32) (y3 y4 : Int64), f + j ≤ w.c → FBR lo (fL (fS (BKf v w) w.c 1) w.c m (f + j) lo) (L1_X1_findBreaking2 w.c v.p v.de lo f w.h w.k w.a w.b w.o W R (nwr v.kn) (nwr v.mu) (nwr v.mn) m j yk yt y2 y3 y4).1 (L1_X1_findBreaking2 w.c v.p v.de lo f w.h w.k w.a w.b w.o W R (nwr v.kn) (nwr v.mu) (nwr v.mn) m j yk yt y2 y3 y4).2.2.2.2.2
  | 0, j, _, _, _, _, _, _ => rfl
  | m + 1, j, yk, yt, y2, y3, y4, hj => by
    have H0 := H
    obtain ⟨ok, nl, hw, ho, hJ⟩ := H
    have hc := hw.1
    have ih := fb2_loop (lo := lo) (f := f) H0 hN m (j + 1)
    rw [L1_X1_findBreaking2]
    by_cases c1 : w.c ≤ f + j
    · rw [if_pos (show nI w.c ≤ nI (f + j) by rw [show f + j = w.c by omega]; exact Int32.le_refl _), fL_end c1]
      exact (rfl : (0 : Int32) = 0)
    · rw [if_neg (fun q => c1 ((nI_leI (a := w.c) (b := f + j) (by omega) (by omega)).mp q))]
      have lt : f + j < w.c := by omega
      by_cases v1 : W (f + j) = 0
      · have hm1 : isL (-1) (f + j) := (isL_b (by omega)).mpr (lb_m1 _ (by omega))
        rw [if_pos v1, if_neg hm1]
        have hK := fb_1 (yb := y4) (kN := yk) (tO := yt) (lo := lo ||| bL (f + j)) (f := f + j + 1) H0 (by omega) (hN (f + j) (by omega) lt)
        cases e : fS (BKf v w) w.c 1 (f + j + 1) (lo ||| bL (f + j)) with
        | some l =>
          rw [e] at hK
          obtain ⟨a, b⟩ := hK
          rw [if_neg (show ¬ (F_X1_findBreaking1 y4 yk yt w.c v.p v.de (lo ||| bL (f + j)) (f + j + 1) w.h w.k w.a w.b w.o W R (nwr v.kn) (nwr v.mu) (nwr v.mn)).1 = 0 from fun q => by rw [a] at q; exact absurd q (by decide)), fL_some lt e]
          exact ⟨rfl, b⟩
        | none =>
          rw [e] at hK
          have a : (F_X1_findBreaking1 y4 yk yt w.c v.p v.de (lo ||| bL (f + j)) (f + j + 1) w.h w.k w.a w.b w.o W R (nwr v.kn) (nwr v.mu) (nwr v.mn)).1 = 0 := hK
          rw [if_pos a, fL_next lt e]
          exact ih _ _ _ _ _ (by omega)
      · rw [if_neg v1, fL_next lt ((fS_none 1 _ _).mpr (NBR_skip (fun lo => BK_skip ok nl hw (by omega) (fun q => v1 ((hJ _ lt).1.trans q))) 1 _ _ (NBR_mono (by omega) 1 hN)))]
        exact ih _ _ _ _ _ (by omega)
theorem fb_2 (H : CHY v w W R) {kN tO : Nat → Int32} {yd : Int32} {yu yb lo : Int64} {f : Nat} (hf : f ≤ w.c) (hN : NBR (BKf v w) w.c 1 f lo) : FBR lo (fS (BKf v w) w.c 2 f lo) (F_X1_findBreaking2 yd yu yb kN tO w.c v.p v.de lo f w.h w.k w.a w.b w.o W R (nwr v.kn) (nwr v.mu) (nwr v.mn)).1 (F_X1_findBreaking2 yd yu yb kN tO w.c v.p v.de lo f w.h w.k w.a w.b w.o W R (nwr v.kn) (nwr v.mu) (nwr v.mn)).2.2.2.2.2 :=
  fb2_loop H hN (w.c - f + 1) 0 _ _ _ _ _ hf

theorem fb3_loop (H : CHY v w W R) {lo : Int64} {f : Nat} (hN : NBR (BKf v w) w.c 2 f lo) : ∀ (m j : Nat) (yk yt : Nat → Int32) (y2 : Int32) (y3 y4 : Int64), f + j ≤ w.c → FBR lo (fL (fS (BKf v w) w.c 2) w.c m (f + j) lo) (L1_X1_findBreaking3 w.c v.p v.de lo f w.h w.k w.a w.b w.o W R (nwr v.kn) (nwr v.mu) (nwr v.mn) m j yk yt y2 y3 y4).1 (L1_X1_findBreaking3 w.c v.p v.de lo f w.h w.k w.a w.b w.o W R (nwr v.kn) (nwr v.mu) (nwr v.mn) m j yk yt y2 y3 y4).2.2.2.2.2
  | 0, j, _, _, _, _, _, _ => rfl
  | m + 1, j, yk, yt, y2, y3, y4, hj => by
    have H0 := H
    obtain ⟨ok, nl, hw, ho, hJ⟩ := H
    have hc := hw.1
    have ih := fb3_loop (lo := lo) (f := f) H0 hN m (j + 1)
    rw [L1_X1_findBreaking3]
    by_cases c1 : w.c ≤ f + j
    · rw [if_pos (show nI w.c ≤ nI (f + j) by rw [show f + j = w.c by omega]; exact Int32.le_refl _), fL_end c1]
      exact (rfl : (0 : Int32) = 0)
    · rw [if_neg (fun q => c1 ((nI_leI (a := w.c) (b := f + j) (by omega) (by omega)).mp q))]
      have lt : f + j < w.c := by omega
      by_cases v1 : W (f + j) = 0
      · have hm1 : isL (-1) (f + j) := (isL_b (by omega)).mpr (lb_m1 _ (by omega))
        rw [if_pos v1, if_neg hm1]
        have hK := fb_2 (yb := y4) (yd := y2) (yu := y3) (kN := yk) (tO := yt) (lo := lo ||| bL (f + j)) (f := f + j + 1) H0 (by omega) (hN (f + j) (by omega) lt)
        cases e : fS (BKf v w) w.c 2 (f + j + 1) (lo ||| bL (f + j)) with
        | some l =>
          rw [e] at hK
          obtain ⟨a, b⟩ := hK
          rw [if_neg (show ¬ (F_X1_findBreaking2 y2 y3 y4 yk yt w.c v.p v.de (lo ||| bL (f + j)) (f + j + 1) w.h w.k w.a w.b w.o W R (nwr v.kn) (nwr v.mu) (nwr v.mn)).1 = 0 from fun q => by rw [a] at q; exact absurd q (by decide)), fL_some lt e]
          exact ⟨rfl, b⟩
        | none =>
          rw [e] at hK
          have a : (F_X1_findBreaking2 y2 y3 y4 yk yt w.c v.p v.de (lo ||| bL (f + j)) (f + j + 1) w.h w.k w.a w.b w.o W R (nwr v.kn) (nwr v.mu) (nwr v.mn)).1 = 0 := hK
          rw [if_pos a, fL_next lt e]
          exact ih _ _ _ _ _ (by omega)
      · rw [if_neg v1, fL_next lt ((fS_none 2 _ _).mpr (NBR_skip (fun lo => BK_skip ok nl hw (by omega) (fun q => v1 ((hJ _ lt).1.trans q))) 2 _ _ (NBR_mono (by omega) 2 hN)))]
        exact ih _ _ _ _ _ (by omega)
theorem fb_3 (H : CHY v w W R) {kN tO : Nat → Int32} {yd : Int32} {yu yb lo : Int64} {f : Nat} (hf : f ≤ w.c) (hN : NBR (BKf v w) w.c 2 f lo) : FBR lo (fS (BKf v w) w.c 3 f lo) (F_X1_findBreaking3 yd yu yb kN tO w.c v.p v.de lo f w.h w.k w.a w.b w.o W R (nwr v.kn) (nwr v.mu) (nwr v.mn)).1 (F_X1_findBreaking3 yd yu yb kN tO w.c v.p v.de lo f w.h w.k w.a w.b w.o W R (nwr v.kn) (nwr v.mu) (nwr v.mn)).2.2.2.2.2 :=
  fb3_loop H hN (w.c - f + 1) 0 _ _ _ _ _ hf

end
/-! the calls of a set, one by one -/
def SRT (c : Nat) : Nat → List Nat → Prop
  | _, [] => True
  | f, a :: l => f ≤ a ∧ a < c ∧ SRT c (a + 1) l
theorem SRT_mem {c : Nat} : ∀ {l : List Nat} {f q : Nat}, SRT c f l → q ∈ l → f ≤ q ∧ q < c
  | [], _, _, _, h => absurd h List.not_mem_nil
  | a :: l, f, q, hs, h => by
    rcases List.mem_cons.mp h with e | h
    · subst e; exact ⟨hs.1, hs.2.1⟩
    · obtain ⟨x, y⟩ := SRT_mem hs.2.2 h
      exact ⟨by have := hs.1; omega, y⟩
theorem fL_srt {g : Nat → Int64 → Option (List Nat)} {c k : Nat} (hg : ∀ (f : Nat) (lo : Int64) (l : List Nat), g f lo = some l → l.length = k ∧ SRT c f l) : ∀ (m f : Nat) (lo : Int64) (l : List Nat), fL g c m f lo = some l → l.length = k + 1 ∧ SRT c f l
  | 0, _, _, _, h => by cases h
  | m + 1, f, lo, l, h => by
    by_cases c1 : c ≤ f
    · rw [fL_end c1] at h; cases h
    · cases e : g (f + 1) (lo ||| bL f) with
      | some r =>
        rw [fL_some (by omega) e] at h
        cases h
        obtain ⟨a, b⟩ := hg _ _ _ e
        exact ⟨by rw [List.length_cons, a], Nat.le_refl _, by omega, b⟩
      | none =>
        rw [fL_next (by omega) e] at h
        obtain ⟨a, b⟩ := fL_srt hg m (f + 1) lo l h
        refine ⟨a, ?_⟩
        cases l with
        | nil => exact trivial
        | cons x r => exact ⟨by have := b.1; omega, b.2⟩
theorem fS_srt {B : Int64 → Int32} {c : Nat} : ∀ (k f : Nat) (lo : Int64) (l : List Nat), fS B c k f lo = some l → l.length = k ∧ SRT c f l
  | 0, f, lo, l, h => by
    rw [fS] at h
    by_cases q : B lo = 0
    · rw [if_pos q] at h; cases h; exact ⟨rfl, trivial⟩
    · rw [if_neg q] at h; cases h
  | k + 1, f, lo, l, h => fL_srt (fS_srt k) _ f lo l h
theorem lb_bits {c : Nat} (hc : c ≤ 40) {q : Nat} (hq : q < 64) : ∀ (l : List Nat) (f : Nat) (lo : Int64), SRT c f l → (lb (bits lo l) q = true ↔ lb lo q = true ∨ q ∈ l)
  | [], _, lo, _ => ⟨Or.inl, fun z => z.elim id (fun z => absurd z List.not_mem_nil)⟩
  | a :: l, f, lo, hs => by
    show lb (bits (lo ||| bL a) l) q = true ↔ _
    have ha := hs.2.1
    rw [lb_bits hc hq l (a + 1) _ hs.2.2, lb_or, lb_bL a (by omega) q hq, Bool.or_eq_true, decide_eq_true_eq, List.mem_cons, or_assoc]
theorem bc_at {S : Int64} : ∀ (m j : Nat) (l : List Nat) (t : Nat), 40 < m + j → SRT 40 j l → t < l.length → (∀ q : Nat, j ≤ q → q < 40 → (lb S q = true ↔ q ∈ l)) → L1_X1_breakingCall S m j (nI t) = nI (l.getD t 0)
  | _, _, [], t, _, _, ht, _ => absurd ht (Nat.not_lt_zero _)
  | 0, j, a :: l, t, hm, hs, _, _ => absurd hs.1 (by have := hs.2.1; omega)
  | m + 1, j, a :: l, t, hm, hs, ht, hb => by
    have h1 := hs.1
    have h2 := hs.2.1
    have h20 : (a :: l).length ≤ 40 - j := by
      have : ∀ (r : List Nat) (f : Nat), SRT 40 f r → f ≤ 40 → r.length ≤ 40 - f := by
        intro r
        induction r with
        | nil => intro f _ _; exact Nat.zero_le _
        | cons x r ih =>
          intro f hr hf
          have q := ih (x + 1) hr.2.2 (by have := hr.2.1; omega)
          have q1 := hr.1
          have q2 := hr.2.1
          rw [List.length_cons]
          omega
      exact this _ _ hs (by omega)
    rw [L1_X1_breakingCall, if_neg (show ¬ (40 : Int32) ≤ nI j from fun q => by have := (nI_leI (a := 40) (b := j) (by omega) (by omega)).mp q; omega)]
    by_cases e : j = a
    · subst e
      have hi : isL S j := (isL_b (by omega)).mpr ((hb j (Nat.le_refl _) (by omega)).mpr List.mem_cons_self)
      rw [if_neg hi]
      cases t with
      | zero => rw [if_pos (show nI 0 = 0 from rfl)]; rfl
      | succ t =>
        have n0 : ¬ nI (t + 1) = 0 := fun q => by have := (nI_eq (a := t + 1) (b := 0) (by omega) (by omega)).mp q; omega
        rw [if_neg n0, show nI (t + 1) + (-1) = nI t from (Int32.sub_eq_add_neg (nI (t + 1)) 1).symm.trans nI_dec1]
        rw [List.length_cons] at ht
        exact bc_at m (j + 1) l t (by omega) hs.2.2 (by omega) fun q h3 h4 => (hb q (by omega) h4).trans ⟨fun z => by
          rcases List.mem_cons.mp z with z | z
          · omega
          · exact z, List.mem_cons_of_mem _⟩
    · have hi : ¬ isL S j := fun q => by
        rcases List.mem_cons.mp ((hb j (Nat.le_refl _) (by omega)).mp ((isL_b (by omega)).mp q)) with z | z
        · exact e z
        · have := (SRT_mem hs.2.2 z).1; omega
      rw [if_pos (Classical.not_not.mp hi)]
      exact bc_at m (j + 1) (a :: l) t (by omega) ⟨by omega, h2, hs.2.2⟩ ht fun q h3 h4 => hb q (by omega) h4
/-! the answer -/
def bkS (B : Int64 → Int32) (c : Nat) : Option (List Nat) := match fS B c 0 0 0 with
  | some l => some l
  | none => match fS B c 1 0 0 with
    | some l => some l
    | none => match fS B c 2 0 0 with
      | some l => some l
      | none => fS B c 3 0 0
def bkO (o : Option (List Nat)) (y : Int32) : Int32 := match o with
  | none => -1
  | some l => if y = -1 then nI l.length else (if y < 0 then -1 else (if y < nI l.length then nI (l.getD (tN y) 0) else -1))
def bkA (np : Nat) (V : Nat → VV) (P : Nat → PP) (x y : Int32) : Int32 := if F_X12_isPlan np x = 0 then -1 else bkO (bkS (BKf (V (P (tN x)).v) (P (tN x))) (P (tN x)).c) y
theorem bkA_no {np : Nat} {V : Nat → VV} {P : Nat → PP} {x y : Int32} (h : x < 0 ∨ nI np ≤ x) : bkA np V P x y = -1 := if_pos (rpl_no h)
theorem bkA_ok {np i : Nat} {V : Nat → VV} {P : Nat → PP} {y : Int32} (hn : np ≤ 12) (h : i < np) : bkA np V P (nI i) y = bkO (bkS (BKf (V (P i).v) (P i)) (P i).c) y := by
  unfold bkA
  rw [if_neg (rpl_yes hn h), tN_nI (by omega)]
theorem bkS_srt {B : Int64 → Int32} {c : Nat} {l : List Nat} (h : bkS B c = some l) : l.length ≤ 3 ∧ SRT c 0 l := by
  unfold bkS at h
  cases e0 : fS B c 0 0 0 with
  | some r => rw [e0] at h; cases h; obtain ⟨a, b⟩ := fS_srt _ _ _ _ e0; exact ⟨by omega, b⟩
  | none =>
    rw [e0] at h
    cases e1 : fS B c 1 0 0 with
    | some r => rw [e1] at h; cases h; obtain ⟨a, b⟩ := fS_srt _ _ _ _ e1; exact ⟨by omega, b⟩
    | none =>
      rw [e1] at h
      cases e2 : fS B c 2 0 0 with
      | some r => rw [e2] at h; cases h; obtain ⟨a, b⟩ := fS_srt _ _ _ _ e2; exact ⟨by omega, b⟩
      | none => rw [e2] at h; obtain ⟨a, b⟩ := fS_srt _ _ _ _ h; exact ⟨by omega, b⟩
/-- what the class finds -/
def FWR (o : Option (List Nat)) (r : Int32) (b : Int64) : Prop := match o with
  | some l => r = nI l.length ∧ b = bits 0 l
  | none => r = -1
theorem fw_cls {v : VV} {w : PP} {W R kN tO : Nat → Int32} (ok : VOK v) (nl : NLP v) (hw : PWF v.p w) (ho : ORD w) : FWR (bkS (BKf v w) w.c) (F_X1_fewestToBreak kN tO w.c v.p v.de w.h w.k w.a w.b w.o W R (nwr v.kn) (nwr v.mu) (nwr v.mn) (kx v)).1 (F_X1_fewestToBreak kN tO w.c v.p v.de w.h w.k w.a w.b w.o W R (nwr v.kn) (nwr v.mu) (nwr v.mn) (kx v)).2.2.2.2.2.2.2 := by
  have H : CHY v w (F_X4_judge w.c w.h w.k w.a w.b w.o W R (kx v)).1 (F_X4_judge w.c w.h w.k w.a w.b w.o W R (kx v)).2 := ⟨ok, nl, hw, ho, fun _ ht => clsJ hw ho ht⟩
  unfold F_X1_fewestToBreak bkS
  have eB : ∀ kN tO : Nat → Int32, (F_X1_bears kN tO w.c v.p v.de 0 (-1) w.h w.k w.a w.b w.o (F_X4_judge w.c w.h w.k w.a w.b w.o W R (kx v)).1 (F_X4_judge w.c w.h w.k w.a w.b w.o W R (kx v)).2 (nwr v.kn) (nwr v.mu) (nwr v.mn)).1 = BKf v w 0 := fun _ _ => bears_cls ok nl hw ho H.2.2.2.2
  by_cases d : BKf v w 0 = 0
  · rw [if_pos ((eB _ _).trans d), show fS (BKf v w) w.c 0 0 0 = some [] from if_pos d]
    exact ⟨rfl, rfl⟩
  · rw [if_neg (fun q => d ((eB _ _).symm.trans q)), show fS (BKf v w) w.c 0 0 0 = none from if_neg d]
    dsimp only
    have N0 : NBR (BKf v w) w.c 0 0 0 := d
    have h1 := fb_1 (yb := 0) (kN := (D1_X1_fewestToBreak kN tO w.c v.p v.de w.h w.k w.a w.b w.o W R (nwr v.kn) (nwr v.mu) (nwr v.mn) (kx v)).2.1) (tO := (D1_X1_fewestToBreak kN tO w.c v.p v.de w.h w.k w.a w.b w.o W R (nwr v.kn) (nwr v.mu) (nwr v.mn) (kx v)).2.2.1) H (Nat.zero_le _) N0
    cases e1 : fS (BKf v w) w.c 1 0 0 with
    | some l =>
      rw [e1] at h1
      obtain ⟨a, b⟩ := h1
      rw [if_neg (show ¬ (D2_X1_fewestToBreak kN tO w.c v.p v.de w.h w.k w.a w.b w.o W R (nwr v.kn) (nwr v.mu) (nwr v.mn) (kx v)).1 = 0 from fun q => by rw [show (D2_X1_fewestToBreak kN tO w.c v.p v.de w.h w.k w.a w.b w.o W R (nwr v.kn) (nwr v.mu) (nwr v.mn) (kx v)).1 = 1 from a] at q; exact absurd q (by decide))]
      exact ⟨by rw [(fS_srt _ _ _ _ e1).1]; rfl, b⟩
    | none =>
      rw [e1] at h1
      rw [if_pos (show (D2_X1_fewestToBreak kN tO w.c v.p v.de w.h w.k w.a w.b w.o W R (nwr v.kn) (nwr v.mu) (nwr v.mn) (kx v)).1 = 0 from h1)]
      dsimp only
      have h2 := fb_2 (yd := (D2_X1_fewestToBreak kN tO w.c v.p v.de w.h w.k w.a w.b w.o W R (nwr v.kn) (nwr v.mu) (nwr v.mn) (kx v)).2.2.2.1) (yu := (D2_X1_fewestToBreak kN tO w.c v.p v.de w.h w.k w.a w.b w.o W R (nwr v.kn) (nwr v.mu) (nwr v.mn) (kx v)).2.2.2.2.1) (yb := (D2_X1_fewestToBreak kN tO w.c v.p v.de w.h w.k w.a w.b w.o W R (nwr v.kn) (nwr v.mu) (nwr v.mn) (kx v)).2.2.2.2.2) (kN := (D2_X1_fewestToBreak kN tO w.c v.p v.de w.h w.k w.a w.b w.o W R (nwr v.kn) (nwr v.mu) (nwr v.mn) (kx v)).2.1) (tO := (D2_X1_fewestToBreak kN tO w.c v.p v.de w.h w.k w.a w.b w.o W R (nwr v.kn) (nwr v.mu) (nwr v.mn) (kx v)).2.2.1) H (Nat.zero_le _) ((fS_none 1 0 0).mp e1)
      cases e2 : fS (BKf v w) w.c 2 0 0 with
      | some l =>
        rw [e2] at h2
        obtain ⟨a, b⟩ := h2
        rw [if_neg (show ¬ (D3_X1_fewestToBreak kN tO w.c v.p v.de w.h w.k w.a w.b w.o W R (nwr v.kn) (nwr v.mu) (nwr v.mn) (kx v)).1 = 0 from fun q => by rw [show (D3_X1_fewestToBreak kN tO w.c v.p v.de w.h w.k w.a w.b w.o W R (nwr v.kn) (nwr v.mu) (nwr v.mn) (kx v)).1 = 1 from a] at q; exact absurd q (by decide))]
        exact ⟨by rw [(fS_srt _ _ _ _ e2).1]; rfl, b⟩
      | none =>
        rw [e2] at h2
        rw [if_pos (show (D3_X1_fewestToBreak kN tO w.c v.p v.de w.h w.k w.a w.b w.o W R (nwr v.kn) (nwr v.mu) (nwr v.mn) (kx v)).1 = 0 from h2)]
        dsimp only
        have h3 := fb_3 (yd := (D3_X1_fewestToBreak kN tO w.c v.p v.de w.h w.k w.a w.b w.o W R (nwr v.kn) (nwr v.mu) (nwr v.mn) (kx v)).2.2.2.1) (yu := (D3_X1_fewestToBreak kN tO w.c v.p v.de w.h w.k w.a w.b w.o W R (nwr v.kn) (nwr v.mu) (nwr v.mn) (kx v)).2.2.2.2.1) (yb := (D3_X1_fewestToBreak kN tO w.c v.p v.de w.h w.k w.a w.b w.o W R (nwr v.kn) (nwr v.mu) (nwr v.mn) (kx v)).2.2.2.2.2) (kN := (D3_X1_fewestToBreak kN tO w.c v.p v.de w.h w.k w.a w.b w.o W R (nwr v.kn) (nwr v.mu) (nwr v.mn) (kx v)).2.1) (tO := (D3_X1_fewestToBreak kN tO w.c v.p v.de w.h w.k w.a w.b w.o W R (nwr v.kn) (nwr v.mu) (nwr v.mn) (kx v)).2.2.1) H (Nat.zero_le _) ((fS_none 2 0 0).mp e2)
        cases e3 : fS (BKf v w) w.c 3 0 0 with
        | some l =>
          rw [e3] at h3
          obtain ⟨a, b⟩ := h3
          rw [if_neg (show ¬ (D4_X1_fewestToBreak kN tO w.c v.p v.de w.h w.k w.a w.b w.o W R (nwr v.kn) (nwr v.mu) (nwr v.mn) (kx v)).1 = 0 from fun q => by rw [show (D4_X1_fewestToBreak kN tO w.c v.p v.de w.h w.k w.a w.b w.o W R (nwr v.kn) (nwr v.mu) (nwr v.mn) (kx v)).1 = 1 from a] at q; exact absurd q (by decide))]
          exact ⟨by rw [(fS_srt _ _ _ _ e3).1]; rfl, b⟩
        | none =>
          rw [e3] at h3
          rw [if_pos (show (D4_X1_fewestToBreak kN tO w.c v.p v.de w.h w.k w.a w.b w.o W R (nwr v.kn) (nwr v.mu) (nwr v.mn) (kx v)).1 = 0 from h3)]
          exact (rfl : (-1 : Int32) = -1)
theorem bk_cls {np i : Nat} {V : Nat → VV} {P : Nat → PP} {W R kN tO : Nat → Int32} {yd y : Int32} {yu yb : Int64} (hnp : np ≤ 12) (hi : i < np) (ok : VOK (V (P i).v)) (nl : NLP (V (P i).v)) (hw : PWF (V (P i).v).p (P i)) (ho : ORD (P i)) : (F_X11_breaks1 (P i).c (V (P i).v).p (V (P i).v).de yd yu yb kN tO (P i).h (P i).k (P i).a (P i).b (P i).o W R (nwr (V (P i).v).kn) (nwr (V (P i).v).mu) (nwr (V (P i).v).mn) (kx (V (P i).v)) y).1 = bkA np V P (nI i) y := by
  rw [bkA_ok hnp hi]
  have h := fw_cls (W := W) (R := R) (kN := kN) (tO := tO) ok nl hw ho
  unfold F_X11_breaks1
  generalize F_X1_fewestToBreak kN tO (P i).c (V (P i).v).p (V (P i).v).de (P i).h (P i).k (P i).a (P i).b (P i).o W R (nwr (V (P i).v).kn) (nwr (V (P i).v).mu) (nwr (V (P i).v).mn) (kx (V (P i).v)) = s at h ⊢
  cases e : bkS (BKf (V (P i).v) (P i)) (P i).c with
  | none =>
    rw [e] at h
    have h : s.1 = -1 := h
    show _ = (-1 : Int32)
    by_cases c1 : (-1 : Int32) ≤ y
    · rw [if_pos c1]
      by_cases c2 : y = -1
      · rw [if_pos c2]; exact h
      · rw [if_neg c2, if_pos h]; exact h
    · rw [if_neg c1]
  | some l =>
    rw [e] at h
    obtain ⟨h1, h2⟩ := h
    obtain ⟨l3, hs⟩ := bkS_srt e
    show _ = if y = -1 then nI l.length else (if y < 0 then -1 else (if y < nI l.length then nI (l.getD (tN y) 0) else -1))
    by_cases c2 : y = -1
    · rw [if_pos (show (-1 : Int32) ≤ y by rw [c2]; exact Int32.le_refl _), if_pos c2, if_pos c2]
      exact h1
    · rw [if_neg c2]
      by_cases c3 : y < 0
      · rw [if_pos c3]
        rw [if_neg (show ¬ (-1 : Int32) ≤ y from fun q => c2 (by
          have q1 := Int32.le_iff_toInt_le.mp q
          have q2 := Int32.lt_iff_toInt_lt.mp c3
          rw [show (-1 : Int32).toInt = -1 from by decide] at q1
          rw [show (0 : Int32).toInt = 0 from by decide] at q2
          exact Int32.toInt_inj.mp (by rw [show (-1 : Int32).toInt = -1 from by decide]; omega)))]
        exact (if_neg c2).symm
      · rw [if_neg c3, if_pos (Int32.le_trans (show (-1 : Int32) ≤ 0 by decide) (Int32.not_lt.mp c3)), if_neg c2]
        have n1 : ¬ s.1 = -1 := fun q => m1_ne (show l.length < 2 ^ 31 by omega) (q.symm.trans h1)
        rw [if_neg n1]
        by_cases c4 : y < nI l.length
        · rw [if_neg (show ¬ s.1 ≤ y from fun q => absurd c4 (Int32.not_lt.mpr (by rw [← h1]; exact q))), if_pos c4]
          obtain ⟨ey, hy⟩ := tN_in (n := l.length) (by omega) (Int32.not_lt.mp c3) c4
          show F_X1_breakingCall s.2.2.2.2.2.2.2 y = _
          have hc := hw.1
          have hs40 : SRT 40 0 l := by
            have : ∀ (r : List Nat) (f : Nat), SRT (P i).c f r → SRT 40 f r := by
              intro r
              induction r with
              | nil => intro _ _; trivial
              | cons x r ih => intro f hr; exact ⟨hr.1, by have := hr.2.1; omega, ih _ hr.2.2⟩
            exact this l 0 hs
          have hbc := bc_at (S := bits 0 l) 41 0 l (tN y) (by omega) hs40 hy (fun q _ hq => (lb_bits (c := 40) (Nat.le_refl _) (by omega) l 0 0 hs40).trans ⟨fun z => z.elim (fun z => by rw [lb_0] at z; cases z) id, Or.inr⟩)
          rw [← ey] at hbc
          rw [h2]
          exact hbc
        · rw [if_pos (show s.1 ≤ y by rw [h1]; exact Int32.not_lt.mp c4), if_neg c4]
/-! the reference's search -/
def RBR (d : Nat) (bK : Nat → Int32) (o : Option (List Nat)) (r : Int32) (b : Nat → Int32) : Prop := match o with
  | some l => r = 1 ∧ (∀ t : Nat, t < l.length → b (d + t) = nI (l.getD t 0)) ∧ ∀ t : Nat, t < d → b t = bK t
  | none => r = 0 ∧ ∀ t : Nat, t < d → b t = bK t
def RHY (F G : Nat → Nat → Int32) (v : VV) (w : PP) (i : Nat) (W R : Nat → Int32) : Prop := VOK v ∧ NLP v ∧ RP1 F w.v v ∧ PWF v.p w ∧ JD v w W R ∧ PRW G i w
section
variable {F G : Nat → Nat → Int32} {v : VV} {w : PP} {i : Nat} {W R : Nat → Int32}
theorem rb_0 (H : RHY F G v w i W R) {lo : Int64} {d f : Nat} {aF oN fR tW bK : Nat → Int32} (hf : f ≤ w.c) : RBR d bK (fS (BKf v w) w.c 0 f lo) (F_X12_breaksBy0 (F 8) (F 9) (F 11) (G 23) (G 24) (G 25) W R aF oN fR tW (F 10) bK v.p i w.v w.c lo).1 (F_X12_breaksBy0 (F 8) (F 9) (F 11) (G 23) (G 24) (G 25) W R aF oN fR tW (F 10) bK v.p i w.v w.c lo).2.2.2.2.2 := by
  obtain ⟨ok, nl, hr, hw, hJ, g⟩ := H
  have e : (F_X12_bears (F 8) (F 9) (F 11) (G 23) (G 24) (G 25) W R aF oN fR tW (F 10) v.p i w.v w.c lo (-1)).1 = BKf v w lo := bears_ref ok nl hr hw hJ g
  unfold F_X12_breaksBy0
  by_cases d0 : BKf v w lo = 0
  · rw [if_pos (e.trans d0), show fS (BKf v w) w.c 0 f lo = some [] from if_pos d0]
    exact ⟨rfl, fun t ht => absurd ht (Nat.not_lt_zero _), fun _ _ => rfl⟩
  · rw [if_neg (fun q => d0 (e.symm.trans q)), show fS (BKf v w) w.c 0 f lo = none from if_neg d0]
    exact ⟨rfl, fun _ _ => rfl⟩
theorem rb1_loop (H : RHY F G v w i W R) {lo : Int64} {d f : Nat} : ∀ (m j : Nat) (aF oN fR tW bK : Nat → Int32), w.c < m + (f + j) → f + j ≤ w.c → RBR d bK (fL (fS (BKf v w) w.c 0) w.c m (f + j) lo) (L1_X12_breaksBy1 (F 8) (F 9) (F 11) (G 23) (G 24) (G 25) W R (F 10) v.p i w.v w.c d f lo m j aF oN fR tW bK).1 (L1_X12_breaksBy1 (F 8) (F 9) (F 11) (G 23) (G 24) (G 25) W R (F 10) v.p i w.v w.c d f lo m j aF oN fR tW bK).2.2.2.2.2
  | 0, j, _, _, _, _, _, hm, hj => absurd hm (by omega)
  | m + 1, j, aF, oN, fR, tW, bK, hm, hj => by
    have hc := H.2.2.2.1.1
    have ih := rb1_loop (lo := lo) (d := d) (f := f) H m (j + 1)
    rw [L1_X12_breaksBy1]
    by_cases c1 : w.c ≤ f + j
    · rw [if_pos (show nI w.c ≤ nI (f + j) by rw [show f + j = w.c by omega]; exact Int32.le_refl _), fL_end c1]
      exact ⟨rfl, fun _ _ => rfl⟩
    · rw [if_neg (fun q => c1 ((nI_leI (a := w.c) (b := f + j) (by omega) (by omega)).mp q))]
      have lt : f + j < w.c := by omega
      have hK := rb_0 (lo := lo ||| bL (f + j)) (d := d + 1) (f := f + j + 1) (aF := aF) (oN := oN) (fR := fR) (tW := tW) (bK := upd bK d (nI (f + j))) H (by omega)
      cases e : fS (BKf v w) w.c 0 (f + j + 1) (lo ||| bL (f + j)) with
      | some l =>
        rw [e] at hK
        obtain ⟨a, b1, b2⟩ := hK
        rw [if_neg (show ¬ (F_X12_breaksBy0 (F 8) (F 9) (F 11) (G 23) (G 24) (G 25) W R aF oN fR tW (F 10) (upd bK d (nI (f + j))) v.p i w.v w.c (lo ||| bL (f + j))).1 = 0 from fun q => by rw [a] at q; exact absurd q (by decide)), fL_some lt e]
        refine ⟨rfl, fun t ht => ?_, fun t ht => ?_⟩
        · cases t with
          | zero => exact (b2 d (Nat.lt_succ_self _)).trans upd_eq
          | succ t =>
            rw [List.length_cons] at ht
            have q := b1 t (by omega)
            rw [show d + 1 + t = d + (t + 1) by omega] at q
            exact q
        · exact (b2 t (by omega)).trans (upd_ne (by omega))
      | none =>
        rw [e] at hK
        obtain ⟨a, b2⟩ := hK
        rw [if_pos (show (F_X12_breaksBy0 (F 8) (F 9) (F 11) (G 23) (G 24) (G 25) W R aF oN fR tW (F 10) (upd bK d (nI (f + j))) v.p i w.v w.c (lo ||| bL (f + j))).1 = 0 from a), fL_next lt e]
        have hn := ih (F_X12_breaksBy0 (F 8) (F 9) (F 11) (G 23) (G 24) (G 25) W R aF oN fR tW (F 10) (upd bK d (nI (f + j))) v.p i w.v w.c (lo ||| bL (f + j))).2.1 (F_X12_breaksBy0 (F 8) (F 9) (F 11) (G 23) (G 24) (G 25) W R aF oN fR tW (F 10) (upd bK d (nI (f + j))) v.p i w.v w.c (lo ||| bL (f + j))).2.2.1 (F_X12_breaksBy0 (F 8) (F 9) (F 11) (G 23) (G 24) (G 25) W R aF oN fR tW (F 10) (upd bK d (nI (f + j))) v.p i w.v w.c (lo ||| bL (f + j))).2.2.2.1 (F_X12_breaksBy0 (F 8) (F 9) (F 11) (G 23) (G 24) (G 25) W R aF oN fR tW (F 10) (upd bK d (nI (f + j))) v.p i w.v w.c (lo ||| bL (f + j))).2.2.2.2.1 (F_X12_breaksBy0 (F 8) (F 9) (F 11) (G 23) (G 24) (G 25) W R aF oN fR tW (F 10) (upd bK d (nI (f + j))) v.p i w.v w.c (lo ||| bL (f + j))).2.2.2.2.2 (by omega) (by omega)
        show RBR d bK (fL (fS (BKf v w) w.c 0) w.c m (f + (j + 1)) lo) _ _
        cases e2 : fL (fS (BKf v w) w.c 0) w.c m (f + (j + 1)) lo with
        | some l =>
          rw [e2] at hn
          obtain ⟨x1, x2, x3⟩ := hn
          exact ⟨x1, x2, fun t ht => (x3 t ht).trans ((b2 t (by omega)).trans (upd_ne (by omega)))⟩
        | none =>
          rw [e2] at hn
          obtain ⟨x1, x3⟩ := hn
          exact ⟨x1, fun t ht => (x3 t ht).trans ((b2 t (by omega)).trans (upd_ne (by omega)))⟩
theorem rb_1 (H : RHY F G v w i W R) {lo : Int64} {d f : Nat} {aF oN fR tW bK : Nat → Int32} (hf : f ≤ w.c) : RBR d bK (fS (BKf v w) w.c 1 f lo) (F_X12_breaksBy1 (F 8) (F 9) (F 11) (G 23) (G 24) (G 25) W R aF oN fR tW (F 10) bK v.p i w.v w.c d f lo).1 (F_X12_breaksBy1 (F 8) (F 9) (F 11) (G 23) (G 24) (G 25) W R aF oN fR tW (F 10) bK v.p i w.v w.c d f lo).2.2.2.2.2 :=
  rb1_loop H (w.c - f + 1) 0 _ _ _ _ _ (by omega) hf
theorem rb2_loop (H : RHY F G v w i W R) {lo : Int64} {d f : Nat} : ∀ (m j : Nat) (aF oN fR tW bK : Nat → Int32), w.c < m + (f + j) → f + j ≤ w.c → RBR d bK (fL (fS (BKf v w) w.c 1) w.c m (f + j) lo) (L1_X12_breaksBy2 (F 8) (F 9) (F 11) (G 23) (G 24) (G 25) W R (F 10) v.p i w.v w.c d f lo m j aF oN fR tW bK).1 (L1_X12_breaksBy2 (F 8) (F 9) (F 11) (G 23) (G 24) (G 25) W R (F 10) v.p i w.v w.c d f lo m j aF oN fR tW bK).2.2.2.2.2
  | 0, j, _, _, _, _, _, hm, hj => absurd hm (by omega)
  | m + 1, j, aF, oN, fR, tW, bK, hm, hj => by
    have hc := H.2.2.2.1.1
    have ih := rb2_loop (lo := lo) (d := d) (f := f) H m (j + 1)
    rw [L1_X12_breaksBy2]
    by_cases c1 : w.c ≤ f + j
    · rw [if_pos (show nI w.c ≤ nI (f + j) by rw [show f + j = w.c by omega]; exact Int32.le_refl _), fL_end c1]
      exact ⟨rfl, fun _ _ => rfl⟩
    · rw [if_neg (fun q => c1 ((nI_leI (a := w.c) (b := f + j) (by omega) (by omega)).mp q))]
      have lt : f + j < w.c := by omega
      have hK := rb_1 (lo := lo ||| bL (f + j)) (d := d + 1) (f := f + j + 1) (aF := aF) (oN := oN) (fR := fR) (tW := tW) (bK := upd bK d (nI (f + j))) H (by omega)
      cases e : fS (BKf v w) w.c 1 (f + j + 1) (lo ||| bL (f + j)) with
      | some l =>
        rw [e] at hK
        obtain ⟨a, b1, b2⟩ := hK
        rw [if_neg (show ¬ (F_X12_breaksBy1 (F 8) (F 9) (F 11) (G 23) (G 24) (G 25) W R aF oN fR tW (F 10) (upd bK d (nI (f + j))) v.p i w.v w.c (d + 1) (f + j + 1) (lo ||| bL (f + j))).1 = 0 from fun q => by rw [a] at q; exact absurd q (by decide)), fL_some lt e]
        refine ⟨rfl, fun t ht => ?_, fun t ht => ?_⟩
        · cases t with
          | zero => exact (b2 d (Nat.lt_succ_self _)).trans upd_eq
          | succ t =>
            rw [List.length_cons] at ht
            have q := b1 t (by omega)
            rw [show d + 1 + t = d + (t + 1) by omega] at q
            exact q
        · exact (b2 t (by omega)).trans (upd_ne (by omega))
      | none =>
        rw [e] at hK
        obtain ⟨a, b2⟩ := hK
        rw [if_pos (show (F_X12_breaksBy1 (F 8) (F 9) (F 11) (G 23) (G 24) (G 25) W R aF oN fR tW (F 10) (upd bK d (nI (f + j))) v.p i w.v w.c (d + 1) (f + j + 1) (lo ||| bL (f + j))).1 = 0 from a), fL_next lt e]
        have hn := ih (F_X12_breaksBy1 (F 8) (F 9) (F 11) (G 23) (G 24) (G 25) W R aF oN fR tW (F 10) (upd bK d (nI (f + j))) v.p i w.v w.c (d + 1) (f + j + 1) (lo ||| bL (f + j))).2.1 (F_X12_breaksBy1 (F 8) (F 9) (F 11) (G 23) (G 24) (G 25) W R aF oN fR tW (F 10) (upd bK d (nI (f + j))) v.p i w.v w.c (d + 1) (f + j + 1) (lo ||| bL (f + j))).2.2.1 (F_X12_breaksBy1 (F 8) (F 9) (F 11) (G 23) (G 24) (G 25) W R aF oN fR tW (F 10) (upd bK d (nI (f + j))) v.p i w.v w.c (d + 1) (f + j + 1) (lo ||| bL (f + j))).2.2.2.1 (F_X12_breaksBy1 (F 8) (F 9) (F 11) (G 23) (G 24) (G 25) W R aF oN fR tW (F 10) (upd bK d (nI (f + j))) v.p i w.v w.c (d + 1) (f + j + 1) (lo ||| bL (f + j))).2.2.2.2.1 (F_X12_breaksBy1 (F 8) (F 9) (F 11) (G 23) (G 24) (G 25) W R aF oN fR tW (F 10) (upd bK d (nI (f + j))) v.p i w.v w.c (d + 1) (f + j + 1) (lo ||| bL (f + j))).2.2.2.2.2 (by omega) (by omega)
        show RBR d bK (fL (fS (BKf v w) w.c 1) w.c m (f + (j + 1)) lo) _ _
        cases e2 : fL (fS (BKf v w) w.c 1) w.c m (f + (j + 1)) lo with
        | some l =>
          rw [e2] at hn
          obtain ⟨x1, x2, x3⟩ := hn
          exact ⟨x1, x2, fun t ht => (x3 t ht).trans ((b2 t (by omega)).trans (upd_ne (by omega)))⟩
        | none =>
          rw [e2] at hn
          obtain ⟨x1, x3⟩ := hn
          exact ⟨x1, fun t ht => (x3 t ht).trans ((b2 t (by omega)).trans (upd_ne (by omega)))⟩
theorem rb_2 (H : RHY F G v w i W R) {lo : Int64} {d f : Nat} {aF oN fR tW bK : Nat → Int32} (hf : f ≤ w.c) : RBR d bK (fS (BKf v w) w.c 2 f lo) (F_X12_breaksBy2 (F 8) (F 9) (F 11) (G 23) (G 24) (G 25) W R aF oN fR tW (F 10) bK v.p i w.v w.c d f lo).1 (F_X12_breaksBy2 (F 8) (F 9) (F 11) (G 23) (G 24) (G 25) W R aF oN fR tW (F 10) bK v.p i w.v w.c d f lo).2.2.2.2.2 :=
  rb2_loop H (w.c - f + 1) 0 _ _ _ _ _ (by omega) hf
theorem rb3_loop (H : RHY F G v w i W R) {lo : Int64} {d f : Nat} : ∀ (m j : Nat) (aF oN fR tW bK : Nat → Int32), w.c < m + (f + j) → f + j ≤ w.c → RBR d bK (fL (fS (BKf v w) w.c 2) w.c m (f + j) lo) (L1_X12_breaksBy3 (F 8) (F 9) (F 11) (G 23) (G 24) (G 25) W R (F 10) v.p i w.v w.c d f lo m j aF oN fR tW bK).1 (L1_X12_breaksBy3 (F 8) (F 9) (F 11) (G 23) (G 24) (G 25) W R (F 10) v.p i w.v w.c d f lo m j aF oN fR tW bK).2.2.2.2.2
  | 0, j, _, _, _, _, _, hm, hj => absurd hm (by omega)
  | m + 1, j, aF, oN, fR, tW, bK, hm, hj => by
    have hc := H.2.2.2.1.1
    have ih := rb3_loop (lo := lo) (d := d) (f := f) H m (j + 1)
    rw [L1_X12_breaksBy3]
    by_cases c1 : w.c ≤ f + j
    · rw [if_pos (show nI w.c ≤ nI (f + j) by rw [show f + j = w.c by omega]; exact Int32.le_refl _), fL_end c1]
      exact ⟨rfl, fun _ _ => rfl⟩
    · rw [if_neg (fun q => c1 ((nI_leI (a := w.c) (b := f + j) (by omega) (by omega)).mp q))]
      have lt : f + j < w.c := by omega
      have hK := rb_2 (lo := lo ||| bL (f + j)) (d := d + 1) (f := f + j + 1) (aF := aF) (oN := oN) (fR := fR) (tW := tW) (bK := upd bK d (nI (f + j))) H (by omega)
      cases e : fS (BKf v w) w.c 2 (f + j + 1) (lo ||| bL (f + j)) with
      | some l =>
        rw [e] at hK
        obtain ⟨a, b1, b2⟩ := hK
        rw [if_neg (show ¬ (F_X12_breaksBy2 (F 8) (F 9) (F 11) (G 23) (G 24) (G 25) W R aF oN fR tW (F 10) (upd bK d (nI (f + j))) v.p i w.v w.c (d + 1) (f + j + 1) (lo ||| bL (f + j))).1 = 0 from fun q => by rw [a] at q; exact absurd q (by decide)), fL_some lt e]
        refine ⟨rfl, fun t ht => ?_, fun t ht => ?_⟩
        · cases t with
          | zero => exact (b2 d (Nat.lt_succ_self _)).trans upd_eq
          | succ t =>
            rw [List.length_cons] at ht
            have q := b1 t (by omega)
            rw [show d + 1 + t = d + (t + 1) by omega] at q
            exact q
        · exact (b2 t (by omega)).trans (upd_ne (by omega))
      | none =>
        rw [e] at hK
        obtain ⟨a, b2⟩ := hK
        rw [if_pos (show (F_X12_breaksBy2 (F 8) (F 9) (F 11) (G 23) (G 24) (G 25) W R aF oN fR tW (F 10) (upd bK d (nI (f + j))) v.p i w.v w.c (d + 1) (f + j + 1) (lo ||| bL (f + j))).1 = 0 from a), fL_next lt e]
        have hn := ih (F_X12_breaksBy2 (F 8) (F 9) (F 11) (G 23) (G 24) (G 25) W R aF oN fR tW (F 10) (upd bK d (nI (f + j))) v.p i w.v w.c (d + 1) (f + j + 1) (lo ||| bL (f + j))).2.1 (F_X12_breaksBy2 (F 8) (F 9) (F 11) (G 23) (G 24) (G 25) W R aF oN fR tW (F 10) (upd bK d (nI (f + j))) v.p i w.v w.c (d + 1) (f + j + 1) (lo ||| bL (f + j))).2.2.1 (F_X12_breaksBy2 (F 8) (F 9) (F 11) (G 23) (G 24) (G 25) W R aF oN fR tW (F 10) (upd bK d (nI (f + j))) v.p i w.v w.c (d + 1) (f + j + 1) (lo ||| bL (f + j))).2.2.2.1 (F_X12_breaksBy2 (F 8) (F 9) (F 11) (G 23) (G 24) (G 25) W R aF oN fR tW (F 10) (upd bK d (nI (f + j))) v.p i w.v w.c (d + 1) (f + j + 1) (lo ||| bL (f + j))).2.2.2.2.1 (F_X12_breaksBy2 (F 8) (F 9) (F 11) (G 23) (G 24) (G 25) W R aF oN fR tW (F 10) (upd bK d (nI (f + j))) v.p i w.v w.c (d + 1) (f + j + 1) (lo ||| bL (f + j))).2.2.2.2.2 (by omega) (by omega)
        show RBR d bK (fL (fS (BKf v w) w.c 2) w.c m (f + (j + 1)) lo) _ _
        cases e2 : fL (fS (BKf v w) w.c 2) w.c m (f + (j + 1)) lo with
        | some l =>
          rw [e2] at hn
          obtain ⟨x1, x2, x3⟩ := hn
          exact ⟨x1, x2, fun t ht => (x3 t ht).trans ((b2 t (by omega)).trans (upd_ne (by omega)))⟩
        | none =>
          rw [e2] at hn
          obtain ⟨x1, x3⟩ := hn
          exact ⟨x1, fun t ht => (x3 t ht).trans ((b2 t (by omega)).trans (upd_ne (by omega)))⟩
theorem rb_3 (H : RHY F G v w i W R) {lo : Int64} {d f : Nat} {aF oN fR tW bK : Nat → Int32} (hf : f ≤ w.c) : RBR d bK (fS (BKf v w) w.c 3 f lo) (F_X12_breaksBy3 (F 8) (F 9) (F 11) (G 23) (G 24) (G 25) W R aF oN fR tW (F 10) bK v.p i w.v w.c d f lo).1 (F_X12_breaksBy3 (F 8) (F 9) (F 11) (G 23) (G 24) (G 25) W R aF oN fR tW (F 10) bK v.p i w.v w.c d f lo).2.2.2.2.2 :=
  rb3_loop H (w.c - f + 1) 0 _ _ _ _ _ (by omega) hf
end
/-- the reference's answer when it has found one, by its own row -/
theorem rk_out {d : Nat → Int32} {l : List Nat} {y many : Int32} (hm : many = nI l.length) (h3 : l.length ≤ 3) (hl : 0 < l.length) (b1 : ∀ t : Nat, t < l.length → d (0 + t) = nI (l.getD t 0)) : (if y = -1 then many else (if F_X12_isIn y 0 (nI (l.length - 1)) = 0 then -1 else d (tN y))) = bkO (some l) y := by
  show _ = if y = -1 then nI l.length else (if y < 0 then -1 else (if y < nI l.length then nI (l.getD (tN y) 0) else -1))
  by_cases c1 : y = -1
  · rw [if_pos c1, if_pos c1, hm]
  · rw [if_neg c1, if_neg c1]
    unfold F_X12_isIn
    by_cases c2 : y < 0
    · rw [if_pos c2, if_pos rfl, if_pos c2]
    · rw [if_neg c2, if_neg c2]
      by_cases c3 : y < nI l.length
      · obtain ⟨ey, hy⟩ := tN_in (n := l.length) (by omega) (Int32.not_lt.mp c2) c3
        rw [if_neg (show ¬ nI (l.length - 1) < y from fun q => by
          rw [ey] at q
          have := (nI_ltI (a := l.length - 1) (b := tN y) (by omega) (by omega)).mp q
          omega), if_neg (show ¬ (1 : Int32) = 0 by decide), if_pos c3]
        have q := b1 (tN y) hy
        rw [Nat.zero_add] at q
        exact q
      · rw [if_pos (show nI (l.length - 1) < y from Int32.lt_of_lt_of_le ((nI_ltI (a := l.length - 1) (b := l.length) (by omega) (by omega)).mpr (by omega)) (Int32.not_lt.mp c3)), if_pos rfl, if_neg c3]
theorem bk_ref {nv np : Nat} {V : Nat → VV} {P : Nat → PP} {F G : Nat → Nat → Int32} {W R aF oN fR tW bK : Nat → Int32} {x y : Int32} (hnv : nv ≤ 10) (hnp : np ≤ 12) (hV : RPW nv V F) (ow : ∀ i : Nat, i < nv → OWB (V i)) (hZ : PLX nv V np P) (hG : RPP np P G) : (F_X12_breaks np (F 6) (F 7) (F 12) (F 13) (F 14) (F 15) (F 16) (F 17) (G 21) (G 22) (G 23) (G 24) (G 25) (G 26) W R (F 8) (F 9) (F 11) aF oN fR tW (F 10) bK x y).1 = bkA np V P x y := by
  rcases vin_cases (n := np) (by omega) x with hb | ⟨i, hi, rfl⟩
  · rw [bkA_no hb]
    unfold F_X12_breaks
    rw [rpl_no hb, if_pos rfl]
  · rw [bkA_ok hnp hi]
    obtain ⟨hv, hw⟩ := hZ.1 i hi
    obtain ⟨g21, g22, g⟩ := hG i hi
    obtain ⟨ok, hr⟩ := hV (P i).v hv
    have hc := hw.1
    have hp := ok.1
    have hlc := ok.2.1
    have ei : tN (nI i) = i := tN_nI (by omega)
    have ev : tN (G 21 i) = (P i).v := by rw [g21, tN_nI (by omega)]
    have ec : tN (G 22 i) = (P i).c := by rw [g22, tN_nI (by omega)]
    have ep : tN (F 6 (P i).v) = (V (P i).v).p := by rw [hr.1, tN_nI (by omega)]
    have el : tN (F 7 (P i).v) = (V (P i).v).lc := by rw [hr.2.1, tN_nI (by omega)]
    have H : RHY F G (V (P i).v) (P i) i (F_X12_judge (F 12) (F 13) (F 14) (F 15) (F 16) (F 17) (G 23) (G 24) (G 25) (G 26) W R (V (P i).v).lc (V (P i).v).p i (P i).v (P i).c).1 (F_X12_judge (F 12) (F 13) (F 14) (F 15) (F 16) (F 17) (G 23) (G 24) (G 25) (G 26) W R (V (P i).v).lc (V (P i).v).p i (P i).v (P i).c).2 := ⟨ok, hZ.2.2 _ hv, hr, hw, fun _ ht => refJ ok (ow _ hv) (hZ.2.2 _ hv) hr hw g ht, g⟩
    have h0 : RBR 0 bK (fS (BKf (V (P i).v) (P i)) (P i).c 0 0 0) (D1_X12_breaks (F 6) (F 7) (F 12) (F 13) (F 14) (F 15) (F 16) (F 17) (G 21) (G 22) (G 23) (G 24) (G 25) (G 26) W R (F 8) (F 9) (F 11) aF oN fR tW (F 10) bK (nI i)).1 (D1_X12_breaks (F 6) (F 7) (F 12) (F 13) (F 14) (F 15) (F 16) (F 17) (G 21) (G 22) (G 23) (G 24) (G 25) (G 26) W R (F 8) (F 9) (F 11) aF oN fR tW (F 10) bK (nI i)).2.2.2.2.2 := by
      unfold D1_X12_breaks
      rw [ei, ev, ec, ep, el]
      exact rb_0 H (Nat.zero_le _)
    have h1 : RBR 0 (D1_X12_breaks (F 6) (F 7) (F 12) (F 13) (F 14) (F 15) (F 16) (F 17) (G 21) (G 22) (G 23) (G 24) (G 25) (G 26) W R (F 8) (F 9) (F 11) aF oN fR tW (F 10) bK (nI i)).2.2.2.2.2 (fS (BKf (V (P i).v) (P i)) (P i).c 1 0 0) (D2_X12_breaks (F 6) (F 7) (F 12) (F 13) (F 14) (F 15) (F 16) (F 17) (G 21) (G 22) (G 23) (G 24) (G 25) (G 26) W R (F 8) (F 9) (F 11) aF oN fR tW (F 10) bK (nI i)).1 (D2_X12_breaks (F 6) (F 7) (F 12) (F 13) (F 14) (F 15) (F 16) (F 17) (G 21) (G 22) (G 23) (G 24) (G 25) (G 26) W R (F 8) (F 9) (F 11) aF oN fR tW (F 10) bK (nI i)).2.2.2.2.2 := by
      unfold D2_X12_breaks
      rw [ei, ev, ec, ep, el]
      exact rb_1 H (Nat.zero_le _)
    have h2 : RBR 0 (D2_X12_breaks (F 6) (F 7) (F 12) (F 13) (F 14) (F 15) (F 16) (F 17) (G 21) (G 22) (G 23) (G 24) (G 25) (G 26) W R (F 8) (F 9) (F 11) aF oN fR tW (F 10) bK (nI i)).2.2.2.2.2 (fS (BKf (V (P i).v) (P i)) (P i).c 2 0 0) (D3_X12_breaks (F 6) (F 7) (F 12) (F 13) (F 14) (F 15) (F 16) (F 17) (G 21) (G 22) (G 23) (G 24) (G 25) (G 26) W R (F 8) (F 9) (F 11) aF oN fR tW (F 10) bK (nI i)).1 (D3_X12_breaks (F 6) (F 7) (F 12) (F 13) (F 14) (F 15) (F 16) (F 17) (G 21) (G 22) (G 23) (G 24) (G 25) (G 26) W R (F 8) (F 9) (F 11) aF oN fR tW (F 10) bK (nI i)).2.2.2.2.2 := by
      unfold D3_X12_breaks
      rw [ei, ev, ec, ep, el]
      exact rb_2 H (Nat.zero_le _)
    have h3 : RBR 0 (D3_X12_breaks (F 6) (F 7) (F 12) (F 13) (F 14) (F 15) (F 16) (F 17) (G 21) (G 22) (G 23) (G 24) (G 25) (G 26) W R (F 8) (F 9) (F 11) aF oN fR tW (F 10) bK (nI i)).2.2.2.2.2 (fS (BKf (V (P i).v) (P i)) (P i).c 3 0 0) (D4_X12_breaks (F 6) (F 7) (F 12) (F 13) (F 14) (F 15) (F 16) (F 17) (G 21) (G 22) (G 23) (G 24) (G 25) (G 26) W R (F 8) (F 9) (F 11) aF oN fR tW (F 10) bK (nI i)).1 (D4_X12_breaks (F 6) (F 7) (F 12) (F 13) (F 14) (F 15) (F 16) (F 17) (G 21) (G 22) (G 23) (G 24) (G 25) (G 26) W R (F 8) (F 9) (F 11) aF oN fR tW (F 10) bK (nI i)).2.2.2.2.2 := by
      unfold D4_X12_breaks
      rw [ei, ev, ec, ep, el]
      exact rb_3 H (Nat.zero_le _)
    unfold F_X12_breaks bkS
    rw [if_neg (rpl_yes hnp hi)]
    cases e0 : fS (BKf (V (P i).v) (P i)) (P i).c 0 0 0 with
    | some l =>
      rw [e0] at h0
      obtain ⟨a, b1, -⟩ := h0
      have hl := (fS_srt _ _ _ _ e0).1
      rw [if_neg (show ¬ (D1_X12_breaks (F 6) (F 7) (F 12) (F 13) (F 14) (F 15) (F 16) (F 17) (G 21) (G 22) (G 23) (G 24) (G 25) (G 26) W R (F 8) (F 9) (F 11) aF oN fR tW (F 10) bK (nI i)).1 = 0 from fun q => by rw [a] at q; exact absurd q (by decide))]
      try dsimp only
      have hnil : l = [] := List.eq_nil_of_length_eq_zero hl
      subst hnil
      show _ = if y = -1 then nI 0 else (if y < 0 then -1 else (if y < nI 0 then nI (([] : List Nat).getD (tN y) 0) else -1))
      by_cases c1 : y = -1
      · rw [if_pos c1, if_pos c1]; rfl
      · rw [if_neg c1, if_neg c1]
        unfold F_X12_isIn
        by_cases c2 : y < 0
        · rw [if_pos c2, if_pos rfl, if_pos c2]
        · rw [if_neg c2, if_neg c2, if_pos (show (-1 : Int32) < y from Int32.lt_of_lt_of_le (by decide) (Int32.not_lt.mp c2)), if_pos rfl, if_neg (show ¬ y < nI 0 from c2)]
    | none =>
      rw [e0] at h0
      rw [if_pos (show (D1_X12_breaks (F 6) (F 7) (F 12) (F 13) (F 14) (F 15) (F 16) (F 17) (G 21) (G 22) (G 23) (G 24) (G 25) (G 26) W R (F 8) (F 9) (F 11) aF oN fR tW (F 10) bK (nI i)).1 = 0 from h0.1)]
      dsimp only
      cases e1 : fS (BKf (V (P i).v) (P i)) (P i).c 1 0 0 with
      | some l =>
        rw [e1] at h1
        obtain ⟨a, b1, -⟩ := h1
        have hl := (fS_srt _ _ _ _ e1).1
        rw [if_neg (show ¬ (D2_X12_breaks (F 6) (F 7) (F 12) (F 13) (F 14) (F 15) (F 16) (F 17) (G 21) (G 22) (G 23) (G 24) (G 25) (G 26) W R (F 8) (F 9) (F 11) aF oN fR tW (F 10) bK (nI i)).1 = 0 from fun q => by rw [a] at q; exact absurd q (by decide))]
        try dsimp only
        rw [← rk_out (d := (D2_X12_breaks (F 6) (F 7) (F 12) (F 13) (F 14) (F 15) (F 16) (F 17) (G 21) (G 22) (G 23) (G 24) (G 25) (G 26) W R (F 8) (F 9) (F 11) aF oN fR tW (F 10) bK (nI i)).2.2.2.2.2) (many := 1) (by rw [hl]; rfl) (by omega) (by omega) b1, hl]
        by_cases c1 : y = -1
        · rw [if_pos c1, if_pos c1]
        · rw [if_neg c1, if_neg c1]
          by_cases c2 : F_X12_isIn y 0 (nI (1 - 1)) = 0
          · rw [if_pos (show F_X12_isIn y 0 0 = 0 from c2), if_pos c2]
          · rw [if_neg (show ¬ F_X12_isIn y 0 0 = 0 from c2), if_neg c2]
      | none =>
        rw [e1] at h1
        rw [if_pos (show (D2_X12_breaks (F 6) (F 7) (F 12) (F 13) (F 14) (F 15) (F 16) (F 17) (G 21) (G 22) (G 23) (G 24) (G 25) (G 26) W R (F 8) (F 9) (F 11) aF oN fR tW (F 10) bK (nI i)).1 = 0 from h1.1)]
        dsimp only
        cases e2 : fS (BKf (V (P i).v) (P i)) (P i).c 2 0 0 with
        | some l =>
          rw [e2] at h2
          obtain ⟨a, b1, -⟩ := h2
          have hl := (fS_srt _ _ _ _ e2).1
          rw [if_neg (show ¬ (D3_X12_breaks (F 6) (F 7) (F 12) (F 13) (F 14) (F 15) (F 16) (F 17) (G 21) (G 22) (G 23) (G 24) (G 25) (G 26) W R (F 8) (F 9) (F 11) aF oN fR tW (F 10) bK (nI i)).1 = 0 from fun q => by rw [a] at q; exact absurd q (by decide))]
          try dsimp only
          rw [← rk_out (d := (D3_X12_breaks (F 6) (F 7) (F 12) (F 13) (F 14) (F 15) (F 16) (F 17) (G 21) (G 22) (G 23) (G 24) (G 25) (G 26) W R (F 8) (F 9) (F 11) aF oN fR tW (F 10) bK (nI i)).2.2.2.2.2) (many := 2) (by rw [hl]; rfl) (by omega) (by omega) b1, hl]
          by_cases c1 : y = -1
          · rw [if_pos c1, if_pos c1]
          · rw [if_neg c1, if_neg c1]
            by_cases c2 : F_X12_isIn y 0 (nI (2 - 1)) = 0
            · rw [if_pos (show F_X12_isIn y 0 1 = 0 from c2), if_pos c2]
            · rw [if_neg (show ¬ F_X12_isIn y 0 1 = 0 from c2), if_neg c2]
        | none =>
          rw [e2] at h2
          rw [if_pos (show (D3_X12_breaks (F 6) (F 7) (F 12) (F 13) (F 14) (F 15) (F 16) (F 17) (G 21) (G 22) (G 23) (G 24) (G 25) (G 26) W R (F 8) (F 9) (F 11) aF oN fR tW (F 10) bK (nI i)).1 = 0 from h2.1)]
          dsimp only
          cases e3 : fS (BKf (V (P i).v) (P i)) (P i).c 3 0 0 with
          | some l =>
            rw [e3] at h3
            obtain ⟨a, b1, -⟩ := h3
            have hl := (fS_srt _ _ _ _ e3).1
            rw [if_neg (show ¬ (D4_X12_breaks (F 6) (F 7) (F 12) (F 13) (F 14) (F 15) (F 16) (F 17) (G 21) (G 22) (G 23) (G 24) (G 25) (G 26) W R (F 8) (F 9) (F 11) aF oN fR tW (F 10) bK (nI i)).1 = 0 from fun q => by rw [a] at q; exact absurd q (by decide))]
            try dsimp only
            rw [← rk_out (d := (D4_X12_breaks (F 6) (F 7) (F 12) (F 13) (F 14) (F 15) (F 16) (F 17) (G 21) (G 22) (G 23) (G 24) (G 25) (G 26) W R (F 8) (F 9) (F 11) aF oN fR tW (F 10) bK (nI i)).2.2.2.2.2) (many := 3) (by rw [hl]; rfl) (by omega) (by omega) b1, hl]
            by_cases c1 : y = -1
            · rw [if_pos c1, if_pos c1]
            · rw [if_neg c1, if_neg c1]
              by_cases c2 : F_X12_isIn y 0 (nI (3 - 1)) = 0
              · rw [if_pos (show F_X12_isIn y 0 2 = 0 from c2), if_pos c2]
              · rw [if_neg (show ¬ F_X12_isIn y 0 2 = 0 from c2), if_neg c2]
          | none =>
            rw [e3] at h3
            rw [if_pos (show (D4_X12_breaks (F 6) (F 7) (F 12) (F 13) (F 14) (F 15) (F 16) (F 17) (G 21) (G 22) (G 23) (G 24) (G 25) (G 26) W R (F 8) (F 9) (F 11) aF oN fR tW (F 10) bK (nI i)).1 = 0 from h3.1)]
            rfl
