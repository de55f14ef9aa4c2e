/-! what a line more spares: the same on both sides -/
theorem hl_agree {F : Nat → Nat → Int32} {i a b : Nat} {w : VV} (ok : VOK w) (hr : RP1 F i w) : ∀ m j : Nat, j ≤ w.lc → L1_X10_hasLineBetween w.lc w.L (nI a) (nI b) m j = L1_X12_hasLine (F 12) (F 13) w.lc i a b m j
  | 0, j, _ => rfl
  | m + 1, j, h => by
    have hlc := ok.2.1
    rw [L1_X10_hasLineBetween, L1_X12_hasLine]
    by_cases c : nI w.lc ≤ nI j
    · rw [if_pos c, if_pos c]
    · rw [if_neg c, if_neg c]
      have hj : j < w.lc := by
        have z : ¬ w.lc ≤ j := fun z => c ((nI_leI (a := w.lc) (b := j) (by omega) (by omega)).mpr z)
        omega
      obtain ⟨rA, rB, -⟩ := hr.2.2.2.2.1 j hj
      rw [rA, rB, hl_agree ok hr m (j + 1) (by omega)]
/-- whether there is a line between two -/
def hlw (w : VV) (a b : Nat) : Int32 := F_X10_hasLineBetween w.lc w.L (nI a) (nI b)
theorem hlw_ref {F : Nat → Nat → Int32} {i a b : Nat} {w : VV} (ok : VOK w) (hr : RP1 F i w) : F_X12_hasLine (F 12) (F 13) w.lc i a b = hlw w a b := (hl_agree ok hr (w.lc + 1) 0 (Nat.zero_le _)).symm
theorem ol_at {ao bo : Nat} {cA : Nat → Int32} (hne : ¬ ao = bo) (ha : ao < 7) (hb : bo < 7) : ∀ k h x : Nat, 1 ≤ h → x < 7 → L1_X7_openLine ao bo cA k (h * 7 + x) = if h ≤ k ∧ x = ao then cA (h * 7 + x) ||| ((1 : Int32) <<< (nI bo &&& 31)) else if h ≤ k ∧ x = bo then cA (h * 7 + x) ||| ((1 : Int32) <<< (nI ao &&& 31)) else cA (h * 7 + x)
  | 0, h, x, h1, hx => by
    rw [if_neg (fun q => by omega), if_neg (fun q => by omega)]
    rfl
  | k + 1, h, x, h1, hx => by
    have ih := ol_at (cA := cA) hne ha hb k h x h1 hx
    show L1_X7_openLines ao bo k (L1_X7_openLine ao bo cA k) (h * 7 + x) = _
    unfold L1_X7_openLines
    by_cases e : h = k + 1
    · rw [if_neg (fun q => by omega), if_neg (fun q => by omega)] at ih
      by_cases ea : x = ao
      · rw [if_pos ⟨by omega, ea⟩, upd_ne (by omega), show (k + 1) * 7 + ao = h * 7 + x by omega, upd_eq, ih]
      · rw [if_neg (fun q => ea q.2)]
        by_cases eb : x = bo
        · rw [if_pos ⟨by omega, eb⟩, show (k + 1) * 7 + bo = h * 7 + x by omega, upd_eq, upd_ne (by omega), ih]
        · rw [if_neg (fun q => eb q.2), upd_ne (by omega), upd_ne (by omega), ih]
    · rw [upd_ne (by omega), upd_ne (by omega), ih, ite_iff (show (h ≤ k ∧ x = ao) ↔ (h ≤ k + 1 ∧ x = ao) from ⟨fun q => ⟨by omega, q.2⟩, fun q => ⟨by omega, q.2⟩⟩), ite_iff (show (h ≤ k ∧ x = bo) ↔ (h ≤ k + 1 ∧ x = bo) from ⟨fun q => ⟨by omega, q.2⟩, fun q => ⟨by omega, q.2⟩⟩)]
/-- the calls that there are with a line more -/
def opc (w : VV) (ni a b : Nat) : Nat → Int32 := F_X7_openLine (TPw w ni) (cAw w ni) a b
theorem op_cong {w : VV} {ni a b : Nat} {cA : Nat → Int32} (ok : VOK w) (hab : a < b) (hb : b < w.p) : ∀ h x : Nat, 1 ≤ h → h ≤ 24 → x < w.p → F_X7_openLine (TPw w ni) (L1_X7_prepare w.p w.mn (kx w) ni cA 24) a b (h * 7 + x) = opc w ni a b (h * 7 + x) := fun h x h1 h2 hx => by
  have hp := ok.1
  have e := pr_any (nw := ni) (mn := w.mn) (K := kx w) (cA := cA) (cB := fun _ => 0) hp h1 h2 hx
  unfold opc F_X7_openLine
  by_cases c1 : hasv (TPw w ni) (nI a) = 0
  · rw [if_pos c1, if_pos c1]; exact e
  · rw [if_neg c1, if_neg c1]
    by_cases c2 : hasv (TPw w ni) (nI b) = 0
    · rw [if_pos c2, if_pos c2]; exact e
    · rw [if_neg c2, if_neg c2, ol_at (by omega) (by omega) (by omega) 24 h x h1 (by omega), ol_at (by omega) (by omega) (by omega) 24 h x h1 (by omega), e]
/-- the hours that are needed from the first hour on; 25 where it can't be done -/
noncomputable def hfN (w : VV) (ni : Nat) (cA : Nat → Int32) : Int32 := if lsV (ZP w.p 1 w.de (TPw w ni) cA (F_X7_state (w.kn ni) 0) (w.mu ni)) 24 = -1 then 25 else lsV (ZP w.p 1 w.de (TPw w ni) cA (F_X7_state (w.kn ni) 0) (w.mu ni)) 24
theorem hf_val {w : VV} {ni P Q : Nat} {rc rp : Int32} {pw cA cB nw nx fS fO fM fC : Nat → Int32} (ok : VOK w) (hK : KNB w) (hni : ni < 4) (hpt : PWT pw) (hI : RI fS fM rc) (e : ∀ h a : Nat, 1 ≤ h → h ≤ 24 → a < w.p → cA (h * 7 + a) = cB (h * 7 + a)) : (F_X7_hoursFromFirst P Q w.p w.de (TPw w ni) (w.mu ni) cA pw nw nx fS fO fM fC rc rp (w.kn ni)).1 = hfN w ni cB := by
  have h := lh_val (P := P) (Q := Q) (zd := w.de) (zt := TPw w ni) (zm := w.mu ni) (cA := cA) (now := nw) (nx := nx) (O := fO) (C := fC) (rp := rp) hpt ok.1 (show 1 ≤ 24 by omega) (kn_s7 ok hK hni) s7_0 (and_0r _) hI
  have h2 := lsV_eq (h.iff (P2 := ZP w.p 1 w.de (TPw w ni) cB (F_X7_state (w.kn ni) 0) (w.mu ni)) fun n hn => zp_cong (by omega) e (by omega))
  rw [show 25 - 1 = 24 from rfl] at h2
  unfold F_X7_hoursFromFirst hfN
  rw [h2]
  by_cases c : lsV (ZP w.p 1 w.de (TPw w ni) cB (F_X7_state (w.kn ni) 0) (w.mu ni)) 24 = -1
  · rw [if_pos c, if_pos c]
  · rw [if_neg c, if_neg c]
theorem mn25 {Z : Nat → Prop} {v : Int32} (h : MV Z 24 v) : mn2 25 v = if lsV Z 24 = -1 then 25 else lsV Z 24 := by
  rw [← lsV_eq (mv_lsa (by omega) h)]
  rcases h with ⟨a1, _⟩ | ⟨n, hn, a2, _⟩
  · rw [a1]; decide
  · rw [a2]
    exact (by decide +kernel : ∀ n : Nat, n < 25 → mn2 25 (nI n) = if (if nI n = 99 then (-1 : Int32) else nI n) = -1 then 25 else if nI n = 99 then (-1 : Int32) else nI n) n (by omega)
theorem lsa_ex (Z : Nat → Prop) : ∀ b : Nat, ∃ v : Int32, LSA Z b v
  | 0 => by
    by_cases h : Z 0
    · exact ⟨nI 0, Or.inr ⟨0, Nat.le_refl _, rfl, h, fun k hk => absurd hk (Nat.not_lt_zero _)⟩⟩
    · refine ⟨-1, Or.inl ⟨rfl, fun n hn => ?_⟩⟩
      have e : n = 0 := by omega
      rw [e]; exact h
  | b + 1 => by
    obtain ⟨v, hv⟩ := lsa_ex Z b
    rcases hv with ⟨e, h⟩ | ⟨n, h1, h2, h3, h4⟩
    · by_cases h' : Z (b + 1)
      · exact ⟨nI (b + 1), Or.inr ⟨b + 1, Nat.le_refl _, rfl, h', fun k hk => h k (by omega)⟩⟩
      · refine ⟨-1, Or.inl ⟨rfl, fun n hn => ?_⟩⟩
        by_cases q : n = b + 1
        · rw [q]; exact h'
        · exact h n (by omega)
    · exact ⟨v, Or.inr ⟨n, by omega, h2, h3, h4⟩⟩
theorem lsV_spec (Z : Nat → Prop) (b : Nat) : LSA Z b (lsV Z b) := Classical.epsilon_spec (lsa_ex Z b)
theorem hfN_lt {w : VV} {ni : Nat} {cA : Nat → Int32} : hfN w ni cA < 26 := by
  unfold hfN
  rcases lsV_spec (ZP w.p 1 w.de (TPw w ni) cA (F_X7_state (w.kn ni) 0) (w.mu ni)) 24 with ⟨e, _⟩ | ⟨n, hn, e, _, _⟩
  · rw [e]; decide
  · rw [e]
    exact (by decide +kernel : ∀ n : Nat, n < 25 → (if nI n = (-1 : Int32) then (25 : Int32) else nI n) < 26) n (by omega)
theorem lt26 {u : Int32} (h : u < 26) : ¬ 25 < u := fun q => by
  have a := Int32.lt_iff_toInt_lt.mp h
  have b := Int32.lt_iff_toInt_lt.mp q
  rw [show (26 : Int32).toInt = 26 from by decide] at a
  rw [show (25 : Int32).toInt = 25 from by decide] at b
  omega
/-! over all couples -/
def adS (hl f : Nat → Nat → Int32) (a b : Nat) (s : Int32 × Int32 × Int32) : Int32 × Int32 × Int32 := if hl a b = 0 then (if f a b < s.1 then (f a b, nI a, nI b) else s) else s
def ad2 (hl f : Nat → Nat → Int32) (a : Nat) (s : Int32 × Int32 × Int32) : Nat → Int32 × Int32 × Int32
  | 0 => s
  | k + 1 => adS hl f a (a + 1 + k) (ad2 hl f a s k)
def ad1 (hl f : Nat → Nat → Int32) (p : Nat) (s : Int32 × Int32 × Int32) : Nat → Int32 × Int32 × Int32
  | 0 => s
  | k + 1 => ad2 hl f k (ad1 hl f p s k) (p - (k + 1))
/-- from two starts -/
def adR (s0 s t : Int32 × Int32 × Int32) : Prop := (s = s0 ∧ t = (99, -1, -1)) ∨ (s = t ∧ s.1 < 26 ∧ ¬ s.2.1 = -1)
section
variable {hl f : Nat → Nat → Int32} {p : Nat} {s0 : Int32 × Int32 × Int32}
theorem adR_S (h0 : s0.1 = 26) {a b : Nat} (ha : a < 7) (hf : f a b < 26) {s t : Int32 × Int32 × Int32} (h : adR s0 s t) : adR s0 (adS hl f a b s) (adS hl f a b t) := by
  unfold adS
  by_cases c : hl a b = 0
  · rw [if_pos c, if_pos c]
    rcases h with ⟨rfl, rfl⟩ | ⟨rfl, h1, h2⟩
    · rw [if_pos (by rw [h0]; exact hf), if_pos (show f a b < 99 from Int32.lt_trans hf (by decide))]
      exact Or.inr ⟨rfl, hf, fun q => m1_ne (show a < 2 ^ 31 by omega) q.symm⟩
    · by_cases d : f a b < s.1
      · rw [if_pos d]
        exact Or.inr ⟨rfl, hf, fun q => m1_ne (show a < 2 ^ 31 by omega) q.symm⟩
      · rw [if_neg d]
        exact Or.inr ⟨rfl, h1, h2⟩
  · rw [if_neg c, if_neg c]; exact h
theorem adR_2 (h0 : s0.1 = 26) {a : Nat} (ha : a < 7) {s t : Int32 × Int32 × Int32} (h : adR s0 s t) : ∀ k : Nat, (∀ b : Nat, a < b → b < a + 1 + k → f a b < 26) → adR s0 (ad2 hl f a s k) (ad2 hl f a t k)
  | 0, _ => h
  | k + 1, hf => adR_S h0 ha (hf _ (by omega) (by omega)) (adR_2 h0 ha h k fun b h1 h2 => hf b h1 (by omega))
theorem adR_1 (h0 : s0.1 = 26) (hp : p ≤ 7) (hf : ∀ a b : Nat, a < b → b < p → f a b < 26) : ∀ k : Nat, k ≤ p → adR s0 (ad1 hl f p s0 k) (ad1 hl f p (99, -1, -1) k)
  | 0, _ => Or.inl ⟨rfl, rfl⟩
  | k + 1, hk => adR_2 h0 (by omega) (adR_1 h0 hp hf k (by omega)) _ fun b h1 h2 => hf k b h1 (by omega)
end
noncomputable def adV (w : VV) (ni a b : Nat) : Int32 := hfN w ni (opc w ni a b)
/-- the best couple: what is needed with it, and who they are; 99: there is none -/
noncomputable def adT (w : VV) (ni : Nat) : Int32 × Int32 × Int32 := ad1 (hlw w) (adV w ni) w.p (99, -1, -1) w.p
noncomputable def adA (w : VV) (y z : Int32) : Int32 := if F_X11_isNews y = 0 then -1 else if F_X12_isIn z 0 2 = 0 then -1 else if (adT w (tN y)).2.1 = -1 then -1 else if z = 0 then (adT w (tN y)).2.1 else if z = 1 then (adT w (tN y)).2.2 else hfN w (tN y) (cAw w (tN y)) - (adT w (tN y)).1
section
variable {w : VV} {ni : Nat} {pw : Nat → Int32}
theorem cs2 (ok : VOK w) (hK : KNB w) (hni : ni < 4) (hpt : PWT pw) {j1 : Nat} {i0 i9 i10 i11 i12 i13 : Int32} {i1 i2 i3 i4 i5 i6 i7 i8 : Nat → Int32} {i14 i15 : Nat} (h : RI i5 i7 i10) : ∀ k : Nat, j1 + 1 + k ≤ w.p → ((L2_X7_findAdded pw w.p w.lc w.de w.kn w.mu w.mn (kx w) w.L ni j1 i0 i1 i2 i3 i4 i5 i6 i7 i8 i9 i10 i11 i12 i13 i14 i15 k).1, (L2_X7_findAdded pw w.p w.lc w.de w.kn w.mu w.mn (kx w) w.L ni j1 i0 i1 i2 i3 i4 i5 i6 i7 i8 i9 i10 i11 i12 i13 i14 i15 k).2.2.2.2.2.2.2.2.2.2.2.2.1, (L2_X7_findAdded pw w.p w.lc w.de w.kn w.mu w.mn (kx w) w.L ni j1 i0 i1 i2 i3 i4 i5 i6 i7 i8 i9 i10 i11 i12 i13 i14 i15 k).2.2.2.2.2.2.2.2.2.2.2.2.2.1) = ad2 (hlw w) (adV w ni) j1 (i0, i12, i13) k
  | 0, _ => rfl
  | k + 1, hk => by
    have ih := cs2 ok hK hni hpt (j1 := j1) (i0 := i0) (i1 := i1) (i2 := i2) (i3 := i3) (i4 := i4) (i5 := i5) (i6 := i6) (i7 := i7) (i8 := i8) (i9 := i9) (i10 := i10) (i11 := i11) (i12 := i12) (i13 := i13) (i14 := i14) (i15 := i15) h k (by omega)
    have hr := (fa2 (pw := pw) (kn := w.kn) (mu := w.mu) (mn := w.mn) (K := kx w) (L := w.L) (pe := w.p) (lc := w.lc) (ni := ni) (de := w.de) (j1 := j1) (i0 := i0) (i1 := i1) (i2 := i2) (i3 := i3) (i4 := i4) (i5 := i5) (i6 := i6) (i7 := i7) (i8 := i8) (i9 := i9) (i10 := i10) (i11 := i11) (i12 := i12) (i13 := i13) (i14 := i14) (i15 := i15) ok.1 h k).1
    have e : L2_X7_findAdded pw w.p w.lc w.de w.kn w.mu w.mn (kx w) w.L ni j1 i0 i1 i2 i3 i4 i5 i6 i7 i8 i9 i10 i11 i12 i13 i14 i15 (k + 1) = L2_X7_findAddeds pw w.p w.lc w.de w.kn w.mu w.mn (kx w) w.L ni j1 k (L2_X7_findAdded pw w.p w.lc w.de w.kn w.mu w.mn (kx w) w.L ni j1 i0 i1 i2 i3 i4 i5 i6 i7 i8 i9 i10 i11 i12 i13 i14 i15 k).1 (L2_X7_findAdded pw w.p w.lc w.de w.kn w.mu w.mn (kx w) w.L ni j1 i0 i1 i2 i3 i4 i5 i6 i7 i8 i9 i10 i11 i12 i13 i14 i15 k).2.1 (L2_X7_findAdded pw w.p w.lc w.de w.kn w.mu w.mn (kx w) w.L ni j1 i0 i1 i2 i3 i4 i5 i6 i7 i8 i9 i10 i11 i12 i13 i14 i15 k).2.2.1 (L2_X7_findAdded pw w.p w.lc w.de w.kn w.mu w.mn (kx w) w.L ni j1 i0 i1 i2 i3 i4 i5 i6 i7 i8 i9 i10 i11 i12 i13 i14 i15 k).2.2.2.1 (L2_X7_findAdded pw w.p w.lc w.de w.kn w.mu w.mn (kx w) w.L ni j1 i0 i1 i2 i3 i4 i5 i6 i7 i8 i9 i10 i11 i12 i13 i14 i15 k).2.2.2.2.1 (L2_X7_findAdded pw w.p w.lc w.de w.kn w.mu w.mn (kx w) w.L ni j1 i0 i1 i2 i3 i4 i5 i6 i7 i8 i9 i10 i11 i12 i13 i14 i15 k).2.2.2.2.2.1 (L2_X7_findAdded pw w.p w.lc w.de w.kn w.mu w.mn (kx w) w.L ni j1 i0 i1 i2 i3 i4 i5 i6 i7 i8 i9 i10 i11 i12 i13 i14 i15 k).2.2.2.2.2.2.1 (L2_X7_findAdded pw w.p w.lc w.de w.kn w.mu w.mn (kx w) w.L ni j1 i0 i1 i2 i3 i4 i5 i6 i7 i8 i9 i10 i11 i12 i13 i14 i15 k).2.2.2.2.2.2.2.1 (L2_X7_findAdded pw w.p w.lc w.de w.kn w.mu w.mn (kx w) w.L ni j1 i0 i1 i2 i3 i4 i5 i6 i7 i8 i9 i10 i11 i12 i13 i14 i15 k).2.2.2.2.2.2.2.2.1 (L2_X7_findAdded pw w.p w.lc w.de w.kn w.mu w.mn (kx w) w.L ni j1 i0 i1 i2 i3 i4 i5 i6 i7 i8 i9 i10 i11 i12 i13 i14 i15 k).2.2.2.2.2.2.2.2.2.1 (L2_X7_findAdded pw w.p w.lc w.de w.kn w.mu w.mn (kx w) w.L ni j1 i0 i1 i2 i3 i4 i5 i6 i7 i8 i9 i10 i11 i12 i13 i14 i15 k).2.2.2.2.2.2.2.2.2.2.1 (L2_X7_findAdded pw w.p w.lc w.de w.kn w.mu w.mn (kx w) w.L ni j1 i0 i1 i2 i3 i4 i5 i6 i7 i8 i9 i10 i11 i12 i13 i14 i15 k).2.2.2.2.2.2.2.2.2.2.2.1 (L2_X7_findAdded pw w.p w.lc w.de w.kn w.mu w.mn (kx w) w.L ni j1 i0 i1 i2 i3 i4 i5 i6 i7 i8 i9 i10 i11 i12 i13 i14 i15 k).2.2.2.2.2.2.2.2.2.2.2.2.1 (L2_X7_findAdded pw w.p w.lc w.de w.kn w.mu w.mn (kx w) w.L ni j1 i0 i1 i2 i3 i4 i5 i6 i7 i8 i9 i10 i11 i12 i13 i14 i15 k).2.2.2.2.2.2.2.2.2.2.2.2.2.1 (L2_X7_findAdded pw w.p w.lc w.de w.kn w.mu w.mn (kx w) w.L ni j1 i0 i1 i2 i3 i4 i5 i6 i7 i8 i9 i10 i11 i12 i13 i14 i15 k).2.2.2.2.2.2.2.2.2.2.2.2.2.2.1 (L2_X7_findAdded pw w.p w.lc w.de w.kn w.mu w.mn (kx w) w.L ni j1 i0 i1 i2 i3 i4 i5 i6 i7 i8 i9 i10 i11 i12 i13 i14 i15 k).2.2.2.2.2.2.2.2.2.2.2.2.2.2.2 := rfl
    rw [e]
    generalize L2_X7_findAdded pw w.p w.lc w.de w.kn w.mu w.mn (kx w) w.L ni j1 i0 i1 i2 i3 i4 i5 i6 i7 i8 i9 i10 i11 i12 i13 i14 i15 k = s at ih hr ⊢
    show _ = adS (hlw w) (adV w ni) j1 (j1 + 1 + k) (ad2 (hlw w) (adV w ni) j1 (i0, i12, i13) k)
    rw [← ih]
    have hv : (F_X7_hoursFromFirst s.2.2.2.2.2.2.2.2.2.2.2.2.2.2.1 s.2.2.2.2.2.2.2.2.2.2.2.2.2.2.2 w.p w.de (TPw w ni) (w.mu ni) (F_X7_openLine (TPw w ni) (L1_X7_prepare w.p w.mn (kx w) ni s.2.1 24) j1 (j1 + 1 + k)) pw s.2.2.2.1 s.2.2.2.2.1 s.2.2.2.2.2.1 s.2.2.2.2.2.2.1 s.2.2.2.2.2.2.2.1 s.2.2.2.2.2.2.2.2.1 s.2.2.2.2.2.2.2.2.2.2.1 s.2.2.2.2.2.2.2.2.2.2.2.1 (w.kn ni)).1 = adV w ni j1 (j1 + 1 + k) := hf_val ok hK hni hpt hr (op_cong ok (by omega) (by omega))
    unfold L2_X7_findAddeds adS
    by_cases c : F_X10_hasLineBetween w.lc w.L (nI j1) (nI (j1 + 1 + k)) = 0
    · rw [if_pos c, if_pos (show hlw w j1 (j1 + 1 + k) = 0 from c)]
      by_cases d : adV w ni j1 (j1 + 1 + k) < s.1
      · have d2 : ¬ s.1 ≤ (F_X7_hoursFromFirst s.2.2.2.2.2.2.2.2.2.2.2.2.2.2.1 s.2.2.2.2.2.2.2.2.2.2.2.2.2.2.2 w.p w.de (TPw w ni) (w.mu ni) (F_X7_openLine (TPw w ni) (L1_X7_prepare w.p w.mn (kx w) ni s.2.1 24) j1 (j1 + 1 + k)) pw s.2.2.2.1 s.2.2.2.2.1 s.2.2.2.2.2.1 s.2.2.2.2.2.2.1 s.2.2.2.2.2.2.2.1 s.2.2.2.2.2.2.2.2.1 s.2.2.2.2.2.2.2.2.2.2.1 s.2.2.2.2.2.2.2.2.2.2.2.1 (w.kn ni)).1 := by rw [hv]; exact Int32.not_le.mpr d
        rw [if_neg d2, if_pos d]
        exact congrArg (fun x => (x, nI j1, nI (j1 + 1 + k))) hv
      · have d2 : s.1 ≤ (F_X7_hoursFromFirst s.2.2.2.2.2.2.2.2.2.2.2.2.2.2.1 s.2.2.2.2.2.2.2.2.2.2.2.2.2.2.2 w.p w.de (TPw w ni) (w.mu ni) (F_X7_openLine (TPw w ni) (L1_X7_prepare w.p w.mn (kx w) ni s.2.1 24) j1 (j1 + 1 + k)) pw s.2.2.2.1 s.2.2.2.2.1 s.2.2.2.2.2.1 s.2.2.2.2.2.2.1 s.2.2.2.2.2.2.2.1 s.2.2.2.2.2.2.2.2.1 s.2.2.2.2.2.2.2.2.2.2.1 s.2.2.2.2.2.2.2.2.2.2.2.1 (w.kn ni)).1 := by rw [hv]; exact Int32.not_lt.mp d
        rw [if_pos d2, if_neg d]
    · rw [if_neg c, if_neg (show ¬ hlw w j1 (j1 + 1 + k) = 0 from c)]
theorem cs1 (ok : VOK w) (hK : KNB w) (hni : ni < 4) (hpt : PWT pw) {i0 i9 i10 i11 i12 i13 : Int32} {i1 i2 i3 i4 i5 i6 i7 i8 : Nat → Int32} {i14 i15 : Nat} (h : RI i5 i7 i10) : ∀ k : Nat, k ≤ w.p → ((L1_X7_findAdded pw w.p w.lc w.de w.kn w.mu w.mn (kx w) w.L ni i0 i1 i2 i3 i4 i5 i6 i7 i8 i9 i10 i11 i12 i13 i14 i15 k).1, (L1_X7_findAdded pw w.p w.lc w.de w.kn w.mu w.mn (kx w) w.L ni i0 i1 i2 i3 i4 i5 i6 i7 i8 i9 i10 i11 i12 i13 i14 i15 k).2.2.2.2.2.2.2.2.2.2.2.2.1, (L1_X7_findAdded pw w.p w.lc w.de w.kn w.mu w.mn (kx w) w.L ni i0 i1 i2 i3 i4 i5 i6 i7 i8 i9 i10 i11 i12 i13 i14 i15 k).2.2.2.2.2.2.2.2.2.2.2.2.2.1) = ad1 (hlw w) (adV w ni) w.p (i0, i12, i13) k
  | 0, _ => rfl
  | k + 1, hk => by
    have ih := cs1 ok hK hni hpt (i0 := i0) (i1 := i1) (i2 := i2) (i3 := i3) (i4 := i4) (i5 := i5) (i6 := i6) (i7 := i7) (i8 := i8) (i9 := i9) (i10 := i10) (i11 := i11) (i12 := i12) (i13 := i13) (i14 := i14) (i15 := i15) h k (by omega)
    have hr := (fa1 (pw := pw) (kn := w.kn) (mu := w.mu) (mn := w.mn) (K := kx w) (L := w.L) (pe := w.p) (lc := w.lc) (ni := ni) (de := w.de) (i0 := i0) (i1 := i1) (i2 := i2) (i3 := i3) (i4 := i4) (i5 := i5) (i6 := i6) (i7 := i7) (i8 := i8) (i9 := i9) (i10 := i10) (i11 := i11) (i12 := i12) (i13 := i13) (i14 := i14) (i15 := i15) ok.1 h k).1
    have e : L1_X7_findAdded pw w.p w.lc w.de w.kn w.mu w.mn (kx w) w.L ni i0 i1 i2 i3 i4 i5 i6 i7 i8 i9 i10 i11 i12 i13 i14 i15 (k + 1) = L1_X7_findAddeds pw w.p w.lc w.de w.kn w.mu w.mn (kx w) w.L ni k (L1_X7_findAdded pw w.p w.lc w.de w.kn w.mu w.mn (kx w) w.L ni i0 i1 i2 i3 i4 i5 i6 i7 i8 i9 i10 i11 i12 i13 i14 i15 k).1 (L1_X7_findAdded pw w.p w.lc w.de w.kn w.mu w.mn (kx w) w.L ni i0 i1 i2 i3 i4 i5 i6 i7 i8 i9 i10 i11 i12 i13 i14 i15 k).2.1 (L1_X7_findAdded pw w.p w.lc w.de w.kn w.mu w.mn (kx w) w.L ni i0 i1 i2 i3 i4 i5 i6 i7 i8 i9 i10 i11 i12 i13 i14 i15 k).2.2.1 (L1_X7_findAdded pw w.p w.lc w.de w.kn w.mu w.mn (kx w) w.L ni i0 i1 i2 i3 i4 i5 i6 i7 i8 i9 i10 i11 i12 i13 i14 i15 k).2.2.2.1 (L1_X7_findAdded pw w.p w.lc w.de w.kn w.mu w.mn (kx w) w.L ni i0 i1 i2 i3 i4 i5 i6 i7 i8 i9 i10 i11 i12 i13 i14 i15 k).2.2.2.2.1 (L1_X7_findAdded pw w.p w.lc w.de w.kn w.mu w.mn (kx w) w.L ni i0 i1 i2 i3 i4 i5 i6 i7 i8 i9 i10 i11 i12 i13 i14 i15 k).2.2.2.2.2.1 (L1_X7_findAdded pw w.p w.lc w.de w.kn w.mu w.mn (kx w) w.L ni i0 i1 i2 i3 i4 i5 i6 i7 i8 i9 i10 i11 i12 i13 i14 i15 k).2.2.2.2.2.2.1 (L1_X7_findAdded pw w.p w.lc w.de w.kn w.mu w.mn (kx w) w.L ni i0 i1 i2 i3 i4 i5 i6 i7 i8 i9 i10 i11 i12 i13 i14 i15 k).2.2.2.2.2.2.2.1 (L1_X7_findAdded pw w.p w.lc w.de w.kn w.mu w.mn (kx w) w.L ni i0 i1 i2 i3 i4 i5 i6 i7 i8 i9 i10 i11 i12 i13 i14 i15 k).2.2.2.2.2.2.2.2.1 (L1_X7_findAdded pw w.p w.lc w.de w.kn w.mu w.mn (kx w) w.L ni i0 i1 i2 i3 i4 i5 i6 i7 i8 i9 i10 i11 i12 i13 i14 i15 k).2.2.2.2.2.2.2.2.2.1 (L1_X7_findAdded pw w.p w.lc w.de w.kn w.mu w.mn (kx w) w.L ni i0 i1 i2 i3 i4 i5 i6 i7 i8 i9 i10 i11 i12 i13 i14 i15 k).2.2.2.2.2.2.2.2.2.2.1 (L1_X7_findAdded pw w.p w.lc w.de w.kn w.mu w.mn (kx w) w.L ni i0 i1 i2 i3 i4 i5 i6 i7 i8 i9 i10 i11 i12 i13 i14 i15 k).2.2.2.2.2.2.2.2.2.2.2.1 (L1_X7_findAdded pw w.p w.lc w.de w.kn w.mu w.mn (kx w) w.L ni i0 i1 i2 i3 i4 i5 i6 i7 i8 i9 i10 i11 i12 i13 i14 i15 k).2.2.2.2.2.2.2.2.2.2.2.2.1 (L1_X7_findAdded pw w.p w.lc w.de w.kn w.mu w.mn (kx w) w.L ni i0 i1 i2 i3 i4 i5 i6 i7 i8 i9 i10 i11 i12 i13 i14 i15 k).2.2.2.2.2.2.2.2.2.2.2.2.2.1 (L1_X7_findAdded pw w.p w.lc w.de w.kn w.mu w.mn (kx w) w.L ni i0 i1 i2 i3 i4 i5 i6 i7 i8 i9 i10 i11 i12 i13 i14 i15 k).2.2.2.2.2.2.2.2.2.2.2.2.2.2.1 (L1_X7_findAdded pw w.p w.lc w.de w.kn w.mu w.mn (kx w) w.L ni i0 i1 i2 i3 i4 i5 i6 i7 i8 i9 i10 i11 i12 i13 i14 i15 k).2.2.2.2.2.2.2.2.2.2.2.2.2.2.2 := rfl
    rw [e]
    generalize L1_X7_findAdded pw w.p w.lc w.de w.kn w.mu w.mn (kx w) w.L ni i0 i1 i2 i3 i4 i5 i6 i7 i8 i9 i10 i11 i12 i13 i14 i15 k = s at ih hr ⊢
    show _ = ad2 (hlw w) (adV w ni) k (ad1 (hlw w) (adV w ni) w.p (i0, i12, i13) k) (w.p - (k + 1))
    rw [← ih]
    exact cs2 ok hK hni hpt (j1 := k) (i0 := s.1) (i1 := s.2.1) (i2 := s.2.2.1) (i3 := s.2.2.2.1) (i4 := s.2.2.2.2.1) (i5 := s.2.2.2.2.2.1) (i6 := s.2.2.2.2.2.2.1) (i7 := s.2.2.2.2.2.2.2.1) (i8 := s.2.2.2.2.2.2.2.2.1) (i9 := s.2.2.2.2.2.2.2.2.2.1) (i10 := s.2.2.2.2.2.2.2.2.2.2.1) (i11 := s.2.2.2.2.2.2.2.2.2.2.2.1) (i12 := s.2.2.2.2.2.2.2.2.2.2.2.2.1) (i13 := s.2.2.2.2.2.2.2.2.2.2.2.2.2.1) (i14 := s.2.2.2.2.2.2.2.2.2.2.2.2.2.2.1) (i15 := s.2.2.2.2.2.2.2.2.2.2.2.2.2.2.2) hr (w.p - (k + 1)) (by omega)
theorem ad_cls {P Q : Nat} {zp zd zt zm zi0 zi1 zi2 zi3 zi4 y z rc rp : Int32} {cA ct nw nx fS fO fM fC : Nat → Int32} (ok : VOK w) (hK : KNB w) (hpt : PWT pw) (hI : RI fS fM rc) : (F_X11_added1 P Q zp zd zt zm zi0 zi1 zi2 zi3 zi4 cA pw ct nw nx fS fO fM fC rc rp w.p w.lc w.de w.kn w.mu w.mn (kx w) w.L y z).1 = adA w y z := by
  have hp := ok.1
  unfold F_X11_added1 adA
  by_cases c1 : F_X11_isNews y = 0
  · rw [if_pos c1, if_pos c1]
  · rw [if_neg c1, if_neg c1]
    have y4 := (hn_at c1).2
    by_cases c2 : z < 0
    · have c4 : F_X12_isIn z 0 2 = 0 := by unfold F_X12_isIn; rw [if_pos c2]
      rw [if_pos c2, if_pos c4]
    · rw [if_neg c2]
      by_cases c3 : 2 < z
      · have c4 : F_X12_isIn z 0 2 = 0 := by unfold F_X12_isIn; rw [if_neg c2, if_pos c3]
        rw [if_pos c3, if_pos c4]
      · have c4 : ¬ F_X12_isIn z 0 2 = 0 := by
          unfold F_X12_isIn
          rw [if_neg c2, if_neg c3]
          decide
        rw [if_neg c3, if_neg c4]
        have b := hf_RI (zp := w.p) (p := P) (q := Q) (zd := w.de) (zt := TPw w (tN y)) (zm := w.mu (tN y)) (cA := L1_X7_prepare w.p w.mn (kx w) (tN y) cA 24) (pw := pw) (now := nw) (nx := nx) (O := fO) (C := fC) (rp := rp) (x := w.kn (tN y)) hp hI
        have hv := hf_val (ni := tN y) (P := P) (Q := Q) (cA := L1_X7_prepare w.p w.mn (kx w) (tN y) cA 24) (cB := cAw w (tN y)) (nw := nw) (nx := nx) (fO := fO) (fC := fC) (rp := rp) ok hK y4 hpt hI fun h a a1 a2 a3 => pr_any hp a1 a2 a3
        have g := cs1 (ni := tN y) ok hK y4 hpt (i0 := 26) (i1 := L1_X7_prepare w.p w.mn (kx w) (tN y) cA 24) (i2 := (F_X7_hoursFromFirst P Q w.p w.de (TPw w (tN y)) (w.mu (tN y)) (L1_X7_prepare w.p w.mn (kx w) (tN y) cA 24) pw nw nx fS fO fM fC rc rp (w.kn (tN y))).2.2.2.1) (i3 := (F_X7_hoursFromFirst P Q w.p w.de (TPw w (tN y)) (w.mu (tN y)) (L1_X7_prepare w.p w.mn (kx w) (tN y) cA 24) pw nw nx fS fO fM fC rc rp (w.kn (tN y))).2.2.2.2.1) (i4 := (F_X7_hoursFromFirst P Q w.p w.de (TPw w (tN y)) (w.mu (tN y)) (L1_X7_prepare w.p w.mn (kx w) (tN y) cA 24) pw nw nx fS fO fM fC rc rp (w.kn (tN y))).2.2.2.2.2.1) (i6 := (F_X7_hoursFromFirst P Q w.p w.de (TPw w (tN y)) (w.mu (tN y)) (L1_X7_prepare w.p w.mn (kx w) (tN y) cA 24) pw nw nx fS fO fM fC rc rp (w.kn (tN y))).2.2.2.2.2.2.2.2.1) (i8 := (F_X7_hoursFromFirst P Q w.p w.de (TPw w (tN y)) (w.mu (tN y)) (L1_X7_prepare w.p w.mn (kx w) (tN y) cA 24) pw nw nx fS fO fM fC rc rp (w.kn (tN y))).2.2.2.2.2.2.2.2.2.2.1) (i9 := (F_X7_hoursFromFirst P Q w.p w.de (TPw w (tN y)) (w.mu (tN y)) (L1_X7_prepare w.p w.mn (kx w) (tN y) cA 24) pw nw nx fS fO fM fC rc rp (w.kn (tN y))).2.2.2.2.2.2.1) (i11 := (F_X7_hoursFromFirst P Q w.p w.de (TPw w (tN y)) (w.mu (tN y)) (L1_X7_prepare w.p w.mn (kx w) (tN y) cA 24) pw nw nx fS fO fM fC rc rp (w.kn (tN y))).2.2.2.2.2.2.2.2.2.2.2.2) (i12 := zi2) (i13 := zi3) (i14 := (F_X7_hoursFromFirst P Q w.p w.de (TPw w (tN y)) (w.mu (tN y)) (L1_X7_prepare w.p w.mn (kx w) (tN y) cA 24) pw nw nx fS fO fM fC rc rp (w.kn (tN y))).2.1) (i15 := (F_X7_hoursFromFirst P Q w.p w.de (TPw w (tN y)) (w.mu (tN y)) (L1_X7_prepare w.p w.mn (kx w) (tN y) cA 24) pw nw nx fS fO fM fC rc rp (w.kn (tN y))).2.2.1) b w.p (Nat.le_refl _)
        have r := adR_1 (hl := hlw w) (f := adV w (tN y)) (p := w.p) (s0 := ((26 : Int32), zi2, zi3)) rfl hp (fun a b h1 h2 => hfN_lt) w.p (Nat.le_refl _)
        rw [← g] at r
        have r : adR ((26 : Int32), zi2, zi3) ((E1_X7_findAdded P Q zi2 zi3 cA pw nw nx fS fO fM fC rc rp w.p w.lc w.de w.kn w.mu w.mn (kx w) w.L (tN y)).1, (E1_X7_findAdded P Q zi2 zi3 cA pw nw nx fS fO fM fC rc rp w.p w.lc w.de w.kn w.mu w.mn (kx w) w.L (tN y)).2.2.2.2.2.2.2.2.2.2.2.2.1, (E1_X7_findAdded P Q zi2 zi3 cA pw nw nx fS fO fM fC rc rp w.p w.lc w.de w.kn w.mu w.mn (kx w) w.L (tN y)).2.2.2.2.2.2.2.2.2.2.2.2.2.1) (adT w (tN y)) := r
        have hFA : ((F_X7_findAdded P Q zi2 zi3 cA pw nw nx fS fO fM fC rc rp w.p w.lc w.de w.kn w.mu w.mn (kx w) w.L (tN y)).1 = 0 ↔ 25 < (E1_X7_findAdded P Q zi2 zi3 cA pw nw nx fS fO fM fC rc rp w.p w.lc w.de w.kn w.mu w.mn (kx w) w.L (tN y)).1) ∧ (F_X7_findAdded P Q zi2 zi3 cA pw nw nx fS fO fM fC rc rp w.p w.lc w.de w.kn w.mu w.mn (kx w) w.L (tN y)).2.2.2.2.2.2.2.2.2.2.2.2.2.2.1 = (E1_X7_findAdded P Q zi2 zi3 cA pw nw nx fS fO fM fC rc rp w.p w.lc w.de w.kn w.mu w.mn (kx w) w.L (tN y)).2.2.2.2.2.2.2.2.2.2.2.2.1 ∧ (F_X7_findAdded P Q zi2 zi3 cA pw nw nx fS fO fM fC rc rp w.p w.lc w.de w.kn w.mu w.mn (kx w) w.L (tN y)).2.2.2.2.2.2.2.2.2.2.2.2.2.2.2.1 = (E1_X7_findAdded P Q zi2 zi3 cA pw nw nx fS fO fM fC rc rp w.p w.lc w.de w.kn w.mu w.mn (kx w) w.L (tN y)).2.2.2.2.2.2.2.2.2.2.2.2.2.1 ∧ (F_X7_findAdded P Q zi2 zi3 cA pw nw nx fS fO fM fC rc rp w.p w.lc w.de w.kn w.mu w.mn (kx w) w.L (tN y)).2.2.2.2.2.2.2.2.2.2.2.2.2.2.2.2 = (F_X7_hoursFromFirst P Q w.p w.de (TPw w (tN y)) (w.mu (tN y)) (L1_X7_prepare w.p w.mn (kx w) (tN y) cA 24) pw nw nx fS fO fM fC rc rp (w.kn (tN y))).1 - (E1_X7_findAdded P Q zi2 zi3 cA pw nw nx fS fO fM fC rc rp w.p w.lc w.de w.kn w.mu w.mn (kx w) w.L (tN y)).1 := by
          unfold F_X7_findAdded
          by_cases d : 25 < (E1_X7_findAdded P Q zi2 zi3 cA pw nw nx fS fO fM fC rc rp w.p w.lc w.de w.kn w.mu w.mn (kx w) w.L (tN y)).1
          · rw [if_pos d]
            exact ⟨⟨fun _ => d, fun _ => rfl⟩, rfl, rfl, rfl⟩
          · rw [if_neg d]
            exact ⟨⟨fun q => absurd (show (1 : Int32) = 0 from q) (by decide), fun q => absurd q d⟩, rfl, rfl, rfl⟩
        generalize E1_X7_findAdded P Q zi2 zi3 cA pw nw nx fS fO fM fC rc rp w.p w.lc w.de w.kn w.mu w.mn (kx w) w.L (tN y) = u at r hFA
        generalize F_X7_findAdded P Q zi2 zi3 cA pw nw nx fS fO fM fC rc rp w.p w.lc w.de w.kn w.mu w.mn (kx w) w.L (tN y) = fa at hFA ⊢
        obtain ⟨f1, f2, f3, f4⟩ := hFA
        have k : (25 < u.1 ↔ (adT w (tN y)).2.1 = -1) ∧ (¬ 25 < u.1 → u.2.2.2.2.2.2.2.2.2.2.2.2.1 = (adT w (tN y)).2.1 ∧ u.2.2.2.2.2.2.2.2.2.2.2.2.2.1 = (adT w (tN y)).2.2 ∧ u.1 = (adT w (tN y)).1) := by
          rcases r with ⟨q1, q2⟩ | ⟨q1, q2, q3⟩
          · have e : u.1 = 26 := congrArg (fun x => x.1) q1
            rw [q2, e]
            exact ⟨⟨fun _ => rfl, fun _ => by decide⟩, fun q => absurd (by decide) q⟩
          · rw [← q1]
            exact ⟨⟨fun q => absurd q (lt26 q2), fun q => absurd q q3⟩, fun _ => ⟨rfl, rfl, rfl⟩⟩
        by_cases d : 25 < u.1
        · rw [if_pos (f1.mpr d), if_pos (k.1.mp d)]
        · rw [if_neg (fun q => d (f1.mp q)), if_neg (fun q => d (k.1.mpr q))]
          obtain ⟨a1, a2, a3⟩ := k.2 d
          by_cases z0 : z = 0
          · rw [if_pos z0, if_pos z0]; exact f2.trans a1
          · rw [if_neg z0, if_neg z0]
            by_cases z1 : z = 1
            · rw [if_pos z1, if_pos z1]; exact f3.trans a2
            · rw [if_neg z1, if_neg z1]
              exact f4.trans (by rw [hv, a3])
end
/-! the reference, with one couple more -/
section
variable {F : Nat → Nat → Int32} {i ni a b : Nat} {w : VV} {gN : Nat → Int32}
theorem mcA_iff {rA rB rF rT rW rO : Nat → Int32} {lc x c : Nat} {h : Int32} (ha : a < 7) (hb : b < 7) (hx : x < 7) (hc : c < 7) : ¬ F_X12_mayCallA rA rB rF rT rW rO lc i (nI a) (nI b) x c h = 0 ↔ ((x = a ∧ c = b) ∨ (x = b ∧ c = a)) ∨ ¬ F_X12_mayCall rA rB rF rT rW rO lc i x c h = 0 := by
  have e : ∀ p q : Nat, p < 7 → q < 7 → (nI p = nI q ↔ q = p) := fun p q h1 h2 => (nI_eq (a := p) (b := q) (by omega) (by omega)).trans ⟨Eq.symm, Eq.symm⟩
  have k : (nI a = nI x ∧ nI b = nI c ∨ nI a = nI c ∧ nI b = nI x) ↔ (x = a ∧ c = b) ∨ (x = b ∧ c = a) := by
    rw [e a x ha hx, e b c hb hc, e a c ha hc, e b x hb hx]
    exact or_congr Iff.rfl ⟨fun q => ⟨q.2, q.1⟩, fun q => ⟨q.2, q.1⟩⟩
  unfold F_X12_mayCallA
  by_cases c1 : nI a = nI x ∧ nI b = nI c ∨ nI a = nI c ∧ nI b = nI x
  · rw [if_pos c1]
    exact ⟨fun _ => Or.inl (k.mp c1), fun _ => by decide⟩
  · rw [if_neg c1]
    exact ⟨Or.inr, fun q => q.elim (fun q => absurd (k.mpr q) c1) id⟩
theorem chh_op (ok : VOK w) (ow : OWB w) (hr : RP1 F i w) (hab : a < b) (hb : b < w.p) : CHH w.p (TPw w ni) (opc w ni a b) (w.mn ni) (fun h x c => F_X12_mayCallA (F 12) (F 13) (F 14) (F 15) (F 16) (F 17) w.lc i (nI a) (nI b) x c (nI h)) := fun h x c h1 h2 hx hc => by
  have hp := ok.1
  have base := chh_of (nw := ni) ok ow hr h x c h1 h2 hx hc
  try dsimp only at base ⊢
  rw [mcA_iff (by omega) (by omega) (by omega) (by omega)]
  have tp : ∀ o : Nat, o < w.p → (bt (TPw w ni) o = true ↔ bt (w.mn ni) o = false) := fun o ho => (tp_bit ok (by omega)).trans ⟨fun q => q.2, fun q => ⟨ho, q⟩⟩
  have none : ¬ (bt (TPw w ni) a = true ∧ bt (TPw w ni) b = true) → (bt (w.mn ni) x = false ∧ (((x = a ∧ c = b) ∨ (x = b ∧ c = a)) ∨ ¬ F_X12_mayCall (F 12) (F 13) (F 14) (F 15) (F 16) (F 17) w.lc i x c (nI h) = 0) ∧ bt (w.mn ni) c = false ↔ bt (w.mn ni) x = false ∧ ¬ F_X12_mayCall (F 12) (F 13) (F 14) (F 15) (F 16) (F 17) w.lc i x c (nI h) = 0 ∧ bt (w.mn ni) c = false) := fun hn => by
    refine ⟨fun q => ⟨q.1, q.2.1.elim (fun z => ?_) id, q.2.2⟩, fun q => ⟨q.1, Or.inr q.2.1, q.2.2⟩⟩
    exfalso
    refine hn ?_
    rw [tp a (by omega), tp b hb]
    rcases z with ⟨z1, z2⟩ | ⟨z1, z2⟩
    · rw [← z1, ← z2]; exact ⟨q.1, q.2.2⟩
    · rw [← z1, ← z2]; exact ⟨q.2.2, q.1⟩
  unfold opc F_X7_openLine
  by_cases c1 : hasv (TPw w ni) (nI a) = 0
  · rw [if_pos c1]
    have e1 : bt (TPw w ni) a = false := (hvb_0 (by omega)).mp c1
    exact base.trans (none fun q => by rw [e1] at q; exact absurd q.1 (by decide)).symm
  · rw [if_neg c1]
    have e1 : bt (TPw w ni) a = true := (bt_hasv (by omega)).mp c1
    by_cases c2 : hasv (TPw w ni) (nI b) = 0
    · rw [if_pos c2]
      have e2 : bt (TPw w ni) b = false := (hvb_0 (by omega)).mp c2
      exact base.trans (none fun q => by rw [e2] at q; exact absurd q.2 (by decide)).symm
    · rw [if_neg c2]
      have e2 : bt (TPw w ni) b = true := (bt_hasv (by omega)).mp c2
      have hbit : bt (L1_X7_openLine a b (cAw w ni) 24 (h * 7 + x)) c = true ↔ bt (cAw w ni (h * 7 + x)) c = true ∨ ((x = a ∧ c = b) ∨ (x = b ∧ c = a)) := by
        rw [ol_at (by omega) (by omega) (by omega) 24 h x h1 (by omega)]
        by_cases z1 : x = a
        · rw [if_pos ⟨h2, z1⟩, b_orsh (by omega) (by omega)]
          exact or_congr Iff.rfl ⟨fun q => Or.inl ⟨z1, q⟩, fun q => q.elim (fun q => q.2) fun q => by omega⟩
        · rw [if_neg (fun q => z1 q.2)]
          by_cases z2 : x = b
          · rw [if_pos ⟨h2, z2⟩, b_orsh (by omega) (by omega)]
            exact or_congr Iff.rfl ⟨fun q => Or.inr ⟨z2, q⟩, fun q => q.elim (fun q => absurd q.1 z1) fun q => q.2⟩
          · rw [if_neg (fun q => z2 q.2)]
            exact ⟨Or.inl, fun q => q.elim id fun q => q.elim (fun q => absurd q.1 z1) fun q => absurd q.1 z2⟩
      rw [hbit]
      have hco : (x = a ∧ c = b) ∨ (x = b ∧ c = a) → bt (w.mn ni) x = false ∧ bt (w.mn ni) c = false ∧ bt (TPw w ni) c = true := fun z => by
        rcases z with ⟨z1, z2⟩ | ⟨z1, z2⟩
        · rw [z1, z2]
          exact ⟨(tp a (by omega)).mp e1, (tp b hb).mp e2, e2⟩
        · rw [z1, z2]
          exact ⟨(tp b hb).mp e2, (tp a (by omega)).mp e1, e1⟩
      constructor
      · rintro ⟨q | q, t⟩
        · have := base.mp ⟨q, t⟩
          exact ⟨this.1, Or.inr this.2.1, this.2.2⟩
        · exact ⟨(hco q).1, Or.inl q, (hco q).2.1⟩
      · rintro ⟨q1, q2 | q2, q3⟩
        · exact ⟨Or.inr q2, (hco q2).2.2⟩
        · have := base.mpr ⟨q1, q2, q3⟩
          exact ⟨Or.inl this.1, this.2⟩
theorem lfA_val (ok : VOK w) (ow : OWB w) (hr : RP1 F i w) (hK : KNB w) (hni : ni < 4) (hab : a < b) (hb : b < w.p) : MV (ZP w.p 1 w.de (TPw w ni) (opc w ni a b) (F_X7_state (w.kn ni) 0) (w.mu ni)) 24 (F_X12_leastFromA (F 8) (F 9) (F 10) (F 11) (F 12) (F 13) (F 14) (F 15) (F 16) (F 17) gN i w.lc w.p ni 1 (nI a) (nI b)).1 := by
  have hp := ok.1
  obtain ⟨r9, r10, r11⟩ := hr.2.2.2.1 ni hni
  have hk := kn_s7 ok hK hni
  have hg : GD2 w.de (w.kn ni) 0 := ⟨hk, s7_0, and_0r _, fun i _ q => by rw [b_0] at q; cases q⟩
  have hM : MEMO w.p w.de (TPw w ni) (w.mu ni) (opc w ni a b) (F_X12_ask gN) := fun h k o a1 a2 hg => by
    have b1 := (s7_num hg.1).2
    have b2 := (s7_num hg.2.1).2
    exact Or.inl (ask_0 425984 _ (by omega))
  have q := (nd_MV (zm := w.mu ni) hp (rD := F 8) (i := i) hr.2.2.1 (chh_op (ni := ni) ok ow hr hab hb) (25 - 1) (by omega) _ _ _ hg hM).1
  have q2 := q.iff fun n => (zp_dn (ho := 1) (n := n) hp (fun i hi q => ((tp_bit ok hi).mp q).1) (gs_0 hk)).symm
  unfold F_X12_leastFromA
  rw [r9, r10, r11]
  exact q2
theorem lf0_val (ok : VOK w) (ow : OWB w) (hr : RP1 F i w) (hK : KNB w) (hni : ni < 4) : MV (ZP w.p 1 w.de (TPw w ni) (cAw w ni) (F_X7_state (w.kn ni) 0) (w.mu ni)) 24 (F_X12_leastFrom (F 8) (F 9) (F 10) (F 11) (F 12) (F 13) (F 14) (F 15) (F 16) (F 17) gN i w.lc w.p ni 1).1 := by
  have hp := ok.1
  obtain ⟨r9, r10, r11⟩ := hr.2.2.2.1 ni hni
  have hk := kn_s7 ok hK hni
  have hg : GD2 w.de (w.kn ni) 0 := ⟨hk, s7_0, and_0r _, fun i _ q => by rw [b_0] at q; cases q⟩
  have hM : MEMO w.p w.de (TPw w ni) (w.mu ni) (cAw w ni) (F_X12_ask gN) := fun h k o a1 a2 hg => by
    have b1 := (s7_num hg.1).2
    have b2 := (s7_num hg.2.1).2
    exact Or.inl (ask_0 425984 _ (by omega))
  have q := (nd_MV (zm := w.mu ni) hp (rD := F 8) (i := i) hr.2.2.1 (chh_of (nw := ni) ok ow hr) (25 - 1) (by omega) _ _ _ hg hM).1
  have q2 := q.iff fun n => (zp_dn (ho := 1) (n := n) hp (fun i hi q => ((tp_bit ok hi).mp q).1) (gs_0 hk)).symm
  unfold F_X12_leastFrom
  rw [r9, r10, r11]
  exact q2
theorem rs2 (ok : VOK w) (ow : OWB w) (hr : RP1 F i w) (hK : KNB w) (hni : ni < 4) {j1 : Nat} {i0 i1 i2 : Int32} {g0 : Nat → Int32} : ∀ k : Nat, j1 + 1 + k ≤ w.p → ((L2_X12_added1 (F 8) (F 9) (F 10) (F 11) (F 12) (F 13) (F 14) (F 15) (F 16) (F 17) i w.lc w.p ni j1 i0 i1 i2 g0 k).1, (L2_X12_added1 (F 8) (F 9) (F 10) (F 11) (F 12) (F 13) (F 14) (F 15) (F 16) (F 17) i w.lc w.p ni j1 i0 i1 i2 g0 k).2.2.1, (L2_X12_added1 (F 8) (F 9) (F 10) (F 11) (F 12) (F 13) (F 14) (F 15) (F 16) (F 17) i w.lc w.p ni j1 i0 i1 i2 g0 k).2.1) = ad2 (hlw w) (adV w ni) j1 (i0, i2, i1) k
  | 0, _ => rfl
  | k + 1, hk => by
    have ih := rs2 ok ow hr hK hni (j1 := j1) (i0 := i0) (i1 := i1) (i2 := i2) (g0 := g0) k (by omega)
    have e : L2_X12_added1 (F 8) (F 9) (F 10) (F 11) (F 12) (F 13) (F 14) (F 15) (F 16) (F 17) i w.lc w.p ni j1 i0 i1 i2 g0 (k + 1) = L2_X12_added1s (F 8) (F 9) (F 10) (F 11) (F 12) (F 13) (F 14) (F 15) (F 16) (F 17) i w.lc w.p ni j1 k (L2_X12_added1 (F 8) (F 9) (F 10) (F 11) (F 12) (F 13) (F 14) (F 15) (F 16) (F 17) i w.lc w.p ni j1 i0 i1 i2 g0 k).1 (L2_X12_added1 (F 8) (F 9) (F 10) (F 11) (F 12) (F 13) (F 14) (F 15) (F 16) (F 17) i w.lc w.p ni j1 i0 i1 i2 g0 k).2.1 (L2_X12_added1 (F 8) (F 9) (F 10) (F 11) (F 12) (F 13) (F 14) (F 15) (F 16) (F 17) i w.lc w.p ni j1 i0 i1 i2 g0 k).2.2.1 (L2_X12_added1 (F 8) (F 9) (F 10) (F 11) (F 12) (F 13) (F 14) (F 15) (F 16) (F 17) i w.lc w.p ni j1 i0 i1 i2 g0 k).2.2.2 := rfl
    rw [e]
    generalize L2_X12_added1 (F 8) (F 9) (F 10) (F 11) (F 12) (F 13) (F 14) (F 15) (F 16) (F 17) i w.lc w.p ni j1 i0 i1 i2 g0 k = s at ih ⊢
    show _ = adS (hlw w) (adV w ni) j1 (j1 + 1 + k) (ad2 (hlw w) (adV w ni) j1 (i0, i2, i1) k)
    rw [← ih]
    have hl : F_X12_hasLine (F 12) (F 13) w.lc i j1 (j1 + 1 + k) = hlw w j1 (j1 + 1 + k) := hlw_ref ok hr
    have hv : mn2 25 (F_X12_leastFromA (F 8) (F 9) (F 10) (F 11) (F 12) (F 13) (F 14) (F 15) (F 16) (F 17) s.2.2.2 i w.lc w.p ni 1 (nI j1) (nI (j1 + 1 + k))).1 = adV w ni j1 (j1 + 1 + k) := mn25 (lfA_val ok ow hr hK hni (by omega) (by omega))
    unfold L2_X12_added1s adS
    rw [hl, hv]
    by_cases c : hlw w j1 (j1 + 1 + k) = 0
    · rw [if_pos c, if_pos c]
      by_cases d : adV w ni j1 (j1 + 1 + k) < s.1
      · rw [if_pos d, if_pos d]
      · rw [if_neg d, if_neg d]
    · rw [if_neg c, if_neg c]
theorem rs1 (ok : VOK w) (ow : OWB w) (hr : RP1 F i w) (hK : KNB w) (hni : ni < 4) {i0 i1 i2 : Int32} {g0 : Nat → Int32} : ∀ k : Nat, k ≤ w.p → ((L1_X12_added1 (F 8) (F 9) (F 10) (F 11) (F 12) (F 13) (F 14) (F 15) (F 16) (F 17) i w.lc w.p ni i0 i1 i2 g0 k).1, (L1_X12_added1 (F 8) (F 9) (F 10) (F 11) (F 12) (F 13) (F 14) (F 15) (F 16) (F 17) i w.lc w.p ni i0 i1 i2 g0 k).2.2.1, (L1_X12_added1 (F 8) (F 9) (F 10) (F 11) (F 12) (F 13) (F 14) (F 15) (F 16) (F 17) i w.lc w.p ni i0 i1 i2 g0 k).2.1) = ad1 (hlw w) (adV w ni) w.p (i0, i2, i1) k
  | 0, _ => rfl
  | k + 1, hk => by
    have ih := rs1 ok ow hr hK hni (i0 := i0) (i1 := i1) (i2 := i2) (g0 := g0) k (by omega)
    have e : L1_X12_added1 (F 8) (F 9) (F 10) (F 11) (F 12) (F 13) (F 14) (F 15) (F 16) (F 17) i w.lc w.p ni i0 i1 i2 g0 (k + 1) = L1_X12_added1s (F 8) (F 9) (F 10) (F 11) (F 12) (F 13) (F 14) (F 15) (F 16) (F 17) i w.lc w.p ni k (L1_X12_added1 (F 8) (F 9) (F 10) (F 11) (F 12) (F 13) (F 14) (F 15) (F 16) (F 17) i w.lc w.p ni i0 i1 i2 g0 k).1 (L1_X12_added1 (F 8) (F 9) (F 10) (F 11) (F 12) (F 13) (F 14) (F 15) (F 16) (F 17) i w.lc w.p ni i0 i1 i2 g0 k).2.1 (L1_X12_added1 (F 8) (F 9) (F 10) (F 11) (F 12) (F 13) (F 14) (F 15) (F 16) (F 17) i w.lc w.p ni i0 i1 i2 g0 k).2.2.1 (L1_X12_added1 (F 8) (F 9) (F 10) (F 11) (F 12) (F 13) (F 14) (F 15) (F 16) (F 17) i w.lc w.p ni i0 i1 i2 g0 k).2.2.2 := rfl
    rw [e]
    generalize L1_X12_added1 (F 8) (F 9) (F 10) (F 11) (F 12) (F 13) (F 14) (F 15) (F 16) (F 17) i w.lc w.p ni i0 i1 i2 g0 k = s at ih ⊢
    show _ = ad2 (hlw w) (adV w ni) k (ad1 (hlw w) (adV w ni) w.p (i0, i2, i1) k) (w.p - (k + 1))
    rw [← ih]
    exact rs2 ok ow hr hK hni (w.p - (k + 1)) (by omega)
theorem ad_refM {wh : Nat} (ok : VOK w) (ow : OWB w) (hr : RP1 F i w) (hK : KNB w) (hni : ni < 4) (hwh : wh < 3) : (F_X12_added1 (F 8) (F 9) (F 10) (F 11) (F 12) (F 13) (F 14) (F 15) (F 16) (F 17) gN i w.lc w.p ni wh).1 = adA w (nI ni) (nI wh) := by
  have g := rs1 ok ow hr hK hni (i0 := 99) (i1 := -1) (i2 := -1) (g0 := (F_X12_leastFrom (F 8) (F 9) (F 10) (F 11) (F 12) (F 13) (F 14) (F 15) (F 16) (F 17) gN i w.lc w.p ni 1).2) w.p (Nat.le_refl _)
  have hv := mn25 (lf0_val (gN := gN) ok ow hr hK hni)
  unfold F_X12_added1 adA
  rw [if_neg (show ¬ F_X11_isNews (nI ni) = 0 from news_ok hni), if_neg (i02_ok hwh), tN_nI (show ni < 2 ^ 31 by omega)]
  generalize L1_X12_added1 (F 8) (F 9) (F 10) (F 11) (F 12) (F 13) (F 14) (F 15) (F 16) (F 17) i w.lc w.p ni 99 (-1) (-1) (F_X12_leastFrom (F 8) (F 9) (F 10) (F 11) (F 12) (F 13) (F 14) (F 15) (F 16) (F 17) gN i w.lc w.p ni 1).2 w.p = u at g ⊢
  have g : (u.1, u.2.2.1, u.2.1) = adT w ni := g
  have g1 : u.1 = (adT w ni).1 := congrArg (fun x => x.1) g
  have g2 : u.2.2.1 = (adT w ni).2.1 := congrArg (fun x => x.2.1) g
  have g3 : u.2.1 = (adT w ni).2.2 := congrArg (fun x => x.2.2) g
  have hv : mn2 25 (F_X12_leastFrom (F 8) (F 9) (F 10) (F 11) (F 12) (F 13) (F 14) (F 15) (F 16) (F 17) gN i w.lc w.p ni 1).1 = hfN w ni (cAw w ni) := hv
  rw [g1, g2, g3, hv]
  by_cases c : (adT w ni).2.1 = -1
  · rw [if_pos c, if_pos c]
  · rw [if_neg c, if_neg c]
    by_cases z0 : nI wh = 0
    · rw [if_pos z0, if_pos z0]
    · rw [if_neg z0, if_neg z0]
      by_cases z1 : nI wh = 1
      · rw [if_pos z1, if_pos z1]
      · rw [if_neg z1, if_neg z1]
end
theorem ad_bad {nv : Nat} {V : Nat → VV} {x y z : Int32} (hnv : nv ≤ 10) (h : F_X12_isAsked nv x y = 0 ∨ F_X12_isIn z 0 2 = 0) : vAns nv V x (-1) (fun w => adA w y z) = -1 := by
  rcases vin_cases (n := nv) (by omega) x with hb | ⟨i, hi, rfl⟩
  · rw [vAns_no hb]
  · rw [vAns_ok hnv hi]
    unfold adA
    by_cases c1 : F_X11_isNews y = 0
    · rw [if_pos c1]
    · rw [if_neg c1]
      rcases h with h | h
      · exfalso
        unfold F_X12_isAsked at h
        rw [if_neg (rv_yes hnv hi), if_neg (show ¬ F_X12_isNews y = 0 from c1)] at h
        exact absurd h (by decide)
      · rw [if_pos h]
theorem ad0_val {nv : Nat} {x y z : Int32} : F_X12_added0 nv x y z = -1 := by
  unfold F_X12_added0
  (repeat' split) <;> rfl
