/-! reading a text leaves the rows of the other valleys -/
def OTH (v : Nat) (S S' : RTX) : Prop := (∀ j : Nat, j ≠ v → S'.2.2.1 j = S.2.2.1 j ∧ S'.2.2.2.1 j = S.2.2.2.1 j) ∧ (∀ j : Nat, (j < 4 * v ∨ 4 * v + 4 ≤ j) → S'.2.2.2.2.1 j = S.2.2.2.2.1 j ∧ S'.2.2.2.2.2.1 j = S.2.2.2.2.2.1 j ∧ S'.2.2.2.2.2.2.1 j = S.2.2.2.2.2.2.1 j) ∧ ∀ j : Nat, (j < 12 * v ∨ 12 * v + 12 ≤ j) → S'.2.2.2.2.2.2.2.1 j = S.2.2.2.2.2.2.2.1 j ∧ S'.2.2.2.2.2.2.2.2.1 j = S.2.2.2.2.2.2.2.2.1 j ∧ S'.2.2.2.2.2.2.2.2.2.1 j = S.2.2.2.2.2.2.2.2.2.1 j ∧ S'.2.2.2.2.2.2.2.2.2.2.1 j = S.2.2.2.2.2.2.2.2.2.2.1 j ∧ S'.2.2.2.2.2.2.2.2.2.2.2.1 j = S.2.2.2.2.2.2.2.2.2.2.2.1 j ∧ S'.2.2.2.2.2.2.2.2.2.2.2.2 j = S.2.2.2.2.2.2.2.2.2.2.2.2 j
theorem OTH.rfl' {v : Nat} {S : RTX} {k k' : Nat} {N N' : Int32} : OTH v (k, N, S.2.2) (k', N', S.2.2) := ⟨fun _ _ => ⟨rfl, rfl⟩, fun _ _ => ⟨rfl, rfl, rfl⟩, fun _ _ => ⟨rfl, rfl, rfl, rfl, rfl, rfl⟩⟩
theorem OTH.trans {v : Nat} {S S' S'' : RTX} (h : OTH v S S') (h' : OTH v S' S'') : OTH v S S'' := by
  refine ⟨fun j hj => ?_, fun j hj => ?_, fun j hj => ?_⟩
  · obtain ⟨a, b⟩ := h.1 j hj
    obtain ⟨a', b'⟩ := h'.1 j hj
    exact ⟨a'.trans a, b'.trans b⟩
  · obtain ⟨a, b, c⟩ := h.2.1 j hj
    obtain ⟨a', b', c'⟩ := h'.2.1 j hj
    exact ⟨a'.trans a, b'.trans b, c'.trans c⟩
  · obtain ⟨a, b, c, d, e, f⟩ := h.2.2 j hj
    obtain ⟨a', b', c', d', e', f'⟩ := h'.2.2 j hj
    exact ⟨a'.trans a, b'.trans b, c'.trans c, d'.trans d, e'.trans e, f'.trans f⟩
theorem g5_upd {m q j : Nat} {r : Nat → Int32} {x : Int32} (h : j ≠ q) : g5 m (upd r q x) r j = r j := by
  unfold g5; split
  · exact upd_ne h
  · rfl
theorem oth_eq {v : Nat} {S S' : RTX} (e : S'.2.2 = S.2.2) : OTH v S S' := by
  unfold OTH
  rw [e]
  exact ⟨fun _ _ => ⟨rfl, rfl⟩, fun _ _ => ⟨rfl, rfl, rfl⟩, fun _ _ => ⟨rfl, rfl, rfl, rfl, rfl, rfl⟩⟩
theorem bG_news {n k v j : Nat} {f r : Nat → Int32} {mo : Int32} (hv : v ≤ 10) (hj : j < 4 * v ∨ 4 * v + 4 ≤ j) : bG n f k v mo 1 r j = r j := by
  by_cases h1 : rnr n f k 0 mo (-1) = 0
  · have e : bJ n f k mo 1 = 1 := if_pos h1
    simp only [bG, e]
  · by_cases h3 : rnr n f (ra1 n f k) 0 3 (-1) = 0
    · have e : bJ n f k mo 1 = 2 := by rw [bJ, if_neg h1, if_neg (by decide), if_pos h3]
      simp only [bG, e]
    · have e : bJ n f k mo 1 = 4 := by rw [bJ, if_neg h1, if_neg (by decide), if_neg h3]
      simp only [bG, e]
      obtain ⟨d, -, hd, ed⟩ := rn_b (lo := 0) (hi := 3) rfl rfl (by decide) (by decide) h3
      rw [show va2 n f k = nI d from ed, nI_add, nI_clamp (by omega)]
      exact upd_ne (by omega)
theorem bG_deaf {n k v j : Nat} {f r : Nat → Int32} {mo : Int32} (hj : j ≠ v) : bG n f k v mo 0 r j = r j := by
  by_cases h1 : rnr n f k 0 mo (-1) = 0
  · have e : bJ n f k mo 0 = 1 := if_pos h1
    simp only [bG, e]
  · have e : bJ n f k mo 0 = 3 := by rw [bJ, if_neg h1, if_pos rfl]
    simp only [bG, e]
    exact upd_ne hj
theorem mR_oth {n v c : Nat} {f : Nat → Int32} {mo o : Int32} {S S0 : RTX} (hc : c < 12) (e : S.2.2 = S0.2.2) : OTH v S0 (mR n f v c mo o S) := by
  refine ⟨fun j hj => ⟨?_, ?_⟩, fun j hj => ⟨?_, ?_, ?_⟩, fun j hj => ⟨?_, ?_, ?_, ?_, ?_, ?_⟩⟩ <;> rw [← e]
  · exact g5_upd hj
  · rfl
  · rfl
  · rfl
  · rfl
  · exact g5_upd (by omega)
  · exact g5_upd (by omega)
  · exact g5_upd (by omega)
  · exact g5_upd (by omega)
  · exact g5_upd (by omega)
  · exact g5_upd (by omega)
set_option maxHeartbeats 4000000 in
theorem rst_oth {n v c : Nat} {f P : Nat → Int32} {S : RTX} (hv : v ≤ 10) : OTH v S (rst n f v c P S).2.2 := by
  unfold rst
  split
  · rename_i h
    exact mR_oth h.2 rfl
  · split
    · rename_i h
      exact mR_oth h.2 rfl
    · split
      · exact ⟨fun _ _ => ⟨rfl, rfl⟩, fun j hj => ⟨bG_news hv hj, rfl, rfl⟩, fun _ _ => ⟨rfl, rfl, rfl, rfl, rfl, rfl⟩⟩
      · split
        · exact ⟨fun _ _ => ⟨rfl, rfl⟩, fun j hj => ⟨rfl, bG_news hv hj, rfl⟩, fun _ _ => ⟨rfl, rfl, rfl, rfl, rfl, rfl⟩⟩
        · split
          · exact ⟨fun _ _ => ⟨rfl, rfl⟩, fun j hj => ⟨rfl, rfl, bG_news hv hj⟩, fun _ _ => ⟨rfl, rfl, rfl, rfl, rfl, rfl⟩⟩
          · split
            · exact ⟨fun j hj => ⟨rfl, bG_deaf hj⟩, fun _ _ => ⟨rfl, rfl, rfl⟩, fun _ _ => ⟨rfl, rfl, rfl, rfl, rfl, rfl⟩⟩
            · exact ⟨fun _ _ => ⟨rfl, rfl⟩, fun _ _ => ⟨rfl, rfl, rfl⟩, fun _ _ => ⟨rfl, rfl, rfl, rfl, rfl, rfl⟩⟩
theorem rdm_oth {n v : Nat} {f P : Nat → Int32} (hv : v ≤ 10) : ∀ (m : Nat) (S : RTX), OTH v S (rdm n f v P m S).2.2
  | 0, S => by rw [rdm]; exact oth_eq rfl
  | m + 1, S => by
    have hs : OTH v S (skn n f S.1 + 1, S.2) := oth_eq rfl
    have h0 : OTH v S (skn n f S.1, S.2) := oth_eq rfl
    have h1 := hs.trans (rst_oth (n := n) (f := f) (P := P) (c := (S.2.2.1 v).toNatClampNeg) hv)
    have h2 := rdm_oth (n := n) (f := f) (P := P) hv m (rst n f v (S.2.2.1 v).toNatClampNeg P (skn n f S.1 + 1, S.2)).2.2
    rw [rdm]
    generalize rst n f v (S.2.2.1 v).toNatClampNeg P (skn n f S.1 + 1, S.2) = R at h1 h2 ⊢
    split
    · split
      · exact h0
      · exact h0
    · split
      · exact h1
      · exact h1.trans h2
theorem rt0_oth {v k : Nat} {N : Int32} {S : RTX} : OTH v S (rt0 v k N S) := by
  refine ⟨fun j hj => ⟨upd_ne hj, upd_ne hj⟩, fun j hj => ⟨?_, ?_, ?_⟩, fun _ _ => ⟨rfl, rfl, rfl, rfl, rfl, rfl⟩⟩ <;> exact if_neg (by omega)
theorem rdv_oth {n v : Nat} {f P : Nat → Int32} {S : RTX} (hv : v ≤ 10) : (∀ j : Nat, j ≠ v → (rdv n f v P S).2.2.1 j = P j) ∧ OTH v S (rdv n f v P S).2.2.2 := by
  unfold rdv
  split
  · exact ⟨fun _ _ => rfl, rt0_oth⟩
  · split
    · exact ⟨fun _ _ => rfl, rt0_oth⟩
    · exact ⟨fun j hj => upd_ne hj, rt0_oth.trans (rdm_oth hv _ _)⟩
/-- the rows as a reading leaves them -/
def RTF (P : Nat → Int32) (S : RTX) (F : Nat → Nat → Int32) : Nat → Nat → Int32 := fun k => if k = 6 then P else if k = 7 then S.2.2.1 else if k = 8 then S.2.2.2.1 else if k = 9 then S.2.2.2.2.1 else if k = 10 then S.2.2.2.2.2.1 else if k = 11 then S.2.2.2.2.2.2.1 else if k = 12 then S.2.2.2.2.2.2.2.1 else if k = 13 then S.2.2.2.2.2.2.2.2.1 else if k = 14 then S.2.2.2.2.2.2.2.2.2.1 else if k = 15 then S.2.2.2.2.2.2.2.2.2.2.1 else if k = 16 then S.2.2.2.2.2.2.2.2.2.2.2.1 else if k = 17 then S.2.2.2.2.2.2.2.2.2.2.2.2 else F k
def FTR (i5 : Int32) (F : Nat → Nat → Int32) : RTX := (0, i5, F 7, F 8, F 9, F 10, F 11, F 12, F 13, F 14, F 15, F 16, F 17)
theorem RTF_no {P : Nat → Int32} {S : RTX} {F : Nat → Nat → Int32} {k : Nat} (h : ([6, 7, 8, 9, 10, 11, 12, 13, 14, 15, 16, 17] : List Nat).elem k = false) : RTF P S F k = F k := by
  have e6 : ¬ k = 6 := fun e => by subst e; cases h
  have e7 : ¬ k = 7 := fun e => by subst e; cases h
  have e8 : ¬ k = 8 := fun e => by subst e; cases h
  have e9 : ¬ k = 9 := fun e => by subst e; cases h
  have e10 : ¬ k = 10 := fun e => by subst e; cases h
  have e11 : ¬ k = 11 := fun e => by subst e; cases h
  have e12 : ¬ k = 12 := fun e => by subst e; cases h
  have e13 : ¬ k = 13 := fun e => by subst e; cases h
  have e14 : ¬ k = 14 := fun e => by subst e; cases h
  have e15 : ¬ k = 15 := fun e => by subst e; cases h
  have e16 : ¬ k = 16 := fun e => by subst e; cases h
  have e17 : ¬ k = 17 := fun e => by subst e; cases h
  unfold RTF
  rw [if_neg e6, if_neg e7, if_neg e8, if_neg e9, if_neg e10, if_neg e11, if_neg e12, if_neg e13, if_neg e14, if_neg e15, if_neg e16, if_neg e17]
theorem RP1_oth {n v i : Nat} {f : Nat → Int32} {F F' : Nat → Nat → Int32} {i5 : Int32} {w : VV} (hv : v ≤ 10) (hi : i < v) (hw : VOK w) (h : RP1 F i w) (hF : ∀ k : Nat, k = 53 ∨ k = 52 ∨ k = 61 → ∀ j : Nat, (j < 7 * v ∨ ¬ k = 53) → (j < 42 * v ∨ ¬ k = 52) → (j < 28 * v ∨ ¬ k = 61) → F' k j = F k j) (hF2 : ∀ k : Nat, 6 ≤ k → k ≤ 17 → F' k = RTF (rdv n f v (F 6) (FTR i5 F)).2.2.1 (rdv n f v (F 6) (FTR i5 F)).2.2.2 F k) : RP1 F' i w := by
  obtain ⟨o1, o2, o3, o4⟩ := rdv_oth (n := n) (v := v) (f := f) (P := F 6) (S := FTR i5 F) hv
  obtain ⟨r6, r7, r8, r9, r12, r53, r61⟩ := h
  obtain ⟨k1, k2, k3, k4⟩ := hw
  have a6 : F' 6 = (rdv n f v (F 6) (FTR i5 F)).2.2.1 := hF2 6 (by omega) (by omega)
  have a7 : F' 7 = (rdv n f v (F 6) (FTR i5 F)).2.2.2.2.2.1 := hF2 7 (by omega) (by omega)
  have a8 : F' 8 = (rdv n f v (F 6) (FTR i5 F)).2.2.2.2.2.2.1 := hF2 8 (by omega) (by omega)
  have a9 : F' 9 = (rdv n f v (F 6) (FTR i5 F)).2.2.2.2.2.2.2.1 := hF2 9 (by omega) (by omega)
  have a10 : F' 10 = (rdv n f v (F 6) (FTR i5 F)).2.2.2.2.2.2.2.2.1 := hF2 10 (by omega) (by omega)
  have a11 : F' 11 = (rdv n f v (F 6) (FTR i5 F)).2.2.2.2.2.2.2.2.2.1 := hF2 11 (by omega) (by omega)
  have a12 : F' 12 = (rdv n f v (F 6) (FTR i5 F)).2.2.2.2.2.2.2.2.2.2.1 := hF2 12 (by omega) (by omega)
  have a13 : F' 13 = (rdv n f v (F 6) (FTR i5 F)).2.2.2.2.2.2.2.2.2.2.2.1 := hF2 13 (by omega) (by omega)
  have a14 : F' 14 = (rdv n f v (F 6) (FTR i5 F)).2.2.2.2.2.2.2.2.2.2.2.2.1 := hF2 14 (by omega) (by omega)
  have a15 : F' 15 = (rdv n f v (F 6) (FTR i5 F)).2.2.2.2.2.2.2.2.2.2.2.2.2.1 := hF2 15 (by omega) (by omega)
  have a16 : F' 16 = (rdv n f v (F 6) (FTR i5 F)).2.2.2.2.2.2.2.2.2.2.2.2.2.2.1 := hF2 16 (by omega) (by omega)
  have a17 : F' 17 = (rdv n f v (F 6) (FTR i5 F)).2.2.2.2.2.2.2.2.2.2.2.2.2.2.2 := hF2 17 (by omega) (by omega)
  refine ⟨by rw [a6]; exact (o1 i (by omega)).trans r6, by rw [a7]; exact (o2 i (by omega)).1.trans r7, by rw [a8]; exact (o2 i (by omega)).2.trans r8, fun j hj => ?_, fun j hj => ?_, fun o ho => ⟨?_, fun t ht => ?_⟩, fun j o hj ho => ?_⟩
  · obtain ⟨b1, b2, b3⟩ := r9 j hj
    obtain ⟨c1, c2, c3⟩ := o3 (4 * i + j) (by omega)
    rw [a9, a10, a11]
    exact ⟨c1.trans b1, c2.trans b2, c3.trans b3⟩
  · obtain ⟨b1, b2, b3, b4, b5, b6⟩ := r12 j hj
    obtain ⟨c1, c2, c3, c4, c5, c6⟩ := o4 (12 * i + j) (by omega)
    rw [a12, a13, a14, a15, a16, a17]
    exact ⟨c1.trans b1, c2.trans b2, c3.trans b3, c4.trans b4, c5.trans b5, c6.trans b6⟩
  · rw [hF 53 (by omega) _ (by omega) (by omega) (by omega)]; exact (r53 o ho).1
  · have := (k4 o ho).2
    rw [hF 52 (by omega) _ (by omega) (by omega) (by omega)]; exact (r53 o ho).2 t ht
  · rw [hF 61 (by omega) _ (by omega) (by omega) (by omega)]; exact r61 j o hj ho
theorem RP1_new {n v : Nat} {f : Nat → Int32} {F F' : Nat → Nat → Int32} {i5 : Int32} {w : VV} (hn : n ≤ 400) (hv : v ≤ 10) (hw : TXW n f w) (hg : ¬ (rdv n f v (F 6) (FTR i5 F)).1 = 0) (h53 : ∀ o : Nat, o < 7 → F' 53 (7 * v + o) = 0) (h61 : ∀ j : Nat, j < 28 → F' 61 (28 * v + j) = -1) (hF2 : ∀ k : Nat, 6 ≤ k → k ≤ 17 → F' k = RTF (rdv n f v (F 6) (FTR i5 F)).2.2.1 (rdv n f v (F 6) (FTR i5 F)).2.2.2 F k) : RP1 F' v w := by
  obtain ⟨L, hL, w0, w1, w2, w3, w4, w5, w6, w7, w8, w9⟩ := hw
  obtain ⟨-, h⟩ := rd_agree (P := F 6) (S := FTR i5 F) (L := L) (f := f) hn hv
  obtain ⟨-, -, q0, q1, q2, q3, q4, q5, q6, q7⟩ := h.resolve_left (fun h => hg h.1)
  have a6 : F' 6 = (rdv n f v (F 6) (FTR i5 F)).2.2.1 := hF2 6 (by omega) (by omega)
  have a7 : F' 7 = (rdv n f v (F 6) (FTR i5 F)).2.2.2.2.2.1 := hF2 7 (by omega) (by omega)
  have a8 : F' 8 = (rdv n f v (F 6) (FTR i5 F)).2.2.2.2.2.2.1 := hF2 8 (by omega) (by omega)
  have a9 : F' 9 = (rdv n f v (F 6) (FTR i5 F)).2.2.2.2.2.2.2.1 := hF2 9 (by omega) (by omega)
  have a10 : F' 10 = (rdv n f v (F 6) (FTR i5 F)).2.2.2.2.2.2.2.2.1 := hF2 10 (by omega) (by omega)
  have a11 : F' 11 = (rdv n f v (F 6) (FTR i5 F)).2.2.2.2.2.2.2.2.2.1 := hF2 11 (by omega) (by omega)
  have a12 : F' 12 = (rdv n f v (F 6) (FTR i5 F)).2.2.2.2.2.2.2.2.2.2.1 := hF2 12 (by omega) (by omega)
  have a13 : F' 13 = (rdv n f v (F 6) (FTR i5 F)).2.2.2.2.2.2.2.2.2.2.2.1 := hF2 13 (by omega) (by omega)
  have a14 : F' 14 = (rdv n f v (F 6) (FTR i5 F)).2.2.2.2.2.2.2.2.2.2.2.2.1 := hF2 14 (by omega) (by omega)
  have a15 : F' 15 = (rdv n f v (F 6) (FTR i5 F)).2.2.2.2.2.2.2.2.2.2.2.2.2.1 := hF2 15 (by omega) (by omega)
  have a16 : F' 16 = (rdv n f v (F 6) (FTR i5 F)).2.2.2.2.2.2.2.2.2.2.2.2.2.2.1 := hF2 16 (by omega) (by omega)
  have a17 : F' 17 = (rdv n f v (F 6) (FTR i5 F)).2.2.2.2.2.2.2.2.2.2.2.2.2.2.2 := hF2 17 (by omega) (by omega)
  refine ⟨by rw [a6, q0, w0], by rw [a7, q2, w1], by rw [a8, q3, w2], fun j hj => ?_, fun j hj => ?_, fun o ho => ⟨?_, fun t ht => ?_⟩, fun j o hj ho => ?_⟩
  · rw [a9, a10, a11, w3, w4, w5]
    exact ⟨q4 j hj, q5 j hj, q6 j hj⟩
  · rw [w1] at hj
    obtain ⟨c1, c2, c3, c4, c5, c6⟩ := q7 j hj
    rw [a12, a13, a14, a15, a16, a17, w6]
    exact ⟨c1, c2, c3, c4, c5, c6⟩
  · rw [h53 o ho, w7 o ho]
  · rw [w7 o ho] at ht
    exact absurd ht (Nat.not_lt_zero _)
  · rw [show 7 * (4 * v + j) + o = 28 * v + (j * 7 + o) by omega, h61 _ (by omega), w8 _ (by omega)]
theorem L1_vall {v j : Nat} {g : Nat → Int32} : ∀ k : Nat, L1_X12_valley1 v g k j = if 7 * v ≤ j ∧ j < 7 * v + k then 0 else g j
  | 0 => by rw [if_neg (by omega)]; rfl
  | k + 1 => by
    show upd (L1_X12_valley1 v g k) (7 * v + k) 0 j = _
    by_cases e : j = 7 * v + k
    · rw [e, upd_eq, if_pos (by omega)]
    · rw [upd_ne e, L1_vall k]
      by_cases h : 7 * v ≤ j ∧ j < 7 * v + k
      · rw [if_pos h, if_pos (by omega)]
      · rw [if_neg h, if_neg (by omega)]
theorem L2_vall {v j : Nat} {g : Nat → Int32} : ∀ k : Nat, L2_X12_valley1 v g k j = if 28 * v ≤ j ∧ j < 28 * v + k then -1 else g j
  | 0 => by rw [if_neg (by omega)]; rfl
  | k + 1 => by
    show upd (L2_X12_valley1 v g k) (28 * v + k) (-1) j = _
    by_cases e : j = 28 * v + k
    · rw [e, upd_eq, if_pos (by omega)]
    · rw [upd_ne e, L2_vall k]
      by_cases h : 28 * v ≤ j ∧ j < 28 * v + k
      · rw [if_pos h, if_pos (by omega)]
      · rw [if_neg h, if_neg (by omega)]
section
variable {l : Launch} {g : GG} {Γ : Nat → Nat} {m0 n nv np : Nat} {fb : Nat → Int32} {V : Nat → VV}
set_option maxHeartbeats 8000000 in
theorem E12_faultV (hn : n ≤ 400) (hU : UQ TS0 Γ) (hnv : nv ≤ 10) (tm : Γ m0 = 60) : EX l g yX12_fault cX12_fault 2 (some .int) pX12_fault_0 Γ [.ref m0] (fun H => RR1 g m0 n fb nv np H ∧ RRV g m0 nv V H) (fun _ v H1 => v = .int (rdF n (ub fb)) ∧ RRV g m0 nv V H1) :=
  EX_of (SX12_fault_0 l g) hU ⟨av_ref tm (by decide), trivial⟩ rfl fun H hT hR => by
    obtain ⟨hR, B, F, hB, hP0⟩ := hR
    obtain ⟨tr, er, h1, h2, h3, h4, h5⟩ := hR.tags hT tm
    obtain ⟨ws, A0, hv⟩ := h_obj hT (by rw [tm]; decide) ((congrArg TS0.1 tm).trans rfl)
    have hk := KV_of hv
    have hlen := KV_len hk
    have F1 := at_fe (k := 1) A0 rfl (by rw [hlen]; decide) h1
    have F2 := at_fe (k := 2) A0 rfl (by rw [hlen]; decide) h2
    have F18 := at_fe (k := 18) A0 rfl (by rw [hlen]; decide) h3
    have F27 := at_fe (k := 27) A0 rfl (by rw [hlen]; decide) h4
    obtain ⟨w5, F5, a5⟩ := hv.get (k := 5) rfl
    obtain ⟨i5, rfl, -⟩ := avi_int rfl a5
    have G6 := at_fe (k := 6) A0 rfl (by rw [hlen]; decide) (hB 6 (by decide)).1
    have G7 := at_fe (k := 7) A0 rfl (by rw [hlen]; decide) (hB 7 (by decide)).1
    have G8 := at_fe (k := 8) A0 rfl (by rw [hlen]; decide) (hB 8 (by decide)).1
    have G9 := at_fe (k := 9) A0 rfl (by rw [hlen]; decide) (hB 9 (by decide)).1
    have G10 := at_fe (k := 10) A0 rfl (by rw [hlen]; decide) (hB 10 (by decide)).1
    have G11 := at_fe (k := 11) A0 rfl (by rw [hlen]; decide) (hB 11 (by decide)).1
    have G12 := at_fe (k := 12) A0 rfl (by rw [hlen]; decide) (hB 12 (by decide)).1
    have G13 := at_fe (k := 13) A0 rfl (by rw [hlen]; decide) (hB 13 (by decide)).1
    have G14 := at_fe (k := 14) A0 rfl (by rw [hlen]; decide) (hB 14 (by decide)).1
    have G15 := at_fe (k := 15) A0 rfl (by rw [hlen]; decide) (hB 15 (by decide)).1
    have G16 := at_fe (k := 16) A0 rfl (by rw [hlen]; decide) (hB 16 (by decide)).1
    have G17 := at_fe (k := 17) A0 rfl (by rw [hlen]; decide) (hB 17 (by decide)).1
    refine ⟨6, _, _, by decide, C_X12_faultV l g m0 ws tr (B 6) (B 7) (B 8) (B 9) (B 10) (B 11) (B 12) (B 13) (B 14) (B 15) (B 16) (B 17) fb n nv (F 6) (FTR i5 F) hk hn hnv F2 F5 F18 F1 G6 G7 G8 G9 G10 G11 G12 G13 G14 G15 G16 G17, vaP_cons A0 (vaP_cons h5 (vaP_cons (hB 6 (by decide)).2 (vaP_cons (hB 7 (by decide)).2 (vaP_cons (hB 8 (by decide)).2 (vaP_cons (hB 9 (by decide)).2 (vaP_cons (hB 10 (by decide)).2 (vaP_cons (hB 11 (by decide)).2 (vaP_cons (hB 12 (by decide)).2 (vaP_cons (hB 13 (by decide)).2 (vaP_cons (hB 14 (by decide)).2 (vaP_cons (hB 15 (by decide)).2 (vaP_cons (hB 16 (by decide)).2 (vaP_cons (hB 17 (by decide)).2 (vaP_nil)))))))))))))), D_tags (tl := [60, 61, 62, 63, 64, 65, 120, 121, 66, 122, 67, 123, 68, 69]) (by show [Γ m0, Γ tr, Γ (B 6), Γ (B 7), Γ (B 8), Γ (B 9), Γ (B 10), Γ (B 11), Γ (B 12), Γ (B 13), Γ (B 14), Γ (B 15), Γ (B 16), Γ (B 17)] = _; rw [tm, er, (hB.tag hT tm (k := 6) (by decide)).1, (hB.tag hT tm (k := 7) (by decide)).1, (hB.tag hT tm (k := 8) (by decide)).1, (hB.tag hT tm (k := 9) (by decide)).1, (hB.tag hT tm (k := 10) (by decide)).1, (hB.tag hT tm (k := 11) (by decide)).1, (hB.tag hT tm (k := 12) (by decide)).1, (hB.tag hT tm (k := 13) (by decide)).1, (hB.tag hT tm (k := 14) (by decide)).1, (hB.tag hT tm (k := 15) (by decide)).1, (hB.tag hT tm (k := 16) (by decide)).1, (hB.tag hT tm (k := 17) (by decide)).1]; rfl) (by decide) (by decide), fun x u H1 hp hP hz hk hT1 hun => ?_⟩
    obtain ⟨rfl, rfl⟩ := hp
    exact ⟨congrArg Value.int (rdv_F _ _ hn hnv), RRV.upd (ks := [6, 7, 8, 9, 10, 11, 12, 13, 14, 15, 16, 17]) (F' := RTF (rdv n (ub fb) nv (F 6) (FTR i5 F)).2.2.1 (rdv n (ub fb) nv (F 6) (FTR i5 F)).2.2.2 F) hB hT tm hun rfl rfl (fun k hk => RTF_no hk) (fun k hk => by
      simp only [List.mem_cons, List.not_mem_nil, or_false] at hk
      rcases hk with rfl | rfl | rfl | rfl | rfl | rfl | rfl | rfl | rfl | rfl | rfl | rfl
      · exact hP 2 _ rfl
      · exact hP 3 _ rfl
      · exact hP 4 _ rfl
      · exact hP 5 _ rfl
      · exact hP 6 _ rfl
      · exact hP 7 _ rfl
      · exact hP 8 _ rfl
      · exact hP 9 _ rfl
      · exact hP 10 _ rfl
      · exact hP 11 _ rfl
      · exact hP 12 _ rfl
      · exact hP 13 _ rfl) (fun j hj => ⟨(hP0 j hj).1, RP1_oth (n := n) (v := nv) (f := ub fb) (i5 := i5) hnv hj (hP0 j hj).1 (hP0 j hj).2 (fun k hk j _ _ _ => by
      rcases hk with rfl | rfl | rfl <;> exact congrFun (RTF_no rfl) j) (fun k h1 h2 => rfl)⟩)⟩
set_option maxHeartbeats 8000000 in
theorem E12_valleyV (hn : n ≤ 400) (hU : UQ TS0 Γ) (hnv : nv ≤ 10) (tm : Γ m0 = 60) {V' : Nat → VV} (hV' : VLR n (ub fb) nv V V') : EX l g yX12_valley cX12_valley 2 (some .int) pX12_valley_0 Γ [.ref m0] (fun H => RR1 g m0 n fb nv np H ∧ RRV g m0 nv V H) (fun _ v H1 => RRV g m0 (vlM n (ub fb) nv) V' H1) :=
  EX_of (SX12_valley_0 l g) hU ⟨av_ref tm (by decide), trivial⟩ rfl fun H hT hR => by
    obtain ⟨hR, B, F, hB, hP0⟩ := hR
    obtain ⟨tr, er, h1, h2, h3, h4, h5⟩ := hR.tags hT tm
    obtain ⟨ws, A0, hv⟩ := h_obj hT (by rw [tm]; decide) ((congrArg TS0.1 tm).trans rfl)
    have hk := KV_of hv
    have hlen := KV_len hk
    have F1 := at_fe (k := 1) A0 rfl (by rw [hlen]; decide) h1
    have F2 := at_fe (k := 2) A0 rfl (by rw [hlen]; decide) h2
    have F18 := at_fe (k := 18) A0 rfl (by rw [hlen]; decide) h3
    have F27 := at_fe (k := 27) A0 rfl (by rw [hlen]; decide) h4
    obtain ⟨w5, F5, a5⟩ := hv.get (k := 5) rfl
    obtain ⟨i5, rfl, -⟩ := avi_int rfl a5
    have G6 := at_fe (k := 6) A0 rfl (by rw [hlen]; decide) (hB 6 (by decide)).1
    have G7 := at_fe (k := 7) A0 rfl (by rw [hlen]; decide) (hB 7 (by decide)).1
    have G8 := at_fe (k := 8) A0 rfl (by rw [hlen]; decide) (hB 8 (by decide)).1
    have G9 := at_fe (k := 9) A0 rfl (by rw [hlen]; decide) (hB 9 (by decide)).1
    have G10 := at_fe (k := 10) A0 rfl (by rw [hlen]; decide) (hB 10 (by decide)).1
    have G11 := at_fe (k := 11) A0 rfl (by rw [hlen]; decide) (hB 11 (by decide)).1
    have G12 := at_fe (k := 12) A0 rfl (by rw [hlen]; decide) (hB 12 (by decide)).1
    have G13 := at_fe (k := 13) A0 rfl (by rw [hlen]; decide) (hB 13 (by decide)).1
    have G14 := at_fe (k := 14) A0 rfl (by rw [hlen]; decide) (hB 14 (by decide)).1
    have G15 := at_fe (k := 15) A0 rfl (by rw [hlen]; decide) (hB 15 (by decide)).1
    have G16 := at_fe (k := 16) A0 rfl (by rw [hlen]; decide) (hB 16 (by decide)).1
    have G17 := at_fe (k := 17) A0 rfl (by rw [hlen]; decide) (hB 17 (by decide)).1
    have G53 := at_fe (k := 53) A0 rfl (by rw [hlen]; decide) (hB 53 (by decide)).1
    have G61 := at_fe (k := 61) A0 rfl (by rw [hlen]; decide) (hB 61 (by decide)).1
    by_cases h10 : nv = 10
    · refine ⟨0, _, _, by decide, K_X12_valleyF l g m0 ws nv hlen F18 h10, vaP_cons A0 vaP_nil, D_tags (tl := [60]) (by show [Γ m0] = _; rw [tm]) (by decide) (by decide), fun x u H1 hp hP hz hk hT1 hun => ?_⟩
      obtain ⟨rfl, rfl⟩ := hp
      have hno : ¬ vlN n nv (ub fb) := fun h => absurd h.1 (by omega)
      rw [vlM_n hno]
      obtain rfl : V' = V := (hV'.resolve_left fun h => hno h.1).2
      refine ⟨B, F, fun k hk9 => ⟨?_, ?_⟩, hP0⟩
      · exact hun.fld tm (by decide) rfl (mdn_at (l := VKS.map fun k => (60, k)) rfl (List.mem_map.mpr ⟨k, hk9, rfl⟩)) (hB k hk9).1
      · obtain ⟨q1, q2, -⟩ := hB.tag hT tm hk9
        have q3 : 60 < VKT k := by
          simp only [VKS, List.mem_cons, List.not_mem_nil, or_false] at hk9
          rcases hk9 with rfl | rfl | rfl | rfl | rfl | rfl | rfl | rfl | rfl | rfl | rfl | rfl | rfl | rfl | rfl
          · decide
          · decide
          · decide
          · decide
          · decide
          · decide
          · decide
          · decide
          · decide
          · decide
          · decide
          · decide
          · decide
          · decide
          · decide
        have q4 : Γ (B k) ≠ 0 := by rw [q1]; exact q2
        exact (hB k hk9).2.kept (hk _ (hT.lt q4) (nin_tag (tl := [60]) (t := VKT k) (by show [Γ m0] = _; rw [tm]) q1 (by show (Nat.beq 60 (VKT k) || false) = false; rw [Bool.or_false]; exact Bool.eq_false_iff.mpr (fun e => by have := Nat.eq_of_beq_eq_true e; omega)) (hT.lt q4)))
    · have hnv9 : nv < 10 := by omega
      by_cases hg : ¬ (rdv n (ub fb) nv (F 6) (FTR i5 F)).1 = 0
      · refine ⟨6, _, _, by decide, K_X12_valley1 l g m0 ws tr (B 6) (B 7) (B 8) (B 9) (B 10) (B 11) (B 12) (B 13) (B 14) (B 15) (B 16) (B 17) fb n nv (F 6) (FTR i5 F) (B 53) (F 53) (B 61) (F 61) hk hn hnv F2 F5 F18 F1 G6 G7 G8 G9 G10 G11 G12 G13 G14 G15 G16 G17 G53 G61 hnv9 hg, vaP_cons A0 (vaP_cons h5 (vaP_cons (hB 6 (by decide)).2 (vaP_cons (hB 7 (by decide)).2 (vaP_cons (hB 8 (by decide)).2 (vaP_cons (hB 9 (by decide)).2 (vaP_cons (hB 10 (by decide)).2 (vaP_cons (hB 11 (by decide)).2 (vaP_cons (hB 12 (by decide)).2 (vaP_cons (hB 13 (by decide)).2 (vaP_cons (hB 14 (by decide)).2 (vaP_cons (hB 15 (by decide)).2 (vaP_cons (hB 16 (by decide)).2 (vaP_cons (hB 17 (by decide)).2 (vaP_cons (hB 53 (by decide)).2 (vaP_cons (hB 61 (by decide)).2 (vaP_nil)))))))))))))))), D_tags (tl := [60, 61, 62, 63, 64, 65, 120, 121, 66, 122, 67, 123, 68, 69, 89, 96]) (by show [Γ m0, Γ tr, Γ (B 6), Γ (B 7), Γ (B 8), Γ (B 9), Γ (B 10), Γ (B 11), Γ (B 12), Γ (B 13), Γ (B 14), Γ (B 15), Γ (B 16), Γ (B 17), Γ (B 53), Γ (B 61)] = _; rw [tm, er, (hB.tag hT tm (k := 6) (by decide)).1, (hB.tag hT tm (k := 7) (by decide)).1, (hB.tag hT tm (k := 8) (by decide)).1, (hB.tag hT tm (k := 9) (by decide)).1, (hB.tag hT tm (k := 10) (by decide)).1, (hB.tag hT tm (k := 11) (by decide)).1, (hB.tag hT tm (k := 12) (by decide)).1, (hB.tag hT tm (k := 13) (by decide)).1, (hB.tag hT tm (k := 14) (by decide)).1, (hB.tag hT tm (k := 15) (by decide)).1, (hB.tag hT tm (k := 16) (by decide)).1, (hB.tag hT tm (k := 17) (by decide)).1, (hB.tag hT tm (k := 53) (by decide)).1, (hB.tag hT tm (k := 61) (by decide)).1]; rfl) (by decide) (by decide), fun x u H1 hp hP hz hk hT1 hun => ?_⟩
        obtain ⟨hx, rfl⟩ := hp
        have hyes : vlN n nv (ub fb) := ⟨hnv9, (rdv_ok1 _ _ hn hnv).mp hg⟩
        obtain ⟨-, w, hw, rfl⟩ := hV'.resolve_right fun h => h.1 hyes
        rw [vlM_y hyes]
        have hF2 : ∀ k : Nat, 6 ≤ k → k ≤ 17 → (fset (fset (RTF (rdv n (ub fb) nv (F 6) (FTR i5 F)).2.2.1 (rdv n (ub fb) nv (F 6) (FTR i5 F)).2.2.2 F) 53 (F_X12_valley1 nv (F 53) (F 61)).2.1) 61 (F_X12_valley1 nv (F 53) (F 61)).2.2) k = RTF (rdv n (ub fb) nv (F 6) (FTR i5 F)).2.2.1 (rdv n (ub fb) nv (F 6) (FTR i5 F)).2.2.2 F k := fun k h1 h2 => by
          unfold fset
          rw [if_neg (by omega), if_neg (by omega)]
        refine RRV.upd (ks := [6, 7, 8, 9, 10, 11, 12, 13, 14, 15, 16, 17, 53, 61]) (F' := (fset (fset (RTF (rdv n (ub fb) nv (F 6) (FTR i5 F)).2.2.1 (rdv n (ub fb) nv (F 6) (FTR i5 F)).2.2.2 F) 53 (F_X12_valley1 nv (F 53) (F 61)).2.1) 61 (F_X12_valley1 nv (F 53) (F 61)).2.2)) hB hT tm hun rfl rfl (fun k hk => by
      have e53 : ¬ k = 53 := fun e => by subst e; cases hk
      have e61 : ¬ k = 61 := fun e => by subst e; cases hk
      unfold fset
      rw [if_neg e61, if_neg e53]
      refine RTF_no ?_
      cases hq : ([6, 7, 8, 9, 10, 11, 12, 13, 14, 15, 16, 17] : List Nat).elem k with
      | false => rfl
      | true =>
        have h1 := List.elem_iff.mp hq
        have h2 : k ∈ ([6, 7, 8, 9, 10, 11, 12, 13, 14, 15, 16, 17, 53, 61] : List Nat) := by
          simp only [List.mem_cons, List.not_mem_nil, or_false] at h1 ⊢
          omega
        rw [List.elem_iff.mpr h2] at hk
        cases hk) (fun k hk => by
      simp only [List.mem_cons, List.not_mem_nil, or_false] at hk
      rcases hk with rfl | rfl | rfl | rfl | rfl | rfl | rfl | rfl | rfl | rfl | rfl | rfl | rfl | rfl
      · exact hP 2 _ rfl
      · exact hP 3 _ rfl
      · exact hP 4 _ rfl
      · exact hP 5 _ rfl
      · exact hP 6 _ rfl
      · exact hP 7 _ rfl
      · exact hP 8 _ rfl
      · exact hP 9 _ rfl
      · exact hP 10 _ rfl
      · exact hP 11 _ rfl
      · exact hP 12 _ rfl
      · exact hP 13 _ rfl
      · exact hP 14 _ rfl
      · exact hP 15 _ rfl) fun j hj => ?_
        by_cases hj2 : j = nv
        · subst hj2
          rw [vset_eq]
          obtain ⟨L, hL, w0, w1, w2, w3, w4, w5, w6, w7, w8, w9⟩ := id hw
          exact ⟨w9, RP1_new (i5 := i5) hn hnv hw hg (fun o ho => by
            show L1_X12_valley1 j (F 53) 7 (7 * j + o) = 0
            rw [L1_vall, if_pos (by omega)]) (fun o ho => by
            show L2_X12_valley1 j (F 61) 28 (28 * j + o) = -1
            rw [L2_vall, if_pos (by omega)]) hF2⟩
        · rw [vset_ne hj2]
          have hj3 : j < nv := by omega
          refine ⟨(hP0 j hj3).1, RP1_oth (n := n) (v := nv) (f := ub fb) (i5 := i5) hnv hj3 (hP0 j hj3).1 (hP0 j hj3).2 (fun k hk q h1 h2 h3 => ?_) hF2⟩
          rcases hk with rfl | rfl | rfl
          · show L1_X12_valley1 nv (F 53) 7 q = F 53 q
            rw [L1_vall, if_neg (by omega)]
          · exact (rfl : F 52 q = F 52 q)
          · show L2_X12_valley1 nv (F 61) 28 q = F 61 q
            rw [L2_vall, if_neg (by omega)]
      · refine ⟨6, _, _, by decide, C_X12_valley0 l g m0 ws tr (B 6) (B 7) (B 8) (B 9) (B 10) (B 11) (B 12) (B 13) (B 14) (B 15) (B 16) (B 17) fb n nv (F 6) (FTR i5 F) hk hn hnv F2 F5 F18 F1 G6 G7 G8 G9 G10 G11 G12 G13 G14 G15 G16 G17 hnv9 hg, vaP_cons A0 (vaP_cons h5 (vaP_cons (hB 6 (by decide)).2 (vaP_cons (hB 7 (by decide)).2 (vaP_cons (hB 8 (by decide)).2 (vaP_cons (hB 9 (by decide)).2 (vaP_cons (hB 10 (by decide)).2 (vaP_cons (hB 11 (by decide)).2 (vaP_cons (hB 12 (by decide)).2 (vaP_cons (hB 13 (by decide)).2 (vaP_cons (hB 14 (by decide)).2 (vaP_cons (hB 15 (by decide)).2 (vaP_cons (hB 16 (by decide)).2 (vaP_cons (hB 17 (by decide)).2 (vaP_nil)))))))))))))), D_tags (tl := [60, 61, 62, 63, 64, 65, 120, 121, 66, 122, 67, 123, 68, 69]) (by show [Γ m0, Γ tr, Γ (B 6), Γ (B 7), Γ (B 8), Γ (B 9), Γ (B 10), Γ (B 11), Γ (B 12), Γ (B 13), Γ (B 14), Γ (B 15), Γ (B 16), Γ (B 17)] = _; rw [tm, er, (hB.tag hT tm (k := 6) (by decide)).1, (hB.tag hT tm (k := 7) (by decide)).1, (hB.tag hT tm (k := 8) (by decide)).1, (hB.tag hT tm (k := 9) (by decide)).1, (hB.tag hT tm (k := 10) (by decide)).1, (hB.tag hT tm (k := 11) (by decide)).1, (hB.tag hT tm (k := 12) (by decide)).1, (hB.tag hT tm (k := 13) (by decide)).1, (hB.tag hT tm (k := 14) (by decide)).1, (hB.tag hT tm (k := 15) (by decide)).1, (hB.tag hT tm (k := 16) (by decide)).1, (hB.tag hT tm (k := 17) (by decide)).1]; rfl) (by decide) (by decide), fun x u H1 hp hP hz hk hT1 hun => ?_⟩
        obtain ⟨rfl, rfl⟩ := hp
        have hno : ¬ vlN n nv (ub fb) := fun h => hg ((rdv_ok1 _ _ hn hnv).mpr h.2)
        rw [vlM_n hno]
        obtain rfl : V' = V := (hV'.resolve_left fun h => hno h.1).2
        have k3 : ∀ k : Nat, k = 52 ∨ k = 53 ∨ k = 61 → AT g (VKD k) (VKN k) (B k) (F k) H1 := fun k hk9 => by
          have hm : k ∈ VKS := by rcases hk9 with rfl | rfl | rfl <;> decide
          obtain ⟨q1, q2, -⟩ := hB.tag hT tm hm
          have q4 : Γ (B k) ≠ 0 := by rw [q1]; exact q2
          exact (hB k hm).2.kept (hk _ (hT.lt q4) (nin_tag (tl := [60, 61, 62, 63, 64, 65, 120, 121, 66, 122, 67, 123, 68, 69]) (t := VKT k) (by show [Γ m0, Γ tr, Γ (B 6), Γ (B 7), Γ (B 8), Γ (B 9), Γ (B 10), Γ (B 11), Γ (B 12), Γ (B 13), Γ (B 14), Γ (B 15), Γ (B 16), Γ (B 17)] = _; rw [tm, er, (hB.tag hT tm (k := 6) (by decide)).1, (hB.tag hT tm (k := 7) (by decide)).1, (hB.tag hT tm (k := 8) (by decide)).1, (hB.tag hT tm (k := 9) (by decide)).1, (hB.tag hT tm (k := 10) (by decide)).1, (hB.tag hT tm (k := 11) (by decide)).1, (hB.tag hT tm (k := 12) (by decide)).1, (hB.tag hT tm (k := 13) (by decide)).1, (hB.tag hT tm (k := 14) (by decide)).1, (hB.tag hT tm (k := 15) (by decide)).1, (hB.tag hT tm (k := 16) (by decide)).1, (hB.tag hT tm (k := 17) (by decide)).1]; rfl) q1 (by rcases hk9 with rfl | rfl | rfl <;> rfl) (hT.lt q4)))
        refine RRV.upd (ks := [6, 7, 8, 9, 10, 11, 12, 13, 14, 15, 16, 17, 52, 53, 61]) (F' := RTF (rdv n (ub fb) nv (F 6) (FTR i5 F)).2.2.1 (rdv n (ub fb) nv (F 6) (FTR i5 F)).2.2.2 F) hB hT tm hun rfl rfl (fun k hk9 => RTF_no ?_) (fun k hk9 => ?_) (fun j hj => ⟨(hP0 j hj).1, RP1_oth (n := n) (v := nv) (f := ub fb) (i5 := i5) hnv hj (hP0 j hj).1 (hP0 j hj).2 (fun k hk j _ _ _ => by
      rcases hk with rfl | rfl | rfl <;> exact congrFun (RTF_no rfl) j) (fun k h1 h2 => rfl)⟩)
        · cases hq : ([6, 7, 8, 9, 10, 11, 12, 13, 14, 15, 16, 17] : List Nat).elem k with
          | false => rfl
          | true =>
            have h1 := List.elem_iff.mp hq
            have h2 : k ∈ ([6, 7, 8, 9, 10, 11, 12, 13, 14, 15, 16, 17, 52, 53, 61] : List Nat) := by
              simp only [List.mem_cons, List.not_mem_nil, or_false] at h1 ⊢
              omega
            rw [List.elem_iff.mpr h2] at hk9
            cases hk9
        · simp only [List.mem_cons, List.not_mem_nil, or_false] at hk9
          rcases hk9 with rfl | rfl | rfl | rfl | rfl | rfl | rfl | rfl | rfl | rfl | rfl | rfl | rfl | rfl | rfl
          · exact hP 2 _ rfl
          · exact hP 3 _ rfl
          · exact hP 4 _ rfl
          · exact hP 5 _ rfl
          · exact hP 6 _ rfl
          · exact hP 7 _ rfl
          · exact hP 8 _ rfl
          · exact hP 9 _ rfl
          · exact hP 10 _ rfl
          · exact hP 11 _ rfl
          · exact hP 12 _ rfl
          · exact hP 13 _ rfl
          · exact k3 52 (by omega)
          · exact k3 53 (by omega)
          · exact k3 61 (by omega)
end
