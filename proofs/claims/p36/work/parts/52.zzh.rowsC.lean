theorem dX5_calledIn_0 : decode cX5_calledIn 0 = .ok (.iload_n 0, 1) := DX5_calledIn _ _ _ rfl
theorem dX5_calledIn_1 : decode cX5_calledIn 1 = .ok (.iload_n 1, 1) := DX5_calledIn _ _ _ rfl
theorem dX5_calledIn_2 : decode cX5_calledIn 2 = .ok (.iconst 3, 1) := DX5_calledIn _ _ _ rfl
theorem dX5_calledIn_3 : decode cX5_calledIn 3 = .ok (.imul, 1) := DX5_calledIn _ _ _ rfl
theorem dX5_calledIn_4 : decode cX5_calledIn 4 = .ok (.ishr, 1) := DX5_calledIn _ _ _ rfl
theorem dX5_calledIn_5 : decode cX5_calledIn 5 = .ok (.bipush 7, 2) := DX5_calledIn _ _ _ rfl
theorem dX5_calledIn_7 : decode cX5_calledIn 7 = .ok (.iand, 1) := DX5_calledIn _ _ _ rfl
theorem dX5_calledIn_8 : decode cX5_calledIn 8 = .ok (.ireturn, 1) := DX5_calledIn _ _ _ rfl
theorem dX5_append_0 : decode cX5_append 0 = .ok (.aload_n 0, 1) := DX5_append _ _ _ rfl
theorem dX5_append_1 : decode cX5_append 1 = .ok (.getfield 29, 3) := DX5_append _ _ _ rfl
theorem dX5_append_4 : decode cX5_append 4 = .ok (.bipush 7, 2) := DX5_append _ _ _ rfl
theorem dX5_append_6 : decode cX5_append 6 = .ok (.if_icmp .ge 23, 3) := DX5_append _ _ _ rfl
theorem dX5_append_9 : decode cX5_append 9 = .ok (.aload_n 0, 1) := DX5_append _ _ _ rfl
theorem dX5_append_10 : decode cX5_append 10 = .ok (.getfield 22, 3) := DX5_append _ _ _ rfl
theorem dX5_append_13 : decode cX5_append 13 = .ok (.aload_n 0, 1) := DX5_append _ _ _ rfl
theorem dX5_append_14 : decode cX5_append 14 = .ok (.getfield 29, 3) := DX5_append _ _ _ rfl
theorem dX5_append_17 : decode cX5_append 17 = .ok (.iload_n 1, 1) := DX5_append _ _ _ rfl
theorem dX5_append_18 : decode cX5_append 18 = .ok (.iastore, 1) := DX5_append _ _ _ rfl
theorem dX5_append_19 : decode cX5_append 19 = .ok (.aload_n 0, 1) := DX5_append _ _ _ rfl
theorem dX5_append_20 : decode cX5_append 20 = .ok (.dup, 1) := DX5_append _ _ _ rfl
theorem dX5_append_21 : decode cX5_append 21 = .ok (.getfield 29, 3) := DX5_append _ _ _ rfl
theorem dX5_append_24 : decode cX5_append 24 = .ok (.iconst 1, 1) := DX5_append _ _ _ rfl
theorem dX5_append_25 : decode cX5_append 25 = .ok (.iadd, 1) := DX5_append _ _ _ rfl
theorem dX5_append_26 : decode cX5_append 26 = .ok (.putfield 29, 3) := DX5_append _ _ _ rfl
theorem dX5_append_29 : decode cX5_append 29 = .ok (.return_, 1) := DX5_append _ _ _ rfl
theorem dX5_findAll_0 : decode cX5_findAll 0 = .ok (.iload_n 1, 1) := DX5_findAll _ _ _ rfl
theorem dX5_findAll_1 : decode cX5_findAll 1 = .ok (.aload_n 0, 1) := DX5_findAll _ _ _ rfl
theorem dX5_findAll_2 : decode cX5_findAll 2 = .ok (.getfield 29, 3) := DX5_findAll _ _ _ rfl
theorem dX5_findAll_5 : decode cX5_findAll 5 = .ok (.if_icmp .lt 12, 3) := DX5_findAll _ _ _ rfl
theorem dX5_findAll_17 : decode cX5_findAll 17 = .ok (.aload_n 0, 1) := DX5_findAll _ _ _ rfl
theorem dX5_findAll_18 : decode cX5_findAll 18 = .ok (.getfield 22, 3) := DX5_findAll _ _ _ rfl
theorem dX5_findAll_21 : decode cX5_findAll 21 = .ok (.iload_n 1, 1) := DX5_findAll _ _ _ rfl
theorem dX5_findAll_22 : decode cX5_findAll 22 = .ok (.iaload, 1) := DX5_findAll _ _ _ rfl
theorem dX5_findAll_23 : decode cX5_findAll 23 = .ok (.iload_n 2, 1) := DX5_findAll _ _ _ rfl
theorem dX5_findAll_24 : decode cX5_findAll 24 = .ok (.iconst (-1), 1) := DX5_findAll _ _ _ rfl
theorem dX5_findAll_25 : decode cX5_findAll 25 = .ok (.ixor, 1) := DX5_findAll _ _ _ rfl
theorem dX5_findAll_26 : decode cX5_findAll 26 = .ok (.iand, 1) := DX5_findAll _ _ _ rfl
theorem dX5_findAll_27 : decode cX5_findAll 27 = .ok (.istore 5, 2) := DX5_findAll _ _ _ rfl
theorem dX5_findAll_29 : decode cX5_findAll 29 = .ok (.iconst 0, 1) := DX5_findAll _ _ _ rfl
theorem dX5_findAll_30 : decode cX5_findAll 30 = .ok (.istore 6, 2) := DX5_findAll _ _ _ rfl
theorem dX5_findAll_32 : decode cX5_findAll 32 = .ok (.iload 6, 2) := DX5_findAll _ _ _ rfl
theorem dX5_findAll_34 : decode cX5_findAll 34 = .ok (.aload_n 0, 1) := DX5_findAll _ _ _ rfl
theorem dX5_findAll_35 : decode cX5_findAll 35 = .ok (.getfield 29, 3) := DX5_findAll _ _ _ rfl
theorem dX5_findAll_38 : decode cX5_findAll 38 = .ok (.if_icmp .ge 42, 3) := DX5_findAll _ _ _ rfl
theorem dX5_findAll_80 : decode cX5_findAll 80 = .ok (.aload_n 0, 1) := DX5_findAll _ _ _ rfl
theorem dX5_findAll_81 : decode cX5_findAll 81 = .ok (.iload_n 1, 1) := DX5_findAll _ _ _ rfl
theorem dX5_findAll_82 : decode cX5_findAll 82 = .ok (.iconst 1, 1) := DX5_findAll _ _ _ rfl
theorem dX5_findAll_83 : decode cX5_findAll 83 = .ok (.iadd, 1) := DX5_findAll _ _ _ rfl
theorem dX5_findAll_84 : decode cX5_findAll 84 = .ok (.iload_n 2, 1) := DX5_findAll _ _ _ rfl
theorem dX5_findAll_85 : decode cX5_findAll 85 = .ok (.iload_n 3, 1) := DX5_findAll _ _ _ rfl
theorem dX5_findAll_86 : decode cX5_findAll 86 = .ok (.iconst 1, 1) := DX5_findAll _ _ _ rfl
theorem dX5_findAll_87 : decode cX5_findAll 87 = .ok (.iload_n 1, 1) := DX5_findAll _ _ _ rfl
theorem dX5_findAll_88 : decode cX5_findAll 88 = .ok (.ishl, 1) := DX5_findAll _ _ _ rfl
theorem dX5_findAll_89 : decode cX5_findAll 89 = .ok (.ior, 1) := DX5_findAll _ _ _ rfl
theorem dX5_findAll_90 : decode cX5_findAll 90 = .ok (.iload 4, 2) := DX5_findAll _ _ _ rfl
theorem dX5_findAll_92 : decode cX5_findAll 92 = .ok (.bipush 7, 2) := DX5_findAll _ _ _ rfl
theorem dX5_findAll_94 : decode cX5_findAll 94 = .ok (.iload_n 1, 1) := DX5_findAll _ _ _ rfl
theorem dX5_findAll_95 : decode cX5_findAll 95 = .ok (.iconst 3, 1) := DX5_findAll _ _ _ rfl
theorem dX5_findAll_96 : decode cX5_findAll 96 = .ok (.imul, 1) := DX5_findAll _ _ _ rfl
theorem dX5_findAll_97 : decode cX5_findAll 97 = .ok (.ishl, 1) := DX5_findAll _ _ _ rfl
theorem dX5_findAll_98 : decode cX5_findAll 98 = .ok (.ior, 1) := DX5_findAll _ _ _ rfl
theorem dX5_findAll_99 : decode cX5_findAll 99 = .ok (.invokevirtual 40, 3) := DX5_findAll _ _ _ rfl
theorem dX5_findAll_102 : decode cX5_findAll 102 = .ok (.return_, 1) := DX5_findAll _ _ _ rfl
theorem dX5_findAll_41 : decode cX5_findAll 41 = .ok (.iload 5, 2) := DX5_findAll _ _ _ rfl
theorem dX5_findAll_43 : decode cX5_findAll 43 = .ok (.iload 6, 2) := DX5_findAll _ _ _ rfl
theorem dX5_findAll_45 : decode cX5_findAll 45 = .ok (.invokestatic 36, 3) := DX5_findAll _ _ _ rfl
theorem dX5_findAll_48 : decode cX5_findAll 48 = .ok (.ifCond .eq 26, 3) := DX5_findAll _ _ _ rfl
theorem dX5_findAll_74 : decode cX5_findAll 74 = .ok (.iinc 6 1, 3) := DX5_findAll _ _ _ rfl
theorem dX5_findAll_77 : decode cX5_findAll 77 = .ok (.goto (-45), 3) := DX5_findAll _ _ _ rfl
theorem dX5_findAll_51 : decode cX5_findAll 51 = .ok (.aload_n 0, 1) := DX5_findAll _ _ _ rfl
theorem dX5_findAll_52 : decode cX5_findAll 52 = .ok (.iload_n 1, 1) := DX5_findAll _ _ _ rfl
theorem dX5_findAll_53 : decode cX5_findAll 53 = .ok (.iconst 1, 1) := DX5_findAll _ _ _ rfl
theorem dX5_findAll_54 : decode cX5_findAll 54 = .ok (.iadd, 1) := DX5_findAll _ _ _ rfl
theorem dX5_findAll_55 : decode cX5_findAll 55 = .ok (.iload_n 2, 1) := DX5_findAll _ _ _ rfl
theorem dX5_findAll_56 : decode cX5_findAll 56 = .ok (.iconst 1, 1) := DX5_findAll _ _ _ rfl
theorem dX5_findAll_57 : decode cX5_findAll 57 = .ok (.iload 6, 2) := DX5_findAll _ _ _ rfl
theorem dX5_findAll_59 : decode cX5_findAll 59 = .ok (.ishl, 1) := DX5_findAll _ _ _ rfl
theorem dX5_findAll_60 : decode cX5_findAll 60 = .ok (.ior, 1) := DX5_findAll _ _ _ rfl
theorem dX5_findAll_61 : decode cX5_findAll 61 = .ok (.iload_n 3, 1) := DX5_findAll _ _ _ rfl
theorem dX5_findAll_62 : decode cX5_findAll 62 = .ok (.iload 4, 2) := DX5_findAll _ _ _ rfl
theorem dX5_findAll_64 : decode cX5_findAll 64 = .ok (.iload 6, 2) := DX5_findAll _ _ _ rfl
theorem dX5_findAll_66 : decode cX5_findAll 66 = .ok (.iload_n 1, 1) := DX5_findAll _ _ _ rfl
theorem dX5_findAll_67 : decode cX5_findAll 67 = .ok (.iconst 3, 1) := DX5_findAll _ _ _ rfl
theorem dX5_findAll_68 : decode cX5_findAll 68 = .ok (.imul, 1) := DX5_findAll _ _ _ rfl
theorem dX5_findAll_69 : decode cX5_findAll 69 = .ok (.ishl, 1) := DX5_findAll _ _ _ rfl
theorem dX5_findAll_70 : decode cX5_findAll 70 = .ok (.ior, 1) := DX5_findAll _ _ _ rfl
theorem dX5_findAll_71 : decode cX5_findAll 71 = .ok (.invokevirtual 40, 3) := DX5_findAll _ _ _ rfl
theorem dX5_findAll_8 : decode cX5_findAll 8 = .ok (.aload_n 0, 1) := DX5_findAll _ _ _ rfl
theorem dX5_findAll_9 : decode cX5_findAll 9 = .ok (.iload_n 2, 1) := DX5_findAll _ _ _ rfl
theorem dX5_findAll_10 : decode cX5_findAll 10 = .ok (.iload_n 3, 1) := DX5_findAll _ _ _ rfl
theorem dX5_findAll_11 : decode cX5_findAll 11 = .ok (.iload 4, 2) := DX5_findAll _ _ _ rfl
theorem dX5_findAll_13 : decode cX5_findAll 13 = .ok (.invokevirtual 32, 3) := DX5_findAll _ _ _ rfl
theorem dX5_findAll_16 : decode cX5_findAll 16 = .ok (.return_, 1) := DX5_findAll _ _ _ rfl
/-! sets of seven, by their bits -/
def s7 (x : Int32) : Prop := ∀ i : Nat, 7 ≤ i → i < 32 → bt x i = false
theorem b_127 : ∀ i, i < 7 → bt (nI (2 ^ 7 - 1)) i = true := by decide +kernel
theorem b_127f : ∀ i, i < 32 → 7 ≤ i → bt (127 : Int32) i = false := by decide +kernel
theorem b_127t : ∀ i, i < 7 → bt (127 : Int32) i = true := by decide +kernel
theorem s7_num {x : Int32} (h : s7 x) : x = nI (tN x) ∧ tN x < 128 := by
  have e1 : x = nI x.toBitVec.toNat := Int32.toBitVec_inj.1 (by
    show x.toBitVec = BitVec.ofNat 32 x.toBitVec.toNat
    exact BitVec.eq_of_toNat_eq (by rw [BitVec.toNat_ofNat, Nat.mod_eq_of_lt x.toBitVec.isLt]))
  have e2 : x &&& nI (2 ^ 7 - 1) = x := b_ext fun i hi => by
    rw [b_and]
    by_cases q : i < 7
    · rw [b_127 i q, Bool.and_true]
    · rw [h i (by omega) hi, Bool.false_and]
  have e : x = nI (x.toBitVec.toNat % 2 ^ 7) := by
    have e3 := fa_mask x.toBitVec.toNat 7
    rw [← e1, e2] at e3
    exact e3
  have hl : x.toBitVec.toNat % 2 ^ 7 < 128 := Nat.mod_lt _ (by decide)
  obtain ⟨q1, q2⟩ := tN_of (k := x.toBitVec.toNat % 2 ^ 7) (by omega) e
  exact ⟨q1, by rw [q2]; exact hl⟩
theorem s7_al {x y : Int32} (h : s7 x) : s7 (x &&& y) := fun i a b => by rw [b_and, h i a b, Bool.false_and]
theorem s7_ar {x y : Int32} (h : s7 y) : s7 (x &&& y) := fun i a b => by rw [b_and, h i a b, Bool.and_false]
theorem s7_or {x y : Int32} (h : s7 x) (k : s7 y) : s7 (x ||| y) := fun i a b => by rw [b_or, h i a b, k i a b]; rfl
theorem s7_b1 {b : Nat} (hb : b < 7) : s7 ((1 : Int32) <<< (nI b &&& 31)) := fun i a c => by rw [b_sh1 (by omega) c]; exact decide_eq_false (by omega)
theorem s7_0 : s7 0 := fun i _ _ => b_0 i
theorem s7_127 {x : Int32} : s7 (x &&& 127) := s7_ar fun i a b => b_127f i b a
/-! how many are so -/
theorem ctB_put {f g : Nat → Bool} {s : Nat} (hf : f s = false) (hg : g s = true) (h : ∀ x : Nat, ¬ x = s → g x = f x) : ∀ m : Nat, s < m → ctB g m = ctB f m + 1
  | 0, q => absurd q (Nat.not_lt_zero _)
  | m + 1, q => by
    show ctB g m + (if g m = true then 1 else 0) = ctB f m + (if f m = true then 1 else 0) + 1
    by_cases e : s = m
    · subst e
      rw [if_pos hg, if_neg (by rw [hf]; decide), ctB_cong (f := g) (g := f) fun x hx => h x (by omega)]
    · rw [ctB_put hf hg h m (by omega), h m (fun z => e z.symm)]
      omega
theorem nI_up {x : Int32} (h : x = nI (tN x)) (hx : tN x < 2 ^ 30) : x + 1 = nI (tN x + 1) ∧ tN (x + 1) = tN x + 1 := by
  have e : x + 1 = nI (tN x + 1) := by
    have := nI_add (tN x) 1
    rw [← h] at this
    exact this
  exact ⟨e, by rw [e, tN_nI (by omega)]⟩
/-! what the list of sets and their marks say of each other -/
def RI (S M : Nat → Int32) (n : Int32) : Prop := n = nI (tN n) ∧ tN n ≤ 128 ∧ (∀ i : Nat, i < tN n → S i = nI (tN (S i)) ∧ tN (S i) < 128) ∧ (∀ i j : Nat, i < tN n → j < tN n → S i = S j → i = j) ∧ ∀ s : Nat, s < 128 → (¬ M s = 0 ↔ ∃ i : Nat, i < tN n ∧ S i = nI s)
theorem RI.le {S M : Nat → Int32} {n : Int32} (h : RI S M n) : tN n ≤ 128 := h.2.1
theorem RI.lt {S M : Nat → Int32} {n : Int32} {s : Nat} (h : RI S M n) (hs : s < 128) (q : M s = 0) : tN n < 128 := by
  by_cases e : tN n < 128
  · exact e
  · exfalso
    have e2 : tN n = 128 := by have := h.2.1; omega
    obtain ⟨i, hi, hx⟩ := fb_onto (n := 128) (f := fun i => tN (S i)) (fun i hi => (h.2.2.1 i (by omega)).2) (fun i j hij hj z => by
      have a := (h.2.2.1 i (by omega)).1
      have b := (h.2.2.1 j (by omega)).1
      have c := h.2.2.2.1 i j (by omega) (by omega) (by rw [a, b]; exact congrArg nI z)
      omega) hs
    exact (h.2.2.2.2 s hs).mpr ⟨i, by omega, by rw [(h.2.2.1 i (by omega)).1]; exact congrArg nI hx⟩ q
theorem RI.put {S M : Nat → Int32} {n : Int32} {s : Nat} (h : RI S M n) (hs : s < 128) (q : M s = 0) : RI (upd S (tN n) (nI s)) (upd M s 1) (n + 1) := by
  have hl := h.lt hs q
  have hnew : ∀ i : Nat, i < tN n → ¬ S i = nI s := fun i hi e => (h.2.2.2.2 s hs).mpr ⟨i, hi, e⟩ q
  obtain ⟨u1, u2⟩ := nI_up h.1 (by omega)
  refine ⟨by rw [u2]; exact u1, by rw [u2]; omega, fun i hi => ?_, fun i j hi hj e => ?_, fun t ht => ?_⟩
  · rw [u2] at hi
    by_cases e : i = tN n
    · subst e
      rw [upd_eq, tN_nI (by omega)]
      exact ⟨rfl, hs⟩
    · rw [upd_ne e]
      exact h.2.2.1 i (by omega)
  · rw [u2] at hi hj
    by_cases ei : i = tN n
    · by_cases ej : j = tN n
      · rw [ei, ej]
      · exfalso
        rw [ei, upd_eq, upd_ne ej] at e
        exact hnew j (by omega) e.symm
    · by_cases ej : j = tN n
      · exfalso
        rw [ej, upd_eq, upd_ne ei] at e
        exact hnew i (by omega) e
      · rw [upd_ne ei, upd_ne ej] at e
        exact h.2.2.2.1 i j (by omega) (by omega) e
  · rw [u2]
    by_cases e : t = s
    · subst e
      rw [upd_eq]
      exact ⟨fun _ => ⟨tN n, by omega, upd_eq⟩, fun _ => by decide⟩
    · rw [upd_ne e, h.2.2.2.2 t ht]
      constructor
      · rintro ⟨i, hi, e1⟩
        exact ⟨i, by omega, by rw [upd_ne (by omega)]; exact e1⟩
      · rintro ⟨i, hi, e1⟩
        by_cases ei : i = tN n
        · exfalso
          rw [ei, upd_eq] at e1
          exact e ((nI_eq (by omega) (by omega)).mp e1).symm
        · rw [upd_ne ei] at e1
          exact ⟨i, by omega, e1⟩
def F_X5_calledIn (x : Int32) (y : Int32) : Int32 := (x >>> ((y * (3 : Int32)) &&& 31)) &&& (7 : Int32)
set_option maxHeartbeats 4000000 in
set_option maxRecDepth 100000 in
theorem K_X5_calledIn (l : Launch) (g : GG) (x : Int32) (y : Int32)  : MetI l g yX5_calledIn cX5_calledIn 2 (some .int) 0 0 0 [.int x, .int y] [] (fun r u => r = (F_X5_calledIn x y) ∧ u = []) := by
  refine MetI.of (own := RX5) rfl (by decide) (Nat.le_of_ble_eq_true rfl) ?_
  intro p e s m below meth c A ls args Q hQ X hr hin hW hl
  have hx := X.1
  have hb := X.2.1
  have hl : lv_has ls 2 [(0, .int x), (1, .int y)] := hl
  refine lv_iload_n (pc := 0) hx hb dX5_calledIn_0 rfl (lv_at hl 0 rfl) ?_
  refine lv_iload_n (pc := 1) hx hb dX5_calledIn_1 rfl (lv_at hl 1 rfl) ?_
  refine lv_iconst (v := 3) (pc := 2) hx hb dX5_calledIn_2 (by decide) ?_
  refine lv_imul (pc := 3) hx hb dX5_calledIn_3 ?_
  refine lv_ishr (pc := 4) hx hb dX5_calledIn_4 ?_
  refine lv_bipush (v := 7) (pc := 5) hx hb dX5_calledIn_5 (by decide) ?_
  refine lv_iand (pc := 7) hx hb dX5_calledIn_7 ?_
  have hF : F_X5_calledIn x y = (x >>> ((y * (3 : Int32)) &&& 31)) &&& (7 : Int32) := show F_X5_calledIn x y = (x >>> ((y * (3 : Int32)) &&& 31)) &&& (7 : Int32) from rfl
  exact e_i (u := []) X hQ hr (hW) [] rfl rfl (⟨hF.symm, rfl⟩) ⟨Nat.le_of_ble_eq_true rfl, Nat.le_of_ble_eq_true rfl⟩ dX5_calledIn_8

def F_X5_append (fC : Nat → Int32) (rp : Nat) (y : Int32) : (Nat → Int32) := (upd fC rp y)
set_option maxHeartbeats 4000000 in
set_option maxRecDepth 100000 in
theorem K_X5_append (l : Launch) (g : GG) (zr : Nat) (qs : Nat) (qo : Nat) (qm : Nat) (qh : Nat) (fS : Nat → Int32) (fO : Nat → Int32) (fM : Nat → Int32) (fC : Nat → Int32) (rc : Int32) (rp : Nat) (y : Int32) (hrp : rp < 7) : MetV l g yX5_append cX5_append 2 none 0 0 0 [.ref zr, .int y] [(zr, .inr (5, [.ref qs, .ref qo, .ref qm, .int rc, .ref qh, .int (nI rp)])), (qs, .inl (g.2.1 1, 128, .inl fS)), (qo, .inl (g.2.1 1, 128, .inl fO)), (qm, .inl (g.2.1 3, 128, .inl fM)), (qh, .inl (g.2.1 1, 7, .inl fC))] (fun u => u = [(zr, .inr (5, [.ref qs, .ref qo, .ref qm, .int rc, .ref qh, .int (nI (rp + 1))])), (qs, .inl (g.2.1 1, 128, .inl fS)), (qo, .inl (g.2.1 1, 128, .inl fO)), (qm, .inl (g.2.1 3, 128, .inl fM)), (qh, .inl (g.2.1 1, 7, .inl (F_X5_append fC rp y)))]) := by
  refine MetV.of (own := RX5) rfl (by decide) (Nat.le_of_ble_eq_true rfl) ?_
  intro p e s m below meth c A ls args Q hQ X hr hin hW hl
  have hx := X.1
  have hb := X.2.1
  have hl : lv_has ls 2 [(0, .ref zr), (1, .int y)] := hl
  refine lv_aload_n (pc := 0) hx hb dX5_append_0 rfl (lv_at hl 0 rfl) ?_
  refine r_get X hW 0 ciX5 5 rfl (by decide) m_95 rfl rfl dX5_append_1 ?_
  refine lv_bipush (v := 7) (pc := 4) hx hb dX5_append_4 (by decide) ?_
  refine lv_icmp_ge (tgt := 29) (pc := 6) hx hb dX5_append_6 rfl (fun c1 => absurd c1 (fun q => absurd ((nI_leI (a := 7) (b := rp) (by omega) (by omega)).mp q) (by omega))) (fun c1 => ?_)
  refine lv_aload_n (pc := 9) hx hb dX5_append_9 rfl (lv_at hl 0 rfl) ?_
  refine r_get X hW 0 ciX5 4 rfl (by decide) m_94 rfl rfl dX5_append_10 ?_
  refine lv_aload_n (pc := 13) hx hb dX5_append_13 rfl (lv_at hl 0 rfl) ?_
  refine r_get X hW 0 ciX5 5 rfl (by decide) m_95 rfl rfl dX5_append_14 ?_
  refine lv_iload_n (pc := 17) hx hb dX5_append_17 rfl (lv_at hl 1 rfl) ?_
  refine r_iast (ws' := [(zr, .inr (5, [.ref qs, .ref qo, .ref qm, .int rc, .ref qh, .int (nI rp)])), (qs, .inl (g.2.1 1, 128, .inl fS)), (qo, .inl (g.2.1 1, 128, .inl fO)), (qm, .inl (g.2.1 3, 128, .inl fM)), (qh, .inl (g.2.1 1, 7, .inl (upd fC rp y)))]) X hW 4 rfl (vp_in_nI (by omega) (by decide)) (f' := (upd fC rp y)) (by rw [nI_clamp (by omega)]) rfl dX5_append_18 (fun H locs hW => ?_)
  refine lv_aload_n (pc := 19) hx hb dX5_append_19 rfl (lv_at hl 0 rfl) ?_
  refine lv_dup (pc := 20) hx hb dX5_append_20 rfl ?_
  refine r_get X hW 0 ciX5 5 rfl (by decide) m_95 rfl rfl dX5_append_21 ?_
  refine lv_iconst (v := 1) (pc := 24) hx hb dX5_append_24 (by decide) ?_
  refine lv_iadd (pc := 25) hx hb dX5_append_25 ?_
  refine lv_topi (fun v2 ev2 => ?_)
  obtain rfl : v2 = nI (rp + 1) := ev2.trans (nI_add rp 1)
  refine r_put (ws' := [(zr, .inr (5, [.ref qs, .ref qo, .ref qm, .int rc, .ref qh, .int (nI (rp + 1))])), (qs, .inl (g.2.1 1, 128, .inl fS)), (qo, .inl (g.2.1 1, 128, .inl fO)), (qm, .inl (g.2.1 3, 128, .inl fM)), (qh, .inl (g.2.1 1, 7, .inl (upd fC rp y)))]) X hW 0 ciX5 5 rfl (by decide) m_95 rfl rfl rfl rfl (Nat.le_of_ble_eq_true rfl) rfl dX5_append_26 (fun H locs hW => ?_)
  have hF : F_X5_append fC rp y = (upd fC rp y) := show F_X5_append fC rp y = (upd fC rp y) from rfl
  exact e_v (u := [(zr, .inr (5, [.ref qs, .ref qo, .ref qm, .int rc, .ref qh, .int (nI (rp + 1))])), (qs, .inl (g.2.1 1, 128, .inl fS)), (qo, .inl (g.2.1 1, 128, .inl fO)), (qm, .inl (g.2.1 3, 128, .inl fM)), (qh, .inl (g.2.1 1, 7, .inl (upd fC rp y)))]) X hQ hr (hW) [0, 1, 2, 3, 4] rfl rfl (by rw [hF]) ⟨Nat.le_of_ble_eq_true rfl, Nat.le_of_ble_eq_true rfl⟩ dX5_append_29

def L1_X5_forgets (fS : Nat → Int32) (j1 : Nat) (fqm_1 : Nat → Int32) : (Nat → Int32) := (upd fqm_1 (tN (fS j1)) (0 : Int32))
def L1_X5_forget (fS : Nat → Int32) (i0_ : Nat → Int32) : Nat → (Nat → Int32)
  | 0 => (i0_)
  | k_ + 1 => L1_X5_forgets fS k_ (L1_X5_forget fS i0_ k_)
def F_X5_forget (fS : Nat → Int32) (fM : Nat → Int32) (rc : Int32) : (Nat → Int32) := (L1_X5_forget fS fM (tN rc))
set_option maxHeartbeats 4000000 in
set_option maxRecDepth 100000 in
theorem K_X5_forget (l : Launch) (g : GG) (zr : Nat) (qs : Nat) (qo : Nat) (qm : Nat) (qh : Nat) (fS : Nat → Int32) (fO : Nat → Int32) (fM : Nat → Int32) (fC : Nat → Int32) (rc : Int32) (rp : Int32) (hRI : RI fS fM rc) : MetV l g yX5_forget cX5_forget 2 none 0 0 0 [.ref zr] [(zr, .inr (5, [.ref qs, .ref qo, .ref qm, .int rc, .ref qh, .int rp])), (qs, .inl (g.2.1 1, 128, .inl fS)), (qo, .inl (g.2.1 1, 128, .inl fO)), (qm, .inl (g.2.1 3, 128, .inl fM)), (qh, .inl (g.2.1 1, 7, .inl fC))] (fun u => u = [(zr, .inr (5, [.ref qs, .ref qo, .ref qm, .int 0, .ref qh, .int 0])), (qs, .inl (g.2.1 1, 128, .inl fS)), (qo, .inl (g.2.1 1, 128, .inl fO)), (qm, .inl (g.2.1 3, 128, .inl (F_X5_forget fS fM rc))), (qh, .inl (g.2.1 1, 7, .inl fC))]) := by
  refine MetV.of (own := RX5) rfl (by decide) (Nat.le_of_ble_eq_true rfl) ?_
  intro p e s m below meth c A ls args Q hQ X hr hin hW hl
  have hx := X.1
  have hb := X.2.1
  have hl : lv_has ls 2 [(0, .ref zr)] := hl
  have hle := hRI.le
  refine lv_iconst (v := 0) (pc := 0) hx hb dX5_forget_0 (by decide) ?_
  refine lv_istore_n (lv' := [(1, .int 0), (0, .ref zr)]) (pc := 1) hx hb dX5_forget_1 rfl hl (by decide) rfl (fun ls hl => ?_)
  have loop1 : ∀ (fu1 : Nat) (j1 : Nat) (fqm_1 : Nat → Int32), ((tN rc) < fu1 + j1) → (j1 ≤ (tN rc)) → (fqm_1 = L1_X5_forget fS fM j1) → ∀ (H : Heap) (locs : List Loc) (ls : Array Slot), WD g A s H locs [(zr, .inr (5, [.ref qs, .ref qo, .ref qm, .int rc, .ref qh, .int rp])), (qs, .inl (g.2.1 1, 128, .inl fS)), (qo, .inl (g.2.1 1, 128, .inl fO)), (qm, .inl (g.2.1 3, 128, .inl fqm_1)), (qh, .inl (g.2.1 1, 7, .inl fC))] → lv_has ls 2 [(1, .int (nI j1)), (0, .ref zr)] → W p l e (RM 0 0 0) s m args below meth c H locs 0 0 Q (F0 m 2 ls []) := by
    intro fu1
    induction fu1 with
    | zero =>
      intro j1 fqm_1 hm1 hj1 hst1
      exact absurd hm1 (by omega)
    | succ fu1 ih1 =>
      intro j1 fqm_1 hm1 hj1 hst1 H locs ls hW hl
      refine lv_iload_n (pc := 2) hx hb dX5_forget_2 rfl (lv_at hl 0 rfl) ?_
      refine lv_aload_n (pc := 3) hx hb dX5_forget_3 rfl (lv_at hl 1 rfl) ?_
      refine r_get X hW 0 ciX5 3 rfl (by decide) m_92 rfl rfl dX5_forget_4 ?_
      rw [hRI.1]
      refine lv_icmp_ge (tgt := 28) (pc := 7) hx hb dX5_forget_7 rfl (fun c1 => ?_) (fun c1 => ?_)
      · have h2 : (tN rc) ≤ j1 := (nI_leI (a := (tN rc)) (b := j1) (by omega) (by omega)).mp c1
        have hN1 : j1 = (tN rc) := by omega
        rw [hN1] at hst1
        subst hst1
        have hW : WD g A s _ _ [(zr, .inr (5, [.ref qs, .ref qo, .ref qm, .int rc, .ref qh, .int rp])), (qs, .inl (g.2.1 1, 128, .inl fS)), (qo, .inl (g.2.1 1, 128, .inl fO)), (qm, .inl (g.2.1 3, 128, .inl (L1_X5_forget fS fM (tN rc)))), (qh, .inl (g.2.1 1, 7, .inl fC))] := hW
        refine lv_aload_n (pc := 28) hx hb dX5_forget_28 rfl (lv_at hl 1 rfl) ?_
        refine lv_iconst (v := 0) (pc := 29) hx hb dX5_forget_29 (by decide) ?_
        refine r_put (ws' := [(zr, .inr (5, [.ref qs, .ref qo, .ref qm, .int 0, .ref qh, .int rp])), (qs, .inl (g.2.1 1, 128, .inl fS)), (qo, .inl (g.2.1 1, 128, .inl fO)), (qm, .inl (g.2.1 3, 128, .inl (L1_X5_forget fS fM (tN rc)))), (qh, .inl (g.2.1 1, 7, .inl fC))]) X hW 0 ciX5 3 rfl (by decide) m_92 rfl rfl rfl rfl (Nat.le_of_ble_eq_true rfl) rfl dX5_forget_30 (fun H locs hW => ?_)
        refine lv_aload_n (pc := 33) hx hb dX5_forget_33 rfl (lv_at hl 1 rfl) ?_
        refine lv_iconst (v := 0) (pc := 34) hx hb dX5_forget_34 (by decide) ?_
        refine r_put (ws' := [(zr, .inr (5, [.ref qs, .ref qo, .ref qm, .int 0, .ref qh, .int 0])), (qs, .inl (g.2.1 1, 128, .inl fS)), (qo, .inl (g.2.1 1, 128, .inl fO)), (qm, .inl (g.2.1 3, 128, .inl (L1_X5_forget fS fM (tN rc)))), (qh, .inl (g.2.1 1, 7, .inl fC))]) X hW 0 ciX5 5 rfl (by decide) m_95 rfl rfl rfl rfl (Nat.le_of_ble_eq_true rfl) rfl dX5_forget_35 (fun H locs hW => ?_)
        have hF : F_X5_forget fS fM rc = (L1_X5_forget fS fM (tN rc)) := show F_X5_forget fS fM rc = (L1_X5_forget fS fM (tN rc)) from rfl
        exact e_v (u := [(zr, .inr (5, [.ref qs, .ref qo, .ref qm, .int 0, .ref qh, .int 0])), (qs, .inl (g.2.1 1, 128, .inl fS)), (qo, .inl (g.2.1 1, 128, .inl fO)), (qm, .inl (g.2.1 3, 128, .inl (L1_X5_forget fS fM (tN rc)))), (qh, .inl (g.2.1 1, 7, .inl fC))]) X hQ hr (hW) [0, 1, 2, 3, 4] rfl rfl (by rw [hF]) ⟨Nat.le_of_ble_eq_true rfl, Nat.le_of_ble_eq_true rfl⟩ dX5_forget_38
      · have h3 : ¬ ((tN rc) ≤ j1) := fun q => c1 ((nI_leI (a := (tN rc)) (b := j1) (by omega) (by omega)).mpr q)
        refine lv_aload_n (pc := 10) hx hb dX5_forget_10 rfl (lv_at hl 1 rfl) ?_
        refine r_get X hW 0 ciX5 2 rfl (by decide) m_91 rfl rfl dX5_forget_11 ?_
        refine lv_aload_n (pc := 14) hx hb dX5_forget_14 rfl (lv_at hl 1 rfl) ?_
        refine r_get X hW 0 ciX5 0 rfl (by decide) m_87 rfl rfl dX5_forget_15 ?_
        refine lv_iload_n (pc := 18) hx hb dX5_forget_18 rfl (lv_at hl 0 rfl) ?_
        refine r_iald X hW 1 rfl (vp_in_nI (by omega) (by decide)) dX5_forget_19 ?_
        refine lv_topi (fun v4 ev4 => ?_)
        obtain rfl : v4 = fS j1 := ev4.trans (by rw [nI_clamp (by omega)])
        obtain ⟨e20, l20⟩ := hRI.2.2.1 j1 (by omega)
        rw [e20]
        refine lv_iconst (v := 0) (pc := 20) hx hb dX5_forget_20 (by decide) ?_
        refine r_zast (ws' := [(zr, .inr (5, [.ref qs, .ref qo, .ref qm, .int rc, .ref qh, .int rp])), (qs, .inl (g.2.1 1, 128, .inl fS)), (qo, .inl (g.2.1 1, 128, .inl fO)), (qm, .inl (g.2.1 3, 128, .inl (upd fqm_1 (tN (fS j1)) (0 : Int32)))), (qh, .inl (g.2.1 1, 7, .inl fC))]) X hW 3 rfl (vp_in_nI (by omega) (by decide)) (f' := (upd fqm_1 (tN (fS j1)) (0 : Int32))) (by rw [nI_clamp (by omega), show vp_nar .boolean (0 : Int32) = (0 : Int32) from by decide]) rfl dX5_forget_21 (fun H locs hW => ?_)
        refine lv_iinc (v := nI (j1 + 1)) (lv' := [(1, .int (nI (j1 + 1))), (0, .ref zr)]) (pc := 22) hx hb dX5_forget_22 hl (k := 0) rfl (nI_add j1 1) (by decide) rfl (fun ls hl => ?_)
        refine lv_goto (tgt := 2) (pc := 25) hx hb dX5_forget_25 rfl ?_
        exact ih1 (j1 + 1) (upd fqm_1 (tN (fS j1)) (0 : Int32)) (by omega) (by omega) (by rw [L1_X5_forget, ← hst1]; exact (show L1_X5_forgets fS j1 fqm_1 = (upd fqm_1 (tN (fS j1)) (0 : Int32)) from rfl).symm) _ _ _ hW (lv_sub hl [0, 1] rfl)
  exact loop1 ((tN rc) + 1) 0 fM (by omega) (by omega) rfl _ _ _ hW (lv_sub hl [0, 1] rfl)

theorem fg_at {S M : Nat → Int32} : ∀ (k s : Nat), (∀ i : Nat, i < k → tN (S i) = s → L1_X5_forget S M k s = 0) ∧ ((∀ i : Nat, i < k → ¬ tN (S i) = s) → L1_X5_forget S M k s = M s)
  | 0, s => ⟨fun i hi => absurd hi (Nat.not_lt_zero _), fun _ => rfl⟩
  | k + 1, s => by
    obtain ⟨h1, h2⟩ := fg_at (S := S) (M := M) k s
    have e : L1_X5_forget S M (k + 1) = upd (L1_X5_forget S M k) (tN (S k)) 0 := rfl
    rw [e]
    refine ⟨fun i hi q => ?_, fun q => ?_⟩
    · by_cases z : tN (S k) = s
      · rw [z, upd_eq]
      · rw [upd_ne fun u => z u.symm]
        exact h1 i (by rcases Nat.lt_or_ge i k with u | u; exact u; exact absurd (by rw [show i = k by omega] at q; exact q) z) q
    · rw [upd_ne fun u => q k (by omega) u.symm]
      exact h2 fun i hi => q i (by omega)
theorem fg_0 {S M : Nat → Int32} {n : Int32} (h : RI S M n) {s : Nat} (hs : s < 128) : F_X5_forget S M n s = 0 := by
  show L1_X5_forget S M (tN n) s = 0
  by_cases q : M s = 0
  · by_cases z : ∃ i : Nat, i < tN n ∧ tN (S i) = s
    · obtain ⟨i, a, b⟩ := z
      exact (fg_at (tN n) s).1 i a b
    · rw [(fg_at (tN n) s).2 fun i a b => z ⟨i, a, b⟩]
      exact q
  · obtain ⟨i, a, b⟩ := (h.2.2.2.2 s hs).mp q
    exact (fg_at (tN n) s).1 i a (by rw [b, tN_nI (by omega)])
theorem RI_0 {S M : Nat → Int32} (h : ∀ s : Nat, s < 128 → M s = 0) : RI S M 0 := by
  have e : tN (0 : Int32) = 0 := by decide
  refine ⟨by decide, by rw [e]; omega, fun i hi => ?_, fun i j hi => ?_, fun s hs => ⟨fun q => absurd (h s hs) q, fun q => ?_⟩⟩
  · rw [e] at hi; exact absurd hi (Nat.not_lt_zero _)
  · rw [e] at hi; exact absurd hi (Nat.not_lt_zero _)
  · obtain ⟨i, hi, -⟩ := q
    rw [e] at hi; exact absurd hi (Nat.not_lt_zero _)
theorem RI_forget {S M : Nat → Int32} {n : Int32} (h : RI S M n) : RI S (F_X5_forget S M n) 0 := RI_0 fun _ hs => fg_0 h hs
def L1_X5_take (fS : Nat → Int32) (fO : Nat → Int32) (fM : Nat → Int32) (fC : Nat → Int32) (rc : Int32) (rp : Nat) (ca : Int32) (si : Int32) (rw_ : Int32) : Nat → Nat → (Nat → Int32) × (Nat → Int32) × (Nat → Int32) × Int32
  | 0, _ => (fun _ => 0, fun _ => 0, fun _ => 0, 0)
  | m_ + 1, j1 => if nI rp ≤ nI j1 then (if fM (tN ca) = 0 then (((upd fS (tN rc) ca), (upd fO (tN rc) rw_), (upd fM (tN ca) (1 : Int32)), nI (tN rc + 1))) else ((fS, fO, fM, rc))) else (if hasv si (nI j1) = 0 then (L1_X5_take fS fO fM fC rc rp ca si rw_ m_ (j1 + 1) ) else (if (fC j1) &&& (ca ^^^ (-1 : Int32)) = 0 then (L1_X5_take fS fO fM fC rc rp ca si rw_ m_ (j1 + 1) ) else ((fS, fO, fM, rc))))
def F_X5_take (fS : Nat → Int32) (fO : Nat → Int32) (fM : Nat → Int32) (fC : Nat → Int32) (rc : Int32) (rp : Nat) (ca : Int32) (si : Int32) (rw_ : Int32) : (Nat → Int32) × (Nat → Int32) × (Nat → Int32) × Int32 := L1_X5_take fS fO fM fC rc rp ca si rw_ (rp + 1) 0 
set_option maxHeartbeats 4000000 in
set_option maxRecDepth 100000 in
theorem K_X5_take (l : Launch) (g : GG) (zr : Nat) (qs : Nat) (qo : Nat) (qm : Nat) (qh : Nat) (fS : Nat → Int32) (fO : Nat → Int32) (fM : Nat → Int32) (fC : Nat → Int32) (rc : Int32) (rp : Nat) (ca : Int32) (si : Int32) (rw_ : Int32) (hrp : rp ≤ 7) (hca : s7 ca) (hRI : RI fS fM rc) : MetV l g yX5_take cX5_take 5 none 1 0 0 [.ref zr, .int ca, .int si, .int rw_] [(zr, .inr (5, [.ref qs, .ref qo, .ref qm, .int rc, .ref qh, .int (nI rp)])), (qs, .inl (g.2.1 1, 128, .inl fS)), (qo, .inl (g.2.1 1, 128, .inl fO)), (qm, .inl (g.2.1 3, 128, .inl fM)), (qh, .inl (g.2.1 1, 7, .inl fC))] (fun u => u = [(zr, .inr (5, [.ref qs, .ref qo, .ref qm, .int ((F_X5_take fS fO fM fC rc rp ca si rw_).2.2.2), .ref qh, .int (nI rp)])), (qs, .inl (g.2.1 1, 128, .inl ((F_X5_take fS fO fM fC rc rp ca si rw_).1))), (qo, .inl (g.2.1 1, 128, .inl ((F_X5_take fS fO fM fC rc rp ca si rw_).2.1))), (qm, .inl (g.2.1 3, 128, .inl ((F_X5_take fS fO fM fC rc rp ca si rw_).2.2.1))), (qh, .inl (g.2.1 1, 7, .inl fC))]) := by
  refine MetV.of (own := RX5) rfl (by decide) (Nat.le_of_ble_eq_true rfl) ?_
  intro p e s m below meth c A ls args Q hQ X hr hin hW hl
  have hx := X.1
  have hb := X.2.1
  have hl : lv_has ls 5 [(0, .ref zr), (1, .int ca), (2, .int si), (3, .int rw_)] := hl
  have hle := hRI.le
  have hcn := s7_num hca
  have hcn2 := hcn.2
  refine lv_iconst (v := 0) (pc := 0) hx hb dX5_take_0 (by decide) ?_
  refine lv_istore (lv' := [(4, .int 0), (0, .ref zr), (1, .int ca), (2, .int si), (3, .int rw_)]) (pc := 1) hx hb dX5_take_1 hl (by decide) rfl (fun ls hl => ?_)
  have loop1 : ∀ (fu1 : Nat) (j1 : Nat), (rp < fu1 + j1) → (j1 ≤ rp) → (L1_X5_take fS fO fM fC rc rp ca si rw_ fu1 j1 = F_X5_take fS fO fM fC rc rp ca si rw_) → ∀ (H : Heap) (locs : List Loc) (ls : Array Slot), WD g A s H locs [(zr, .inr (5, [.ref qs, .ref qo, .ref qm, .int rc, .ref qh, .int (nI rp)])), (qs, .inl (g.2.1 1, 128, .inl fS)), (qo, .inl (g.2.1 1, 128, .inl fO)), (qm, .inl (g.2.1 3, 128, .inl fM)), (qh, .inl (g.2.1 1, 7, .inl fC))] → lv_has ls 5 [(4, .int (nI j1)), (0, .ref zr), (1, .int ca), (2, .int si), (3, .int rw_)] → W p l e (RM 1 0 0) s m args below meth c H locs 0 0 Q (F0 m 3 ls []) := by
    intro fu1
    induction fu1 with
    | zero =>
      intro j1 hm1 hj1 hst1
      exact absurd hm1 (by omega)
    | succ fu1 ih1 =>
      intro j1 hm1 hj1 hst1 H locs ls hW hl
      refine lv_iload (pc := 3) hx hb dX5_take_3 (lv_at hl 0 rfl) ?_
      refine lv_aload_n (pc := 5) hx hb dX5_take_5 rfl (lv_at hl 1 rfl) ?_
      refine r_get X hW 0 ciX5 5 rfl (by decide) m_95 rfl rfl dX5_take_6 ?_
      refine lv_icmp_ge (tgt := 42) (pc := 9) hx hb dX5_take_9 rfl (fun c1 => ?_) (fun c1 => ?_)
      · have h2 : rp ≤ j1 := (nI_leI (a := rp) (b := j1) (by omega) (by omega)).mp c1
        refine lv_aload_n (pc := 42) hx hb dX5_take_42 rfl (lv_at hl 1 rfl) ?_
        refine r_get X hW 0 ciX5 2 rfl (by decide) m_91 rfl rfl dX5_take_43 ?_
        refine lv_iload_n (pc := 46) hx hb dX5_take_46 rfl (lv_at hl 2 rfl) ?_
        rw [hcn.1]
        refine r_zald X hW 3 rfl (vp_in_nI (by omega) (by decide)) dX5_take_47 ?_
        refine lv_topi (fun v3 ev3 => ?_)
        obtain rfl : v3 = fM (tN ca) := ev3.trans (by rw [nI_clamp (by omega)])
        refine lv_if_ne (tgt := 88) (pc := 48) hx hb dX5_take_48 rfl (fun c4 => ?_) (fun c4 => ?_)
        · have hF : F_X5_take fS fO fM fC rc rp ca si rw_ = (fS, fO, fM, rc) := hst1.symm.trans (show L1_X5_take fS fO fM fC rc rp ca si rw_ (fu1 + 1) j1 = (fS, fO, fM, rc) from by rw [L1_X5_take, if_pos c1, if_neg c4])
          exact e_v (u := [(zr, .inr (5, [.ref qs, .ref qo, .ref qm, .int rc, .ref qh, .int (nI rp)])), (qs, .inl (g.2.1 1, 128, .inl fS)), (qo, .inl (g.2.1 1, 128, .inl fO)), (qm, .inl (g.2.1 3, 128, .inl fM)), (qh, .inl (g.2.1 1, 7, .inl fC))]) X hQ hr (hW) [0, 1, 2, 3, 4] rfl rfl (by rw [hF]) ⟨Nat.le_of_ble_eq_true rfl, Nat.le_of_ble_eq_true rfl⟩ dX5_take_88
        · have hlt := hRI.lt (s := tN ca) (by omega) c4
          refine lv_aload_n (pc := 51) hx hb dX5_take_51 rfl (lv_at hl 1 rfl) ?_
          refine r_get X hW 0 ciX5 2 rfl (by decide) m_91 rfl rfl dX5_take_52 ?_
          refine lv_iload_n (pc := 55) hx hb dX5_take_55 rfl (lv_at hl 2 rfl) ?_
          rw [hcn.1]
          refine lv_iconst (v := 1) (pc := 56) hx hb dX5_take_56 (by decide) ?_
          refine r_zast (ws' := [(zr, .inr (5, [.ref qs, .ref qo, .ref qm, .int rc, .ref qh, .int (nI rp)])), (qs, .inl (g.2.1 1, 128, .inl fS)), (qo, .inl (g.2.1 1, 128, .inl fO)), (qm, .inl (g.2.1 3, 128, .inl (upd fM (tN ca) (1 : Int32)))), (qh, .inl (g.2.1 1, 7, .inl fC))]) X hW 3 rfl (vp_in_nI (by omega) (by decide)) (f' := (upd fM (tN ca) (1 : Int32))) (by rw [nI_clamp (by omega), show vp_nar .boolean (1 : Int32) = (1 : Int32) from by decide]) rfl dX5_take_57 (fun H locs hW => ?_)
          refine lv_aload_n (pc := 58) hx hb dX5_take_58 rfl (lv_at hl 1 rfl) ?_
          refine r_get X hW 0 ciX5 0 rfl (by decide) m_87 rfl rfl dX5_take_59 ?_
          refine lv_aload_n (pc := 62) hx hb dX5_take_62 rfl (lv_at hl 1 rfl) ?_
          refine r_get X hW 0 ciX5 3 rfl (by decide) m_92 rfl rfl dX5_take_63 ?_
          rw [hRI.1]
          refine lv_iload_n (pc := 66) hx hb dX5_take_66 rfl (lv_at hl 2 rfl) ?_
          refine r_iast (ws' := [(zr, .inr (5, [.ref qs, .ref qo, .ref qm, .int rc, .ref qh, .int (nI rp)])), (qs, .inl (g.2.1 1, 128, .inl (upd fS (tN rc) ca))), (qo, .inl (g.2.1 1, 128, .inl fO)), (qm, .inl (g.2.1 3, 128, .inl (upd fM (tN ca) (1 : Int32)))), (qh, .inl (g.2.1 1, 7, .inl fC))]) X hW 1 rfl (vp_in_nI (by omega) (by decide)) (f' := (upd fS (tN rc) ca)) (by rw [nI_clamp (by omega)]) rfl dX5_take_67 (fun H locs hW => ?_)
          refine lv_aload_n (pc := 68) hx hb dX5_take_68 rfl (lv_at hl 1 rfl) ?_
          refine r_get X hW 0 ciX5 1 rfl (by decide) m_89 rfl rfl dX5_take_69 ?_
          refine lv_aload_n (pc := 72) hx hb dX5_take_72 rfl (lv_at hl 1 rfl) ?_
          refine r_get X hW 0 ciX5 3 rfl (by decide) m_92 rfl rfl dX5_take_73 ?_
          rw [hRI.1]
          refine lv_iload_n (pc := 76) hx hb dX5_take_76 rfl (lv_at hl 4 rfl) ?_
          refine r_iast (ws' := [(zr, .inr (5, [.ref qs, .ref qo, .ref qm, .int rc, .ref qh, .int (nI rp)])), (qs, .inl (g.2.1 1, 128, .inl (upd fS (tN rc) ca))), (qo, .inl (g.2.1 1, 128, .inl (upd fO (tN rc) rw_))), (qm, .inl (g.2.1 3, 128, .inl (upd fM (tN ca) (1 : Int32)))), (qh, .inl (g.2.1 1, 7, .inl fC))]) X hW 2 rfl (vp_in_nI (by omega) (by decide)) (f' := (upd fO (tN rc) rw_)) (by rw [nI_clamp (by omega)]) rfl dX5_take_77 (fun H locs hW => ?_)
          refine lv_aload_n (pc := 78) hx hb dX5_take_78 rfl (lv_at hl 1 rfl) ?_
          refine lv_dup (pc := 79) hx hb dX5_take_79 rfl ?_
          refine r_get X hW 0 ciX5 3 rfl (by decide) m_92 rfl rfl dX5_take_80 ?_
          rw [hRI.1]
          refine lv_iconst (v := 1) (pc := 83) hx hb dX5_take_83 (by decide) ?_
          refine lv_iadd (pc := 84) hx hb dX5_take_84 ?_
          refine lv_topi (fun v7 ev7 => ?_)
          obtain rfl : v7 = nI (tN rc + 1) := ev7.trans (nI_add (tN rc) 1)
          refine r_put (ws' := [(zr, .inr (5, [.ref qs, .ref qo, .ref qm, .int (nI (tN rc + 1)), .ref qh, .int (nI rp)])), (qs, .inl (g.2.1 1, 128, .inl (upd fS (tN rc) ca))), (qo, .inl (g.2.1 1, 128, .inl (upd fO (tN rc) rw_))), (qm, .inl (g.2.1 3, 128, .inl (upd fM (tN ca) (1 : Int32)))), (qh, .inl (g.2.1 1, 7, .inl fC))]) X hW 0 ciX5 3 rfl (by decide) m_92 rfl rfl rfl rfl (Nat.le_of_ble_eq_true rfl) rfl dX5_take_85 (fun H locs hW => ?_)
          have hF : F_X5_take fS fO fM fC rc rp ca si rw_ = ((upd fS (tN rc) ca), (upd fO (tN rc) rw_), (upd fM (tN ca) (1 : Int32)), nI (tN rc + 1)) := hst1.symm.trans (show L1_X5_take fS fO fM fC rc rp ca si rw_ (fu1 + 1) j1 = ((upd fS (tN rc) ca), (upd fO (tN rc) rw_), (upd fM (tN ca) (1 : Int32)), nI (tN rc + 1)) from by rw [L1_X5_take, if_pos c1, if_pos c4])
          exact e_v (u := [(zr, .inr (5, [.ref qs, .ref qo, .ref qm, .int (nI (tN rc + 1)), .ref qh, .int (nI rp)])), (qs, .inl (g.2.1 1, 128, .inl (upd fS (tN rc) ca))), (qo, .inl (g.2.1 1, 128, .inl (upd fO (tN rc) rw_))), (qm, .inl (g.2.1 3, 128, .inl (upd fM (tN ca) (1 : Int32)))), (qh, .inl (g.2.1 1, 7, .inl fC))]) X hQ hr (hW) [0, 1, 2, 3, 4] rfl rfl (by rw [hF]) ⟨Nat.le_of_ble_eq_true rfl, Nat.le_of_ble_eq_true rfl⟩ dX5_take_88
      · have h8 : ¬ (rp ≤ j1) := fun q => c1 ((nI_leI (a := rp) (b := j1) (by omega) (by omega)).mpr q)
        refine lv_iload_n (pc := 12) hx hb dX5_take_12 rfl (lv_at hl 3 rfl) ?_
        refine lv_iload (pc := 13) hx hb dX5_take_13 (lv_at hl 0 rfl) ?_
        refine c_SNi (pc := 15) (As := [.int si, .int (nI j1)]) (rest := []) (wr := [(zr, .inr (5, [.ref qs, .ref qo, .ref qm, .int rc, .ref qh, .int (nI rp)])), (qs, .inl (g.2.1 1, 128, .inl fS)), (qo, .inl (g.2.1 1, 128, .inl fO)), (qm, .inl (g.2.1 3, 128, .inl fM)), (qh, .inl (g.2.1 1, 7, .inl fC))]) X hW (C_X11_has l g si (nI j1)) vX5_36 [] [0, 1, 2, 3, 4] rfl rfl rfl rfl rfl rfl hl.1 rfl (Nat.le_of_ble_eq_true rfl) ⟨Nat.le_of_ble_eq_true rfl, Nat.le_of_ble_eq_true rfl⟩ ⟨Nat.le_of_ble_eq_true rfl, Nat.le_of_ble_eq_true rfl⟩ dX5_take_15 (fun r9 u9 H locs hq hW => ?_)
        obtain ⟨rfl, rfl⟩ := hq
        have hW : WD g A s _ _ [(zr, .inr (5, [.ref qs, .ref qo, .ref qm, .int rc, .ref qh, .int (nI rp)])), (qs, .inl (g.2.1 1, 128, .inl fS)), (qo, .inl (g.2.1 1, 128, .inl fO)), (qm, .inl (g.2.1 3, 128, .inl fM)), (qh, .inl (g.2.1 1, 7, .inl fC))] := hW
        refine lv_if_eq (tgt := 36) (pc := 18) hx hb dX5_take_18 rfl (fun c10 => ?_) (fun c10 => ?_)
        · refine lv_iinc (v := nI (j1 + 1)) (lv' := [(4, .int (nI (j1 + 1))), (0, .ref zr), (1, .int ca), (2, .int si), (3, .int rw_)]) (pc := 36) hx hb dX5_take_36 hl (k := 0) rfl (nI_add j1 1) (by decide) rfl (fun ls hl => ?_)
          refine lv_goto (tgt := 3) (pc := 39) hx hb dX5_take_39 rfl ?_
          exact ih1 (j1 + 1)  (by omega) (by omega) ((show L1_X5_take fS fO fM fC rc rp ca si rw_ (fu1 + 1) j1 = L1_X5_take fS fO fM fC rc rp ca si rw_ fu1 (j1 + 1)  from by rw [L1_X5_take, if_neg c1, if_pos c10]).symm.trans hst1) _ _ _ hW (lv_sub hl [0, 1, 2, 3, 4] rfl)
        · refine lv_aload_n (pc := 21) hx hb dX5_take_21 rfl (lv_at hl 1 rfl) ?_
          refine r_get X hW 0 ciX5 4 rfl (by decide) m_94 rfl rfl dX5_take_22 ?_
          refine lv_iload (pc := 25) hx hb dX5_take_25 (lv_at hl 0 rfl) ?_
          refine r_iald X hW 4 rfl (vp_in_nI (by omega) (by decide)) dX5_take_27 ?_
          refine lv_topi (fun v13 ev13 => ?_)
          obtain rfl : v13 = fC j1 := ev13.trans (by rw [nI_clamp (by omega)])
          refine lv_iload_n (pc := 28) hx hb dX5_take_28 rfl (lv_at hl 2 rfl) ?_
          refine lv_iconst (v := (-1)) (pc := 29) hx hb dX5_take_29 (by decide) ?_
          refine lv_ixor (pc := 30) hx hb dX5_take_30 ?_
          refine lv_iand (pc := 31) hx hb dX5_take_31 ?_
          refine lv_if_eq (tgt := 36) (pc := 32) hx hb dX5_take_32 rfl (fun c14 => ?_) (fun c14 => ?_)
          · refine lv_iinc (v := nI (j1 + 1)) (lv' := [(4, .int (nI (j1 + 1))), (0, .ref zr), (1, .int ca), (2, .int si), (3, .int rw_)]) (pc := 36) hx hb dX5_take_36 hl (k := 0) rfl (nI_add j1 1) (by decide) rfl (fun ls hl => ?_)
            refine lv_goto (tgt := 3) (pc := 39) hx hb dX5_take_39 rfl ?_
            exact ih1 (j1 + 1)  (by omega) (by omega) ((show L1_X5_take fS fO fM fC rc rp ca si rw_ (fu1 + 1) j1 = L1_X5_take fS fO fM fC rc rp ca si rw_ fu1 (j1 + 1)  from by rw [L1_X5_take, if_neg c1, if_neg c10, if_pos c14]).symm.trans hst1) _ _ _ hW (lv_sub hl [0, 1, 2, 3, 4] rfl)
          · have hF : F_X5_take fS fO fM fC rc rp ca si rw_ = (fS, fO, fM, rc) := hst1.symm.trans (show L1_X5_take fS fO fM fC rc rp ca si rw_ (fu1 + 1) j1 = (fS, fO, fM, rc) from by rw [L1_X5_take, if_neg c1, if_neg c10, if_neg c14])
            exact e_v (u := [(zr, .inr (5, [.ref qs, .ref qo, .ref qm, .int rc, .ref qh, .int (nI rp)])), (qs, .inl (g.2.1 1, 128, .inl fS)), (qo, .inl (g.2.1 1, 128, .inl fO)), (qm, .inl (g.2.1 3, 128, .inl fM)), (qh, .inl (g.2.1 1, 7, .inl fC))]) X hQ hr (hW) [0, 1, 2, 3, 4] rfl rfl (by rw [hF]) ⟨Nat.le_of_ble_eq_true rfl, Nat.le_of_ble_eq_true rfl⟩ dX5_take_35
  exact loop1 (rp + 1) 0  (by omega) (by omega) (show F_X5_take fS fO fM fC rc rp ca si rw_ = L1_X5_take fS fO fM fC rc rp ca si rw_ (rp + 1) 0  from rfl).symm _ _ _ hW (lv_sub hl [0, 1, 2, 3, 4] rfl)

abbrev RST : Type := (Nat → Int32) × (Nat → Int32) × (Nat → Int32) × Int32
abbrev FAT : Type := Nat → Int32 → Int32 → Int32 → (Nat → Int32) → (Nat → Int32) → (Nat → Int32) → Int32 → RST
def L1_X5_findAlls (fC : Nat → Int32) (fj : Nat) (ca : Int32) (si : Int32) (rw_ : Int32) (R : FAT) (j1 : Nat) (fqs_1 : Nat → Int32) (fqo_1 : Nat → Int32) (fqm_1 : Nat → Int32) (y3_1 : Int32) : (Nat → Int32) × (Nat → Int32) × (Nat → Int32) × Int32 := if hasv ((fC fj) &&& (ca ^^^ (-1 : Int32))) (nI j1) = 0 then ((fqs_1, fqo_1, fqm_1, y3_1)) else ((((R (fj + 1) (ca ||| ((1 : Int32) <<< ((nI j1) &&& 31))) si (rw_ ||| ((nI j1) <<< ((nI (fj * 3)) &&& 31))) fqs_1 fqo_1 fqm_1 y3_1).1), ((R (fj + 1) (ca ||| ((1 : Int32) <<< ((nI j1) &&& 31))) si (rw_ ||| ((nI j1) <<< ((nI (fj * 3)) &&& 31))) fqs_1 fqo_1 fqm_1 y3_1).2.1), ((R (fj + 1) (ca ||| ((1 : Int32) <<< ((nI j1) &&& 31))) si (rw_ ||| ((nI j1) <<< ((nI (fj * 3)) &&& 31))) fqs_1 fqo_1 fqm_1 y3_1).2.2.1), (R (fj + 1) (ca ||| ((1 : Int32) <<< ((nI j1) &&& 31))) si (rw_ ||| ((nI j1) <<< ((nI (fj * 3)) &&& 31))) fqs_1 fqo_1 fqm_1 y3_1).2.2.2))
def L1_X5_findAll (fC : Nat → Int32) (fj : Nat) (ca : Int32) (si : Int32) (rw_ : Int32) (R : FAT) (i0_ : Nat → Int32) (i1_ : Nat → Int32) (i2_ : Nat → Int32) (i3_ : Int32) : Nat → (Nat → Int32) × (Nat → Int32) × (Nat → Int32) × Int32
  | 0 => (i0_, i1_, i2_, i3_)
  | k_ + 1 => L1_X5_findAlls fC fj ca si rw_ R k_ ((L1_X5_findAll fC fj ca si rw_ R i0_ i1_ i2_ i3_ k_).1) ((L1_X5_findAll fC fj ca si rw_ R i0_ i1_ i2_ i3_ k_).2.1) ((L1_X5_findAll fC fj ca si rw_ R i0_ i1_ i2_ i3_ k_).2.2.1) ((L1_X5_findAll fC fj ca si rw_ R i0_ i1_ i2_ i3_ k_).2.2.2)
def F_X5_findAll (fS : Nat → Int32) (fO : Nat → Int32) (fM : Nat → Int32) (fC : Nat → Int32) (rc : Int32) (rp : Nat) (fj : Nat) (ca : Int32) (si : Int32) (rw_ : Int32) (R : FAT) : (Nat → Int32) × (Nat → Int32) × (Nat → Int32) × Int32 := if nI fj < nI rp then ((((R (fj + 1) ca (si ||| ((1 : Int32) <<< ((nI fj) &&& 31))) (rw_ ||| ((7 : Int32) <<< ((nI (fj * 3)) &&& 31))) ((L1_X5_findAll fC fj ca si rw_ R fS fO fM rc rp).1) ((L1_X5_findAll fC fj ca si rw_ R fS fO fM rc rp).2.1) ((L1_X5_findAll fC fj ca si rw_ R fS fO fM rc rp).2.2.1) ((L1_X5_findAll fC fj ca si rw_ R fS fO fM rc rp).2.2.2)).1), ((R (fj + 1) ca (si ||| ((1 : Int32) <<< ((nI fj) &&& 31))) (rw_ ||| ((7 : Int32) <<< ((nI (fj * 3)) &&& 31))) ((L1_X5_findAll fC fj ca si rw_ R fS fO fM rc rp).1) ((L1_X5_findAll fC fj ca si rw_ R fS fO fM rc rp).2.1) ((L1_X5_findAll fC fj ca si rw_ R fS fO fM rc rp).2.2.1) ((L1_X5_findAll fC fj ca si rw_ R fS fO fM rc rp).2.2.2)).2.1), ((R (fj + 1) ca (si ||| ((1 : Int32) <<< ((nI fj) &&& 31))) (rw_ ||| ((7 : Int32) <<< ((nI (fj * 3)) &&& 31))) ((L1_X5_findAll fC fj ca si rw_ R fS fO fM rc rp).1) ((L1_X5_findAll fC fj ca si rw_ R fS fO fM rc rp).2.1) ((L1_X5_findAll fC fj ca si rw_ R fS fO fM rc rp).2.2.1) ((L1_X5_findAll fC fj ca si rw_ R fS fO fM rc rp).2.2.2)).2.2.1), (R (fj + 1) ca (si ||| ((1 : Int32) <<< ((nI fj) &&& 31))) (rw_ ||| ((7 : Int32) <<< ((nI (fj * 3)) &&& 31))) ((L1_X5_findAll fC fj ca si rw_ R fS fO fM rc rp).1) ((L1_X5_findAll fC fj ca si rw_ R fS fO fM rc rp).2.1) ((L1_X5_findAll fC fj ca si rw_ R fS fO fM rc rp).2.2.1) ((L1_X5_findAll fC fj ca si rw_ R fS fO fM rc rp).2.2.2)).2.2.2)) else ((((F_X5_take fS fO fM fC rc rp ca si rw_).1), ((F_X5_take fS fO fM fC rc rp ca si rw_).2.1), ((F_X5_take fS fO fM fC rc rp ca si rw_).2.2.1), (F_X5_take fS fO fM fC rc rp ca si rw_).2.2.2))
set_option maxHeartbeats 4000000 in
set_option maxRecDepth 100000 in
theorem K_X5_findAll (l : Launch) (g : GG) (zr : Nat) (qs : Nat) (qo : Nat) (qm : Nat) (qh : Nat) (fS : Nat → Int32) (fO : Nat → Int32) (fM : Nat → Int32) (fC : Nat → Int32) (rc : Int32) (rp : Nat) (fj : Nat) (ca : Int32) (si : Int32) (rw_ : Int32) (R : FAT) (dd : Nat) (hdd : 2 ≤ dd) (hrp : rp ≤ 7) (hfj : fj ≤ rp) (hca : s7 ca) (hRI : RI fS fM rc) (hrec : fj < rp → ∀ (S O M : Nat → Int32) (n ca si rw_ : Int32), s7 ca → RI S M n → MetV l g yX5_findAll cX5_findAll 7 none dd 0 0 [.ref zr, .int (nI (fj + 1)), .int ca, .int si, .int rw_] [(zr, .inr (5, [.ref qs, .ref qo, .ref qm, .int n, .ref qh, .int (nI rp)])), (qs, .inl (g.2.1 1, 128, .inl S)), (qo, .inl (g.2.1 1, 128, .inl O)), (qm, .inl (g.2.1 3, 128, .inl M)), (qh, .inl (g.2.1 1, 7, .inl fC))] (fun u => u = [(zr, .inr (5, [.ref qs, .ref qo, .ref qm, .int ((R (fj + 1) ca si rw_ S O M n).2.2.2), .ref qh, .int (nI rp)])), (qs, .inl (g.2.1 1, 128, .inl ((R (fj + 1) ca si rw_ S O M n).1))), (qo, .inl (g.2.1 1, 128, .inl ((R (fj + 1) ca si rw_ S O M n).2.1))), (qm, .inl (g.2.1 3, 128, .inl ((R (fj + 1) ca si rw_ S O M n).2.2.1))), (qh, .inl (g.2.1 1, 7, .inl fC))])) (hR : fj < rp → ∀ (S O M : Nat → Int32) (n ca si rw_ : Int32), s7 ca → RI S M n → RI (R (fj + 1) ca si rw_ S O M n).1 (R (fj + 1) ca si rw_ S O M n).2.2.1 (R (fj + 1) ca si rw_ S O M n).2.2.2) : MetV l g yX5_findAll cX5_findAll 7 none (dd + 1) 0 0 [.ref zr, .int (nI fj), .int ca, .int si, .int rw_] [(zr, .inr (5, [.ref qs, .ref qo, .ref qm, .int rc, .ref qh, .int (nI rp)])), (qs, .inl (g.2.1 1, 128, .inl fS)), (qo, .inl (g.2.1 1, 128, .inl fO)), (qm, .inl (g.2.1 3, 128, .inl fM)), (qh, .inl (g.2.1 1, 7, .inl fC))] (fun u => u = [(zr, .inr (5, [.ref qs, .ref qo, .ref qm, .int ((F_X5_findAll fS fO fM fC rc rp fj ca si rw_ R).2.2.2), .ref qh, .int (nI rp)])), (qs, .inl (g.2.1 1, 128, .inl ((F_X5_findAll fS fO fM fC rc rp fj ca si rw_ R).1))), (qo, .inl (g.2.1 1, 128, .inl ((F_X5_findAll fS fO fM fC rc rp fj ca si rw_ R).2.1))), (qm, .inl (g.2.1 3, 128, .inl ((F_X5_findAll fS fO fM fC rc rp fj ca si rw_ R).2.2.1))), (qh, .inl (g.2.1 1, 7, .inl fC))]) := by
  refine MetV.of (own := RX5) rfl (by decide) (Nat.le_of_ble_eq_true rfl) ?_
  intro p e s m below meth c A ls args Q hQ X hr hin hW hl
  have hx := X.1
  have hb := X.2.1
  have hl : lv_has ls 7 [(0, .ref zr), (1, .int (nI fj)), (2, .int ca), (3, .int si), (4, .int rw_)] := hl
  refine lv_iload_n (pc := 0) hx hb dX5_findAll_0 rfl (lv_at hl 1 rfl) ?_
  refine lv_aload_n (pc := 1) hx hb dX5_findAll_1 rfl (lv_at hl 0 rfl) ?_
  refine r_get X hW 0 ciX5 5 rfl (by decide) m_95 rfl rfl dX5_findAll_2 ?_
  refine lv_icmp_lt (tgt := 17) (pc := 5) hx hb dX5_findAll_5 rfl (fun c1 => ?_) (fun c1 => ?_)
  · have h2 : fj < rp := (nI_ltI (a := fj) (b := rp) (by omega) (by omega)).mp c1
    refine lv_aload_n (pc := 17) hx hb dX5_findAll_17 rfl (lv_at hl 0 rfl) ?_
    refine r_get X hW 0 ciX5 4 rfl (by decide) m_94 rfl rfl dX5_findAll_18 ?_
    refine lv_iload_n (pc := 21) hx hb dX5_findAll_21 rfl (lv_at hl 1 rfl) ?_
    refine r_iald X hW 4 rfl (vp_in_nI (by omega) (by decide)) dX5_findAll_22 ?_
    refine lv_topi (fun v3 ev3 => ?_)
    obtain rfl : v3 = fC fj := ev3.trans (by rw [nI_clamp (by omega)])
    refine lv_iload_n (pc := 23) hx hb dX5_findAll_23 rfl (lv_at hl 2 rfl) ?_
    refine lv_iconst (v := (-1)) (pc := 24) hx hb dX5_findAll_24 (by decide) ?_
    refine lv_ixor (pc := 25) hx hb dX5_findAll_25 ?_
    refine lv_iand (pc := 26) hx hb dX5_findAll_26 ?_
    refine lv_istore (lv' := [(5, .int ((fC fj) &&& (ca ^^^ (-1 : Int32)))), (0, .ref zr), (1, .int (nI fj)), (2, .int ca), (3, .int si), (4, .int rw_)]) (pc := 27) hx hb dX5_findAll_27 hl (by decide) rfl (fun ls hl => ?_)
    refine lv_iconst (v := 0) (pc := 29) hx hb dX5_findAll_29 (by decide) ?_
    refine lv_istore (lv' := [(6, .int 0), (5, .int ((fC fj) &&& (ca ^^^ (-1 : Int32)))), (0, .ref zr), (1, .int (nI fj)), (2, .int ca), (3, .int si), (4, .int rw_)]) (pc := 30) hx hb dX5_findAll_30 hl (by decide) rfl (fun ls hl => ?_)
    have loop1 : ∀ (fu1 : Nat) (j1 : Nat) (fqs_1 : Nat → Int32) (fqo_1 : Nat → Int32) (fqm_1 : Nat → Int32) (y3_1 : Int32), (rp < fu1 + j1) → (j1 ≤ rp) → (RI fqs_1 fqm_1 y3_1) → ((fqs_1, fqo_1, fqm_1, y3_1) = L1_X5_findAll fC fj ca si rw_ R fS fO fM rc j1) → ∀ (H : Heap) (locs : List Loc) (ls : Array Slot), WD g A s H locs [(zr, .inr (5, [.ref qs, .ref qo, .ref qm, .int y3_1, .ref qh, .int (nI rp)])), (qs, .inl (g.2.1 1, 128, .inl fqs_1)), (qo, .inl (g.2.1 1, 128, .inl fqo_1)), (qm, .inl (g.2.1 3, 128, .inl fqm_1)), (qh, .inl (g.2.1 1, 7, .inl fC))] → lv_has ls 7 [(6, .int (nI j1)), (5, .int ((fC fj) &&& (ca ^^^ (-1 : Int32)))), (0, .ref zr), (1, .int (nI fj)), (2, .int ca), (3, .int si), (4, .int rw_)] → W p l e (RM (dd + 1) 0 0) s m args below meth c H locs 0 0 Q (F0 m 32 ls []) := by
      intro fu1
      induction fu1 with
      | zero =>
        intro j1 fqs_1 fqo_1 fqm_1 y3_1 hm1 hj1 hRI1 hst1
        exact absurd hm1 (by omega)
      | succ fu1 ih1 =>
        intro j1 fqs_1 fqo_1 fqm_1 y3_1 hm1 hj1 hRI1 hst1 H locs ls hW hl
        refine lv_iload (pc := 32) hx hb dX5_findAll_32 (lv_at hl 0 rfl) ?_
        refine lv_aload_n (pc := 34) hx hb dX5_findAll_34 rfl (lv_at hl 2 rfl) ?_
        refine r_get X hW 0 ciX5 5 rfl (by decide) m_95 rfl rfl dX5_findAll_35 ?_
        refine lv_icmp_ge (tgt := 80) (pc := 38) hx hb dX5_findAll_38 rfl (fun c4 => ?_) (fun c4 => ?_)
        · have h5 : rp ≤ j1 := (nI_leI (a := rp) (b := j1) (by omega) (by omega)).mp c4
          have hN1 : j1 = rp := by omega
          rw [hN1] at hst1
          have hs1_0 : (L1_X5_findAll fC fj ca si rw_ R fS fO fM rc rp).1 = fqs_1 := (congrArg (fun z => z.1) hst1).symm
          have hs1_1 : (L1_X5_findAll fC fj ca si rw_ R fS fO fM rc rp).2.1 = fqo_1 := (congrArg (fun z => z.2.1) hst1).symm
          have hs1_2 : (L1_X5_findAll fC fj ca si rw_ R fS fO fM rc rp).2.2.1 = fqm_1 := (congrArg (fun z => z.2.2.1) hst1).symm
          have hs1_3 : (L1_X5_findAll fC fj ca si rw_ R fS fO fM rc rp).2.2.2 = y3_1 := (congrArg (fun z => z.2.2.2) hst1).symm
          clear hst1
          subst hs1_0
          subst hs1_1
          subst hs1_2
          subst hs1_3
          have hW : WD g A s _ _ [(zr, .inr (5, [.ref qs, .ref qo, .ref qm, .int ((L1_X5_findAll fC fj ca si rw_ R fS fO fM rc rp).2.2.2), .ref qh, .int (nI rp)])), (qs, .inl (g.2.1 1, 128, .inl ((L1_X5_findAll fC fj ca si rw_ R fS fO fM rc rp).1))), (qo, .inl (g.2.1 1, 128, .inl ((L1_X5_findAll fC fj ca si rw_ R fS fO fM rc rp).2.1))), (qm, .inl (g.2.1 3, 128, .inl ((L1_X5_findAll fC fj ca si rw_ R fS fO fM rc rp).2.2.1))), (qh, .inl (g.2.1 1, 7, .inl fC))] := hW
          refine lv_aload_n (pc := 80) hx hb dX5_findAll_80 rfl (lv_at hl 2 rfl) ?_
          refine lv_iload_n (pc := 81) hx hb dX5_findAll_81 rfl (lv_at hl 3 rfl) ?_
          refine lv_iconst (v := 1) (pc := 82) hx hb dX5_findAll_82 (by decide) ?_
          refine lv_iadd (pc := 83) hx hb dX5_findAll_83 ?_
          refine lv_topi (fun v6 ev6 => ?_)
          obtain rfl : v6 = nI (fj + 1) := ev6.trans (nI_add fj 1)
          refine lv_iload_n (pc := 84) hx hb dX5_findAll_84 rfl (lv_at hl 4 rfl) ?_
          refine lv_iload_n (pc := 85) hx hb dX5_findAll_85 rfl (lv_at hl 5 rfl) ?_
          refine lv_iconst (v := 1) (pc := 86) hx hb dX5_findAll_86 (by decide) ?_
          refine lv_iload_n (pc := 87) hx hb dX5_findAll_87 rfl (lv_at hl 3 rfl) ?_
          refine lv_ishl (pc := 88) hx hb dX5_findAll_88 ?_
          refine lv_ior (pc := 89) hx hb dX5_findAll_89 ?_
          refine lv_iload (pc := 90) hx hb dX5_findAll_90 (lv_at hl 6 rfl) ?_
          refine lv_bipush (v := 7) (pc := 92) hx hb dX5_findAll_92 (by decide) ?_
          refine lv_iload_n (pc := 94) hx hb dX5_findAll_94 rfl (lv_at hl 3 rfl) ?_
          refine lv_iconst (v := 3) (pc := 95) hx hb dX5_findAll_95 (by decide) ?_
          refine lv_imul (pc := 96) hx hb dX5_findAll_96 ?_
          refine lv_topi (fun v7 ev7 => ?_)
          obtain rfl : v7 = nI (fj * 3) := ev7.trans (pk_mul fj 3)
          refine lv_ishl (pc := 97) hx hb dX5_findAll_97 ?_
          refine lv_ior (pc := 98) hx hb dX5_findAll_98 ?_
          refine c_Vv (pc := 99) (As := [.int (nI (fj + 1)), .int ca, .int (si ||| ((1 : Int32) <<< ((nI fj) &&& 31))), .int (rw_ ||| ((7 : Int32) <<< ((nI (fj * 3)) &&& 31)))]) (rest := []) (wr := []) X hW 0 ciX5 rfl (hrec (by omega) ((L1_X5_findAll fC fj ca si rw_ R fS fO fM rc rp).1) ((L1_X5_findAll fC fj ca si rw_ R fS fO fM rc rp).2.1) ((L1_X5_findAll fC fj ca si rw_ R fS fO fM rc rp).2.2.1) ((L1_X5_findAll fC fj ca si rw_ R fS fO fM rc rp).2.2.2) ca (si ||| ((1 : Int32) <<< ((nI fj) &&& 31))) (rw_ ||| ((7 : Int32) <<< ((nI (fj * 3)) &&& 31))) hca hRI1) vX5_40 [0, 1, 2, 3, 4] [] rfl rfl rfl rfl rfl rfl hl.1 rfl (Nat.le_of_ble_eq_true rfl) ⟨by show _ ≤ dd + 1; omega, by show _ ≤ 40 * (dd + 1); omega⟩ ⟨Nat.le_of_ble_eq_true rfl, Nat.le_of_ble_eq_true rfl⟩ dX5_findAll_99 (fun u9 H locs hq hW => ?_)
          obtain rfl := hq
          have hW : WD g A s _ _ [(zr, .inr (5, [.ref qs, .ref qo, .ref qm, .int ((R (fj + 1) ca (si ||| ((1 : Int32) <<< ((nI fj) &&& 31))) (rw_ ||| ((7 : Int32) <<< ((nI (fj * 3)) &&& 31))) ((L1_X5_findAll fC fj ca si rw_ R fS fO fM rc rp).1) ((L1_X5_findAll fC fj ca si rw_ R fS fO fM rc rp).2.1) ((L1_X5_findAll fC fj ca si rw_ R fS fO fM rc rp).2.2.1) ((L1_X5_findAll fC fj ca si rw_ R fS fO fM rc rp).2.2.2)).2.2.2), .ref qh, .int (nI rp)])), (qs, .inl (g.2.1 1, 128, .inl ((R (fj + 1) ca (si ||| ((1 : Int32) <<< ((nI fj) &&& 31))) (rw_ ||| ((7 : Int32) <<< ((nI (fj * 3)) &&& 31))) ((L1_X5_findAll fC fj ca si rw_ R fS fO fM rc rp).1) ((L1_X5_findAll fC fj ca si rw_ R fS fO fM rc rp).2.1) ((L1_X5_findAll fC fj ca si rw_ R fS fO fM rc rp).2.2.1) ((L1_X5_findAll fC fj ca si rw_ R fS fO fM rc rp).2.2.2)).1))), (qo, .inl (g.2.1 1, 128, .inl ((R (fj + 1) ca (si ||| ((1 : Int32) <<< ((nI fj) &&& 31))) (rw_ ||| ((7 : Int32) <<< ((nI (fj * 3)) &&& 31))) ((L1_X5_findAll fC fj ca si rw_ R fS fO fM rc rp).1) ((L1_X5_findAll fC fj ca si rw_ R fS fO fM rc rp).2.1) ((L1_X5_findAll fC fj ca si rw_ R fS fO fM rc rp).2.2.1) ((L1_X5_findAll fC fj ca si rw_ R fS fO fM rc rp).2.2.2)).2.1))), (qm, .inl (g.2.1 3, 128, .inl ((R (fj + 1) ca (si ||| ((1 : Int32) <<< ((nI fj) &&& 31))) (rw_ ||| ((7 : Int32) <<< ((nI (fj * 3)) &&& 31))) ((L1_X5_findAll fC fj ca si rw_ R fS fO fM rc rp).1) ((L1_X5_findAll fC fj ca si rw_ R fS fO fM rc rp).2.1) ((L1_X5_findAll fC fj ca si rw_ R fS fO fM rc rp).2.2.1) ((L1_X5_findAll fC fj ca si rw_ R fS fO fM rc rp).2.2.2)).2.2.1))), (qh, .inl (g.2.1 1, 7, .inl fC))] := hW
          have hF : F_X5_findAll fS fO fM fC rc rp fj ca si rw_ R = (((R (fj + 1) ca (si ||| ((1 : Int32) <<< ((nI fj) &&& 31))) (rw_ ||| ((7 : Int32) <<< ((nI (fj * 3)) &&& 31))) ((L1_X5_findAll fC fj ca si rw_ R fS fO fM rc rp).1) ((L1_X5_findAll fC fj ca si rw_ R fS fO fM rc rp).2.1) ((L1_X5_findAll fC fj ca si rw_ R fS fO fM rc rp).2.2.1) ((L1_X5_findAll fC fj ca si rw_ R fS fO fM rc rp).2.2.2)).1), ((R (fj + 1) ca (si ||| ((1 : Int32) <<< ((nI fj) &&& 31))) (rw_ ||| ((7 : Int32) <<< ((nI (fj * 3)) &&& 31))) ((L1_X5_findAll fC fj ca si rw_ R fS fO fM rc rp).1) ((L1_X5_findAll fC fj ca si rw_ R fS fO fM rc rp).2.1) ((L1_X5_findAll fC fj ca si rw_ R fS fO fM rc rp).2.2.1) ((L1_X5_findAll fC fj ca si rw_ R fS fO fM rc rp).2.2.2)).2.1), ((R (fj + 1) ca (si ||| ((1 : Int32) <<< ((nI fj) &&& 31))) (rw_ ||| ((7 : Int32) <<< ((nI (fj * 3)) &&& 31))) ((L1_X5_findAll fC fj ca si rw_ R fS fO fM rc rp).1) ((L1_X5_findAll fC fj ca si rw_ R fS fO fM rc rp).2.1) ((L1_X5_findAll fC fj ca si rw_ R fS fO fM rc rp).2.2.1) ((L1_X5_findAll fC fj ca si rw_ R fS fO fM rc rp).2.2.2)).2.2.1), (R (fj + 1) ca (si ||| ((1 : Int32) <<< ((nI fj) &&& 31))) (rw_ ||| ((7 : Int32) <<< ((nI (fj * 3)) &&& 31))) ((L1_X5_findAll fC fj ca si rw_ R fS fO fM rc rp).1) ((L1_X5_findAll fC fj ca si rw_ R fS fO fM rc rp).2.1) ((L1_X5_findAll fC fj ca si rw_ R fS fO fM rc rp).2.2.1) ((L1_X5_findAll fC fj ca si rw_ R fS fO fM rc rp).2.2.2)).2.2.2) := show F_X5_findAll fS fO fM fC rc rp fj ca si rw_ R = (((R (fj + 1) ca (si ||| ((1 : Int32) <<< ((nI fj) &&& 31))) (rw_ ||| ((7 : Int32) <<< ((nI (fj * 3)) &&& 31))) ((L1_X5_findAll fC fj ca si rw_ R fS fO fM rc rp).1) ((L1_X5_findAll fC fj ca si rw_ R fS fO fM rc rp).2.1) ((L1_X5_findAll fC fj ca si rw_ R fS fO fM rc rp).2.2.1) ((L1_X5_findAll fC fj ca si rw_ R fS fO fM rc rp).2.2.2)).1), ((R (fj + 1) ca (si ||| ((1 : Int32) <<< ((nI fj) &&& 31))) (rw_ ||| ((7 : Int32) <<< ((nI (fj * 3)) &&& 31))) ((L1_X5_findAll fC fj ca si rw_ R fS fO fM rc rp).1) ((L1_X5_findAll fC fj ca si rw_ R fS fO fM rc rp).2.1) ((L1_X5_findAll fC fj ca si rw_ R fS fO fM rc rp).2.2.1) ((L1_X5_findAll fC fj ca si rw_ R fS fO fM rc rp).2.2.2)).2.1), ((R (fj + 1) ca (si ||| ((1 : Int32) <<< ((nI fj) &&& 31))) (rw_ ||| ((7 : Int32) <<< ((nI (fj * 3)) &&& 31))) ((L1_X5_findAll fC fj ca si rw_ R fS fO fM rc rp).1) ((L1_X5_findAll fC fj ca si rw_ R fS fO fM rc rp).2.1) ((L1_X5_findAll fC fj ca si rw_ R fS fO fM rc rp).2.2.1) ((L1_X5_findAll fC fj ca si rw_ R fS fO fM rc rp).2.2.2)).2.2.1), (R (fj + 1) ca (si ||| ((1 : Int32) <<< ((nI fj) &&& 31))) (rw_ ||| ((7 : Int32) <<< ((nI (fj * 3)) &&& 31))) ((L1_X5_findAll fC fj ca si rw_ R fS fO fM rc rp).1) ((L1_X5_findAll fC fj ca si rw_ R fS fO fM rc rp).2.1) ((L1_X5_findAll fC fj ca si rw_ R fS fO fM rc rp).2.2.1) ((L1_X5_findAll fC fj ca si rw_ R fS fO fM rc rp).2.2.2)).2.2.2) from by rw [F_X5_findAll, if_pos c1]
          exact e_v (u := [(zr, .inr (5, [.ref qs, .ref qo, .ref qm, .int ((R (fj + 1) ca (si ||| ((1 : Int32) <<< ((nI fj) &&& 31))) (rw_ ||| ((7 : Int32) <<< ((nI (fj * 3)) &&& 31))) ((L1_X5_findAll fC fj ca si rw_ R fS fO fM rc rp).1) ((L1_X5_findAll fC fj ca si rw_ R fS fO fM rc rp).2.1) ((L1_X5_findAll fC fj ca si rw_ R fS fO fM rc rp).2.2.1) ((L1_X5_findAll fC fj ca si rw_ R fS fO fM rc rp).2.2.2)).2.2.2), .ref qh, .int (nI rp)])), (qs, .inl (g.2.1 1, 128, .inl ((R (fj + 1) ca (si ||| ((1 : Int32) <<< ((nI fj) &&& 31))) (rw_ ||| ((7 : Int32) <<< ((nI (fj * 3)) &&& 31))) ((L1_X5_findAll fC fj ca si rw_ R fS fO fM rc rp).1) ((L1_X5_findAll fC fj ca si rw_ R fS fO fM rc rp).2.1) ((L1_X5_findAll fC fj ca si rw_ R fS fO fM rc rp).2.2.1) ((L1_X5_findAll fC fj ca si rw_ R fS fO fM rc rp).2.2.2)).1))), (qo, .inl (g.2.1 1, 128, .inl ((R (fj + 1) ca (si ||| ((1 : Int32) <<< ((nI fj) &&& 31))) (rw_ ||| ((7 : Int32) <<< ((nI (fj * 3)) &&& 31))) ((L1_X5_findAll fC fj ca si rw_ R fS fO fM rc rp).1) ((L1_X5_findAll fC fj ca si rw_ R fS fO fM rc rp).2.1) ((L1_X5_findAll fC fj ca si rw_ R fS fO fM rc rp).2.2.1) ((L1_X5_findAll fC fj ca si rw_ R fS fO fM rc rp).2.2.2)).2.1))), (qm, .inl (g.2.1 3, 128, .inl ((R (fj + 1) ca (si ||| ((1 : Int32) <<< ((nI fj) &&& 31))) (rw_ ||| ((7 : Int32) <<< ((nI (fj * 3)) &&& 31))) ((L1_X5_findAll fC fj ca si rw_ R fS fO fM rc rp).1) ((L1_X5_findAll fC fj ca si rw_ R fS fO fM rc rp).2.1) ((L1_X5_findAll fC fj ca si rw_ R fS fO fM rc rp).2.2.1) ((L1_X5_findAll fC fj ca si rw_ R fS fO fM rc rp).2.2.2)).2.2.1))), (qh, .inl (g.2.1 1, 7, .inl fC))]) X hQ hr (hW) [0, 1, 2, 3, 4] rfl rfl (by rw [hF]) ⟨Nat.le_of_ble_eq_true rfl, Nat.le_of_ble_eq_true rfl⟩ dX5_findAll_102
        · have h8 : ¬ (rp ≤ j1) := fun q => c4 ((nI_leI (a := rp) (b := j1) (by omega) (by omega)).mpr q)
          refine lv_iload (pc := 41) hx hb dX5_findAll_41 (lv_at hl 1 rfl) ?_
          refine lv_iload (pc := 43) hx hb dX5_findAll_43 (lv_at hl 0 rfl) ?_
          refine c_SNi (pc := 45) (As := [.int ((fC fj) &&& (ca ^^^ (-1 : Int32))), .int (nI j1)]) (rest := []) (wr := [(zr, .inr (5, [.ref qs, .ref qo, .ref qm, .int y3_1, .ref qh, .int (nI rp)])), (qs, .inl (g.2.1 1, 128, .inl fqs_1)), (qo, .inl (g.2.1 1, 128, .inl fqo_1)), (qm, .inl (g.2.1 3, 128, .inl fqm_1)), (qh, .inl (g.2.1 1, 7, .inl fC))]) X hW (C_X11_has l g ((fC fj) &&& (ca ^^^ (-1 : Int32))) (nI j1)) vX5_36 [] [0, 1, 2, 3, 4] rfl rfl rfl rfl rfl rfl hl.1 rfl (Nat.le_of_ble_eq_true rfl) ⟨by show _ ≤ dd + 1; omega, by show _ ≤ 40 * (dd + 1); omega⟩ ⟨Nat.le_of_ble_eq_true rfl, Nat.le_of_ble_eq_true rfl⟩ dX5_findAll_45 (fun r9 u9 H locs hq hW => ?_)
          obtain ⟨rfl, rfl⟩ := hq
          have hW : WD g A s _ _ [(zr, .inr (5, [.ref qs, .ref qo, .ref qm, .int y3_1, .ref qh, .int (nI rp)])), (qs, .inl (g.2.1 1, 128, .inl fqs_1)), (qo, .inl (g.2.1 1, 128, .inl fqo_1)), (qm, .inl (g.2.1 3, 128, .inl fqm_1)), (qh, .inl (g.2.1 1, 7, .inl fC))] := hW
          refine lv_if_eq (tgt := 74) (pc := 48) hx hb dX5_findAll_48 rfl (fun c10 => ?_) (fun c10 => ?_)
          · refine lv_iinc (v := nI (j1 + 1)) (lv' := [(6, .int (nI (j1 + 1))), (5, .int ((fC fj) &&& (ca ^^^ (-1 : Int32)))), (0, .ref zr), (1, .int (nI fj)), (2, .int ca), (3, .int si), (4, .int rw_)]) (pc := 74) hx hb dX5_findAll_74 hl (k := 0) rfl (nI_add j1 1) (by decide) rfl (fun ls hl => ?_)
            refine lv_goto (tgt := 32) (pc := 77) hx hb dX5_findAll_77 rfl ?_
            exact ih1 (j1 + 1) fqs_1 fqo_1 fqm_1 y3_1 (by omega) (by omega) (by first | exact hRI1 | exact hR1) (by rw [L1_X5_findAll, ← hst1]; exact (show L1_X5_findAlls fC fj ca si rw_ R j1 fqs_1 fqo_1 fqm_1 y3_1 = (fqs_1, fqo_1, fqm_1, y3_1) from by rw [L1_X5_findAlls, if_pos c10]).symm) _ _ _ hW (lv_sub hl [0, 1, 2, 3, 4, 5, 6] rfl)
          · refine lv_aload_n (pc := 51) hx hb dX5_findAll_51 rfl (lv_at hl 2 rfl) ?_
            refine lv_iload_n (pc := 52) hx hb dX5_findAll_52 rfl (lv_at hl 3 rfl) ?_
            refine lv_iconst (v := 1) (pc := 53) hx hb dX5_findAll_53 (by decide) ?_
            refine lv_iadd (pc := 54) hx hb dX5_findAll_54 ?_
            refine lv_topi (fun v13 ev13 => ?_)
            obtain rfl : v13 = nI (fj + 1) := ev13.trans (nI_add fj 1)
            refine lv_iload_n (pc := 55) hx hb dX5_findAll_55 rfl (lv_at hl 4 rfl) ?_
            refine lv_iconst (v := 1) (pc := 56) hx hb dX5_findAll_56 (by decide) ?_
            refine lv_iload (pc := 57) hx hb dX5_findAll_57 (lv_at hl 0 rfl) ?_
            refine lv_ishl (pc := 59) hx hb dX5_findAll_59 ?_
            refine lv_ior (pc := 60) hx hb dX5_findAll_60 ?_
            refine lv_iload_n (pc := 61) hx hb dX5_findAll_61 rfl (lv_at hl 5 rfl) ?_
            refine lv_iload (pc := 62) hx hb dX5_findAll_62 (lv_at hl 6 rfl) ?_
            refine lv_iload (pc := 64) hx hb dX5_findAll_64 (lv_at hl 0 rfl) ?_
            refine lv_iload_n (pc := 66) hx hb dX5_findAll_66 rfl (lv_at hl 3 rfl) ?_
            refine lv_iconst (v := 3) (pc := 67) hx hb dX5_findAll_67 (by decide) ?_
            refine lv_imul (pc := 68) hx hb dX5_findAll_68 ?_
            refine lv_topi (fun v14 ev14 => ?_)
            obtain rfl : v14 = nI (fj * 3) := ev14.trans (pk_mul fj 3)
            refine lv_ishl (pc := 69) hx hb dX5_findAll_69 ?_
            refine lv_ior (pc := 70) hx hb dX5_findAll_70 ?_
            have hR1 := hR (by omega) fqs_1 fqo_1 fqm_1 y3_1 (ca ||| ((1 : Int32) <<< ((nI j1) &&& 31))) si (rw_ ||| ((nI j1) <<< ((nI (fj * 3)) &&& 31))) (s7_or hca (s7_b1 (by omega))) hRI1
            refine c_Vv (pc := 71) (As := [.int (nI (fj + 1)), .int (ca ||| ((1 : Int32) <<< ((nI j1) &&& 31))), .int si, .int (rw_ ||| ((nI j1) <<< ((nI (fj * 3)) &&& 31)))]) (rest := []) (wr := []) X hW 0 ciX5 rfl (hrec (by omega) fqs_1 fqo_1 fqm_1 y3_1 (ca ||| ((1 : Int32) <<< ((nI j1) &&& 31))) si (rw_ ||| ((nI j1) <<< ((nI (fj * 3)) &&& 31))) (s7_or hca (s7_b1 (by omega))) hRI1) vX5_40 [0, 1, 2, 3, 4] [] rfl rfl rfl rfl rfl rfl hl.1 rfl (Nat.le_of_ble_eq_true rfl) ⟨by show _ ≤ dd + 1; omega, by show _ ≤ 40 * (dd + 1); omega⟩ ⟨Nat.le_of_ble_eq_true rfl, Nat.le_of_ble_eq_true rfl⟩ dX5_findAll_71 (fun u9 H locs hq hW => ?_)
            obtain rfl := hq
            have hW : WD g A s _ _ [(zr, .inr (5, [.ref qs, .ref qo, .ref qm, .int ((R (fj + 1) (ca ||| ((1 : Int32) <<< ((nI j1) &&& 31))) si (rw_ ||| ((nI j1) <<< ((nI (fj * 3)) &&& 31))) fqs_1 fqo_1 fqm_1 y3_1).2.2.2), .ref qh, .int (nI rp)])), (qs, .inl (g.2.1 1, 128, .inl ((R (fj + 1) (ca ||| ((1 : Int32) <<< ((nI j1) &&& 31))) si (rw_ ||| ((nI j1) <<< ((nI (fj * 3)) &&& 31))) fqs_1 fqo_1 fqm_1 y3_1).1))), (qo, .inl (g.2.1 1, 128, .inl ((R (fj + 1) (ca ||| ((1 : Int32) <<< ((nI j1) &&& 31))) si (rw_ ||| ((nI j1) <<< ((nI (fj * 3)) &&& 31))) fqs_1 fqo_1 fqm_1 y3_1).2.1))), (qm, .inl (g.2.1 3, 128, .inl ((R (fj + 1) (ca ||| ((1 : Int32) <<< ((nI j1) &&& 31))) si (rw_ ||| ((nI j1) <<< ((nI (fj * 3)) &&& 31))) fqs_1 fqo_1 fqm_1 y3_1).2.2.1))), (qh, .inl (g.2.1 1, 7, .inl fC))] := hW
            refine lv_iinc (v := nI (j1 + 1)) (lv' := [(6, .int (nI (j1 + 1))), (5, .int ((fC fj) &&& (ca ^^^ (-1 : Int32)))), (0, .ref zr), (1, .int (nI fj)), (2, .int ca), (3, .int si), (4, .int rw_)]) (pc := 74) hx hb dX5_findAll_74 hl (k := 0) rfl (nI_add j1 1) (by decide) rfl (fun ls hl => ?_)
            refine lv_goto (tgt := 32) (pc := 77) hx hb dX5_findAll_77 rfl ?_
            exact ih1 (j1 + 1) ((R (fj + 1) (ca ||| ((1 : Int32) <<< ((nI j1) &&& 31))) si (rw_ ||| ((nI j1) <<< ((nI (fj * 3)) &&& 31))) fqs_1 fqo_1 fqm_1 y3_1).1) ((R (fj + 1) (ca ||| ((1 : Int32) <<< ((nI j1) &&& 31))) si (rw_ ||| ((nI j1) <<< ((nI (fj * 3)) &&& 31))) fqs_1 fqo_1 fqm_1 y3_1).2.1) ((R (fj + 1) (ca ||| ((1 : Int32) <<< ((nI j1) &&& 31))) si (rw_ ||| ((nI j1) <<< ((nI (fj * 3)) &&& 31))) fqs_1 fqo_1 fqm_1 y3_1).2.2.1) ((R (fj + 1) (ca ||| ((1 : Int32) <<< ((nI j1) &&& 31))) si (rw_ ||| ((nI j1) <<< ((nI (fj * 3)) &&& 31))) fqs_1 fqo_1 fqm_1 y3_1).2.2.2) (by omega) (by omega) (by first | exact hRI1 | exact hR1) (by rw [L1_X5_findAll, ← hst1]; exact (show L1_X5_findAlls fC fj ca si rw_ R j1 fqs_1 fqo_1 fqm_1 y3_1 = (((R (fj + 1) (ca ||| ((1 : Int32) <<< ((nI j1) &&& 31))) si (rw_ ||| ((nI j1) <<< ((nI (fj * 3)) &&& 31))) fqs_1 fqo_1 fqm_1 y3_1).1), ((R (fj + 1) (ca ||| ((1 : Int32) <<< ((nI j1) &&& 31))) si (rw_ ||| ((nI j1) <<< ((nI (fj * 3)) &&& 31))) fqs_1 fqo_1 fqm_1 y3_1).2.1), ((R (fj + 1) (ca ||| ((1 : Int32) <<< ((nI j1) &&& 31))) si (rw_ ||| ((nI j1) <<< ((nI (fj * 3)) &&& 31))) fqs_1 fqo_1 fqm_1 y3_1).2.2.1), (R (fj + 1) (ca ||| ((1 : Int32) <<< ((nI j1) &&& 31))) si (rw_ ||| ((nI j1) <<< ((nI (fj * 3)) &&& 31))) fqs_1 fqo_1 fqm_1 y3_1).2.2.2) from by rw [L1_X5_findAlls, if_neg c10]).symm) _ _ _ hW (lv_sub hl [0, 1, 2, 3, 4, 5, 6] rfl)
    exact loop1 (rp + 1) 0 fS fO fM rc (by omega) (by omega) hRI rfl _ _ _ hW (lv_sub hl [0, 1, 2, 3, 4, 5, 6] rfl)
  · have h15 : ¬ (fj < rp) := fun q => c1 ((nI_ltI (a := fj) (b := rp) (by omega) (by omega)).mpr q)
    refine lv_aload_n (pc := 8) hx hb dX5_findAll_8 rfl (lv_at hl 0 rfl) ?_
    refine lv_iload_n (pc := 9) hx hb dX5_findAll_9 rfl (lv_at hl 2 rfl) ?_
    refine lv_iload_n (pc := 10) hx hb dX5_findAll_10 rfl (lv_at hl 3 rfl) ?_
    refine lv_iload (pc := 11) hx hb dX5_findAll_11 (lv_at hl 4 rfl) ?_
    refine c_Vv (pc := 13) (As := [.int ca, .int si, .int rw_]) (rest := []) (wr := []) X hW 0 ciX5 rfl (K_X5_take l g zr qs qo qm qh fS fO fM fC rc rp ca si rw_ (by omega) hca hRI) vX5_32 [0, 1, 2, 3, 4] [] rfl rfl rfl rfl rfl rfl hl.1 rfl (Nat.le_of_ble_eq_true rfl) ⟨by show _ ≤ dd + 1; omega, by show _ ≤ 40 * (dd + 1); omega⟩ ⟨Nat.le_of_ble_eq_true rfl, Nat.le_of_ble_eq_true rfl⟩ dX5_findAll_13 (fun u9 H locs hq hW => ?_)
    obtain rfl := hq
    have hW : WD g A s _ _ [(zr, .inr (5, [.ref qs, .ref qo, .ref qm, .int ((F_X5_take fS fO fM fC rc rp ca si rw_).2.2.2), .ref qh, .int (nI rp)])), (qs, .inl (g.2.1 1, 128, .inl ((F_X5_take fS fO fM fC rc rp ca si rw_).1))), (qo, .inl (g.2.1 1, 128, .inl ((F_X5_take fS fO fM fC rc rp ca si rw_).2.1))), (qm, .inl (g.2.1 3, 128, .inl ((F_X5_take fS fO fM fC rc rp ca si rw_).2.2.1))), (qh, .inl (g.2.1 1, 7, .inl fC))] := hW
    have hF : F_X5_findAll fS fO fM fC rc rp fj ca si rw_ R = (((F_X5_take fS fO fM fC rc rp ca si rw_).1), ((F_X5_take fS fO fM fC rc rp ca si rw_).2.1), ((F_X5_take fS fO fM fC rc rp ca si rw_).2.2.1), (F_X5_take fS fO fM fC rc rp ca si rw_).2.2.2) := show F_X5_findAll fS fO fM fC rc rp fj ca si rw_ R = (((F_X5_take fS fO fM fC rc rp ca si rw_).1), ((F_X5_take fS fO fM fC rc rp ca si rw_).2.1), ((F_X5_take fS fO fM fC rc rp ca si rw_).2.2.1), (F_X5_take fS fO fM fC rc rp ca si rw_).2.2.2) from by rw [F_X5_findAll, if_neg c1]
    exact e_v (u := [(zr, .inr (5, [.ref qs, .ref qo, .ref qm, .int ((F_X5_take fS fO fM fC rc rp ca si rw_).2.2.2), .ref qh, .int (nI rp)])), (qs, .inl (g.2.1 1, 128, .inl ((F_X5_take fS fO fM fC rc rp ca si rw_).1))), (qo, .inl (g.2.1 1, 128, .inl ((F_X5_take fS fO fM fC rc rp ca si rw_).2.1))), (qm, .inl (g.2.1 3, 128, .inl ((F_X5_take fS fO fM fC rc rp ca si rw_).2.2.1))), (qh, .inl (g.2.1 1, 7, .inl fC))]) X hQ hr (hW) [0, 1, 2, 3, 4] rfl rfl (by rw [hF]) ⟨Nat.le_of_ble_eq_true rfl, Nat.le_of_ble_eq_true rfl⟩ dX5_findAll_16

def FA (fC : Nat → Int32) (rp : Nat) : Nat → FAT
  | 0 => fun _ _ _ _ S O M n => (S, O, M, n)
  | f + 1 => fun fj ca si rw_ fS fO fM rc => F_X5_findAll fS fO fM fC rc rp fj ca si rw_ (FA fC rp f)
theorem RI_take {S O M C : Nat → Int32} {n ca si rw_ : Int32} {rp : Nat} (h : RI S M n) (hca : s7 ca) : ∀ m j : Nat, rp < m + j → RI (L1_X5_take S O M C n rp ca si rw_ m j).1 (L1_X5_take S O M C n rp ca si rw_ m j).2.2.1 (L1_X5_take S O M C n rp ca si rw_ m j).2.2.2
  | 0, j, _ => RI_0 fun _ _ => rfl
  | m + 1, j, hm => by
    rw [L1_X5_take]
    by_cases c1 : nI rp ≤ nI j
    · rw [if_pos c1]
      by_cases c2 : M (tN ca) = 0
      · rw [if_pos c2]
        obtain ⟨q1, q2⟩ := s7_num hca
        have q3 := h.put q2 c2
        have q4 := h.lt q2 c2
        have q5 := (nI_up h.1 (by omega)).1
        rw [← q1, q5] at q3
        exact q3
      · rw [if_neg c2]; exact h
    · rw [if_neg c1]
      by_cases c2 : hasv si (nI j) = 0
      · rw [if_pos c2]; exact RI_take h hca m (j + 1) (by omega)
      · rw [if_neg c2]
        by_cases c3 : C j &&& (ca ^^^ (-1 : Int32)) = 0
        · rw [if_pos c3]; exact RI_take h hca m (j + 1) (by omega)
        · rw [if_neg c3]; exact h
theorem RI_fl {R : FAT} {C : Nat → Int32} {fj : Nat} {ca si rw_ : Int32} (hca : s7 ca) (hR : ∀ (S O M : Nat → Int32) (n ca si rw_ : Int32), s7 ca → RI S M n → RI (R (fj + 1) ca si rw_ S O M n).1 (R (fj + 1) ca si rw_ S O M n).2.2.1 (R (fj + 1) ca si rw_ S O M n).2.2.2) {S O M : Nat → Int32} {n : Int32} (h : RI S M n) : ∀ k : Nat, k ≤ 7 → RI (L1_X5_findAll C fj ca si rw_ R S O M n k).1 (L1_X5_findAll C fj ca si rw_ R S O M n k).2.2.1 (L1_X5_findAll C fj ca si rw_ R S O M n k).2.2.2
  | 0, _ => h
  | k + 1, hk => by
    have ih := RI_fl (O := O) (si := si) (rw_ := rw_) hca hR h (C := C) k (by omega)
    have e : L1_X5_findAll C fj ca si rw_ R S O M n (k + 1) = L1_X5_findAlls C fj ca si rw_ R k (L1_X5_findAll C fj ca si rw_ R S O M n k).1 (L1_X5_findAll C fj ca si rw_ R S O M n k).2.1 (L1_X5_findAll C fj ca si rw_ R S O M n k).2.2.1 (L1_X5_findAll C fj ca si rw_ R S O M n k).2.2.2 := rfl
    rw [e]
    generalize L1_X5_findAll C fj ca si rw_ R S O M n k = s at ih ⊢
    unfold L1_X5_findAlls
    split
    · exact ih
    · exact hR _ _ _ _ _ _ _ (s7_or hca (s7_b1 (by omega))) ih
theorem FA_RI {C : Nat → Int32} {rp : Nat} (hrp : rp ≤ 7) : ∀ (f fj : Nat) (S O M : Nat → Int32) (n ca si rw_ : Int32), s7 ca → RI S M n → RI (FA C rp f fj ca si rw_ S O M n).1 (FA C rp f fj ca si rw_ S O M n).2.2.1 (FA C rp f fj ca si rw_ S O M n).2.2.2
  | 0, _, _, _, _, _, _, _, _, _, h => h
  | f + 1, fj, S, O, M, n, ca, si, rw_, hca, h => by
    show RI (F_X5_findAll S O M C n rp fj ca si rw_ (FA C rp f)).1 (F_X5_findAll S O M C n rp fj ca si rw_ (FA C rp f)).2.2.1 (F_X5_findAll S O M C n rp fj ca si rw_ (FA C rp f)).2.2.2
    unfold F_X5_findAll
    split
    · exact FA_RI hrp f _ _ _ _ _ _ _ _ hca (RI_fl hca (fun S O M n ca si rw_ a b => FA_RI hrp f _ S O M n ca si rw_ a b) h rp hrp)
    · exact RI_take h hca (rp + 1) 0 (by omega)
theorem K_fa (l : Launch) (g : GG) (zr qs qo qm qh : Nat) (fC : Nat → Int32) (rp : Nat) (hrp : rp ≤ 7) : ∀ (f fj : Nat), rp < fj + f → fj ≤ rp → ∀ (S O M : Nat → Int32) (n ca si rw_ : Int32), s7 ca → RI S M n → MetV l g yX5_findAll cX5_findAll 7 none (f + 2) 0 0 [.ref zr, .int (nI fj), .int ca, .int si, .int rw_] [(zr, .inr (5, [.ref qs, .ref qo, .ref qm, .int n, .ref qh, .int (nI rp)])), (qs, .inl (g.2.1 1, 128, .inl S)), (qo, .inl (g.2.1 1, 128, .inl O)), (qm, .inl (g.2.1 3, 128, .inl M)), (qh, .inl (g.2.1 1, 7, .inl fC))] (fun u => u = [(zr, .inr (5, [.ref qs, .ref qo, .ref qm, .int ((FA fC rp f fj ca si rw_ S O M n).2.2.2), .ref qh, .int (nI rp)])), (qs, .inl (g.2.1 1, 128, .inl ((FA fC rp f fj ca si rw_ S O M n).1))), (qo, .inl (g.2.1 1, 128, .inl ((FA fC rp f fj ca si rw_ S O M n).2.1))), (qm, .inl (g.2.1 3, 128, .inl ((FA fC rp f fj ca si rw_ S O M n).2.2.1))), (qh, .inl (g.2.1 1, 7, .inl fC))])
  | 0, fj, h, q => absurd h (by omega)
  | f + 1, fj, h, q => fun S O M n ca si rw_ hca hRI => K_X5_findAll l g zr qs qo qm qh S O M fC n rp fj ca si rw_ (FA fC rp f) (f + 2) (by omega) hrp q hca hRI (fun z => K_fa l g zr qs qo qm qh fC rp hrp f (fj + 1) (by omega) z) (fun _ => FA_RI hrp f (fj + 1))
