/-! the least hours, as the reference finds them; and that both are the same -/
/-- the least number up to b with a property; 99 where there is none -/
def MV (P : Nat → Prop) (b : Nat) (v : Int32) : Prop := (v = 99 ∧ ∀ n : Nat, n ≤ b → ¬ P n) ∨ ∃ n : Nat, n ≤ b ∧ v = nI n ∧ P n ∧ ∀ k : Nat, k < n → ¬ P k
theorem MV.iff {P P2 : Nat → Prop} {b : Nat} {v : Int32} (h : MV P b v) (e : ∀ n : Nat, P n ↔ P2 n) : MV P2 b v := by
  rcases h with ⟨a1, a2⟩ | ⟨n, a1, a2, a3, a4⟩
  · exact Or.inl ⟨a1, fun n hn q => a2 n hn ((e n).mpr q)⟩
  · exact Or.inr ⟨n, a1, a2, (e n).mp a3, fun k hk q => a4 k hk ((e k).mpr q)⟩
theorem shrb_1 {x : Int32} {b : Nat} (hb : b < 32) : (x >>> (nI b &&& 31)) &&& 1 = 1 ↔ bt x b = true := by
  rw [and1_1, b_sshr b hb x (by omega), if_pos (by omega), Nat.add_zero]
/-- who takes part in a row's calls so far -/
def BU (bu : Int32) (r : Nat → Nat) (j : Nat) : Prop := ∀ b : Nat, b < 32 → (bt bu b = true ↔ ∃ a : Nat, a < j ∧ ¬ r a = 7 ∧ (a = b ∨ r a = b))
theorem BU.still {bu : Int32} {r : Nat → Nat} {j : Nat} (h : BU bu r j) : BU bu (rput r j 7) (j + 1) := fun b hb => by
  rw [h b hb]
  constructor
  · rintro ⟨a, ha, q1, q2⟩
    exact ⟨a, by omega, by rw [rput_lt a ha]; exact q1, by rw [rput_lt a ha]; exact q2⟩
  · rintro ⟨a, ha, q1, q2⟩
    by_cases e : a = j
    · rw [e, rput_eq] at q1; exact absurd rfl q1
    · rw [rput_ne e] at q1 q2
      exact ⟨a, by omega, q1, q2⟩
theorem BU.call {bu : Int32} {r : Nat → Nat} {j x : Nat} (hj : j < 32) (hx : x < 7) (h : BU bu r j) : BU ((bu ||| ((1 : Int32) <<< (nI j &&& 31))) ||| ((1 : Int32) <<< (nI x &&& 31))) (rput r j x) (j + 1) := fun b hb => by
  rw [b_orsh (by omega) hb, b_orsh hj hb, h b hb]
  constructor
  · rintro ((⟨a, ha, q1, q2⟩ | e) | e)
    · exact ⟨a, by omega, by rw [rput_lt a ha]; exact q1, by rw [rput_lt a ha]; exact q2⟩
    · exact ⟨j, by omega, by rw [rput_eq]; omega, Or.inl e.symm⟩
    · exact ⟨j, by omega, by rw [rput_eq]; omega, Or.inr (by rw [rput_eq]; exact e.symm)⟩
  · rintro ⟨a, ha, q1, q2⟩
    by_cases e : a = j
    · rw [e, rput_eq] at q2
      rcases q2 with q2 | q2
      · exact Or.inl (Or.inr q2.symm)
      · exact Or.inr q2.symm
    · rw [rput_ne e] at q1 q2
      exact Or.inl (Or.inl ⟨a, by omega, q1, q2⟩)
section
variable {p b : Nat} {ch : Nat → Int32} {kw an oz : Int32} {rD : Nat → Int32} {i : Nat} {MC : Nat → Nat → Int32} {ND : NDT} {T : Nat → Int32 → Prop} {Mm : (Nat → Int32) → Prop}
/-- whom one may call in a row, as the reference looks at it -/
def CHK (p : Nat) (ch : Nat → Int32) (kw an : Int32) (MC : Nat → Nat → Int32) : Prop := ∀ a c : Nat, a < p → c < p → (bt (ch a) c = true ↔ bt kw a = true ∧ bt an a = false ∧ ¬ MC a c = 0 ∧ bt an c = false ∧ bt kw c = false)
end
/-! hours by any rows -/
section
variable (p : Nat) (zd zt zm : Int32) (cA : Nat → Int32)
/-- a state as the reference has it: told once are deaf ones alone -/
def GD2 (zd k o : Int32) : Prop := s7 k ∧ s7 o ∧ k &&& o = 0 ∧ ∀ i : Nat, i < 32 → bt o i = true → bt zd i = true
end
section
variable {p : Nat} {zd zt zm : Int32} {cA : Nat → Int32}
theorem aft_ref {k o C : Int32} (hg : GD2 zd k o) (hC : s7 C) (hd : ∀ i : Nat, i < 32 → bt C i = true → bt k i = false) : F_X7_stateAfter zd (F_X7_state k o) C = F_X7_state (k ||| ((C &&& (k ^^^ (-1 : Int32))) &&& ((zd ^^^ (-1 : Int32)) ||| o))) (((o ||| (C &&& (k ^^^ (-1 : Int32)))) &&& zd) &&& ((k ||| ((C &&& (k ^^^ (-1 : Int32))) &&& ((zd ^^^ (-1 : Int32)) ||| o))) ^^^ (-1 : Int32))) ∧ GD2 zd (k ||| ((C &&& (k ^^^ (-1 : Int32))) &&& ((zd ^^^ (-1 : Int32)) ||| o))) (((o ||| (C &&& (k ^^^ (-1 : Int32)))) &&& zd) &&& ((k ||| ((C &&& (k ^^^ (-1 : Int32))) &&& ((zd ^^^ (-1 : Int32)) ||| o))) ^^^ (-1 : Int32))) := by
  obtain ⟨hk, ho, hko, hod⟩ := hg
  have e1 : C &&& (k ^^^ (-1 : Int32)) = C := b_ext fun i hi => by
    rw [b_and, b_nt _ hi]
    cases q : bt C i with
    | false => rfl
    | true => rw [hd i hi q]; rfl
  rw [e1]
  have eK : k ||| (C &&& F_X7_understands zd (F_X7_state k o)) = k ||| (C &&& ((zd ^^^ (-1 : Int32)) ||| o)) := by
    unfold F_X7_understands
    rw [st_on hk ho]
  refine ⟨?_, s7_or hk (s7_al hC), s7_al (s7_al (s7_or ho hC)), ?_, fun i hi q => ?_⟩
  · unfold F_X7_stateAfter
    rw [st_kn hk, st_on hk ho, eK]
    refine congrArg _ (b_ext fun i hi => ?_)
    rw [b_and, b_and, b_and, b_or, b_nt _ hi, b_or, b_and, b_or, b_nt _ hi]
    have h1 := hod i hi
    revert h1
    cases bt o i <;> cases bt C i <;> cases bt k i <;> cases bt zd i <;> simp
  · refine b_ext fun i hi => ?_
    rw [b_and, b_and, b_nt _ hi, b_0]
    cases bt (k ||| (C &&& ((zd ^^^ (-1 : Int32)) ||| o))) i <;> simp
  · rw [b_and, b_and, Bool.and_eq_true, Bool.and_eq_true] at q
    exact q.1.2
/-- what the reference's look at a row says: the class's choices -/
def CHH (p : Nat) (zt : Int32) (cA : Nat → Int32) (an : Int32) (MCh : Nat → Nat → Nat → Int32) : Prop := ∀ h a c : Nat, 1 ≤ h → h ≤ 24 → a < p → c < p → (bt (cA (h * 7 + a)) c = true ∧ bt zt c = true ↔ bt an a = false ∧ ¬ MCh h a c = 0 ∧ bt an c = false)
theorem chk_of {an : Int32} {MCh : Nat → Nat → Nat → Int32} (hp : p ≤ 7) (hH : CHH p zt cA an MCh) {h : Nat} (h1 : 1 ≤ h) (h2 : h ≤ 24) {k o : Int32} (hk : s7 k) : CHK p (chX cA (F_X7_state k o) h zt) k an (MCh h) := fun a c ha hc => by
  unfold chX
  rw [st_kn hk]
  have hH2 := hH h a c h1 h2 ha hc
  by_cases q : hasv k (nI a) = 0
  · rw [if_pos q, b_0]
    have e : bt k a = false := (hvb_0 (by omega)).mp q
    constructor
    · intro z; cases z
    · rintro ⟨z, -⟩
      rw [e] at z; cases z
  · rw [if_neg q, b_and, b_and, b_nt _ (by omega), Bool.and_eq_true, Bool.and_eq_true, Bool.not_eq_true', hH2]
    have e : bt k a = true := (bt_hasv (by omega)).mp q
    constructor
    · rintro ⟨⟨z1, z2, z3⟩, z4⟩
      exact ⟨e, z1, z2, z3, z4⟩
    · rintro ⟨-, z1, z2, z3, z4⟩
      exact ⟨⟨z1, z2, z3⟩, z4⟩
end
/-! whoever knows more can do all that one who knows less can -/
section
variable {p : Nat} {zd zt zm : Int32} {cA : Nat → Int32}
theorem ext_step {ch : Nat → Int32} (hp : p ≤ 7) (hc : ∀ a b : Nat, a < p → b < 32 → bt (ch a) b = true → b < p) {r : Nat → Nat} (hr : RWp p ch p r) (hm : ¬ rmax p ch r) : ∃ r2 : Nat → Nat, RWp p ch p r2 ∧ ctB (fun a => decide (r a = 7)) p = ctB (fun a => decide (r2 a = 7)) p + 1 ∧ ∀ i : Nat, i < 32 → bt (rset r p) i = true → bt (rset r2 p) i = true := by
  have hle : ∀ a : Nat, a < p → r a ≤ 7 := fun a ha => hr.le hp ha
  have h1 : ∃ a : Nat, a < p ∧ r a = 7 ∧ ¬ ch a &&& (rset r p ^^^ (-1 : Int32)) = 0 := by
    refine Classical.byContradiction fun z => hm fun a ha e => ?_
    by_cases q : ch a &&& (rset r p ^^^ (-1 : Int32)) = 0
    · exact q
    · exact absurd ⟨a, ha, e, q⟩ z
  obtain ⟨a, ha, e7, hne⟩ := h1
  have h2 : ∃ c : Nat, c < 32 ∧ bt (ch a) c = true ∧ bt (rset r p) c = false := by
    refine Classical.byContradiction fun z => hne (b_ext fun i hi => ?_)
    rw [b_and, b_nt _ hi, b_0]
    cases q1 : bt (ch a) i with
    | false => rfl
    | true =>
      cases q2 : bt (rset r p) i with
      | true => rfl
      | false => exact absurd ⟨i, hi, q1, q2⟩ z
  obtain ⟨c, hc32, q1, q2⟩ := h2
  have hcp := hc a c ha hc32 q1
  have hfree : ∀ x : Nat, x < p → ¬ r x = c := fun x hx e => by
    have := (rset_bit p hle c hc32).mpr ⟨x, hx, e, by omega⟩
    rw [q2] at this; cases this
  have hr2 : RWp p ch p (rput r a c) := fun x hx => by
    by_cases e : x = a
    · rw [e, rput_eq]
      exact Or.inr ⟨hcp, q1, fun y hy => by rw [rput_ne (by omega)]; exact hfree y (by omega)⟩
    · rw [rput_ne e]
      rcases hr x hx with z | ⟨z1, z2, z3⟩
      · exact Or.inl z
      · refine Or.inr ⟨z1, z2, fun y hy => ?_⟩
        by_cases e2 : y = a
        · rw [e2, rput_eq]
          exact fun w => hfree x hx w.symm
        · rw [rput_ne e2]; exact z3 y hy
  refine ⟨rput r a c, hr2, ctB_put (s := a) (decide_eq_false (by rw [rput_eq]; omega)) (decide_eq_true e7) (fun x hx => by rw [rput_ne hx]) p ha, fun i hi q => ?_⟩
  obtain ⟨x, hx, w1, w2⟩ := (rset_bit p hle i hi).mp q
  have hxa : ¬ x = a := fun e => w2 (by rw [e]; exact e7)
  exact (rset_bit p (fun x hx => hr2.le hp hx) i hi).mpr ⟨x, hx, by rw [rput_ne hxa]; exact w1, by rw [rput_ne hxa]; exact w2⟩
theorem ext_max {ch : Nat → Int32} (hp : p ≤ 7) (hc : ∀ a b : Nat, a < p → b < 32 → bt (ch a) b = true → b < p) : ∀ (N : Nat) (r : Nat → Nat), RWp p ch p r → ctB (fun a => decide (r a = 7)) p ≤ N → ∃ r2 : Nat → Nat, RWp p ch p r2 ∧ rmax p ch r2 ∧ ∀ i : Nat, i < 32 → bt (rset r p) i = true → bt (rset r2 p) i = true
  | 0, r, hr, hN => by
    by_cases hm : rmax p ch r
    · exact ⟨r, hr, hm, fun _ _ q => q⟩
    · obtain ⟨r2, -, h2, -⟩ := ext_step hp hc hr hm
      omega
  | N + 1, r, hr, hN => by
    by_cases hm : rmax p ch r
    · exact ⟨r, hr, hm, fun _ _ q => q⟩
    · obtain ⟨r2, h1, h2, h3⟩ := ext_step hp hc hr hm
      obtain ⟨r3, g1, g2, g3⟩ := ext_max hp hc N r2 h1 (by omega)
      exact ⟨r3, g1, g2, fun i hi q => g3 i hi (h3 i hi q)⟩
/-- a row without the calls to those of a set -/
def rcut (k : Int32) (r : Nat → Nat) : Nat → Nat := fun a => if bt k (r a) = true then 7 else r a
theorem rcut_7 {k : Int32} {r : Nat → Nat} {a : Nat} (h : bt k (r a) = true) : rcut k r a = 7 := if_pos h
theorem rcut_r {k : Int32} {r : Nat → Nat} {a : Nat} (h : ¬ bt k (r a) = true) : rcut k r a = r a := if_neg h
def LEs (x y : Int32) : Prop := (∀ i : Nat, i < 32 → bt (F_X7_knownIn x) i = true → bt (F_X7_knownIn y) i = true) ∧ ∀ i : Nat, i < 32 → bt (F_X7_onceIn x) i = true → bt (F_X7_knownIn y) i = true ∨ bt (F_X7_onceIn y) i = true
def DX (p : Nat) (zd zt zm : Int32) (cA : Nat → Int32) : Nat → Nat → Int32 → Prop
  | 0, _, x => ¬ F_X7_isDone zm (F_X7_knownIn x) = 0
  | n + 1, h, x => ∃ C : Int32, SetOf p (chX cA x h zt) C ∧ DX p zd zt zm cA n (h + 1) (F_X7_stateAfter zd x C)
end
