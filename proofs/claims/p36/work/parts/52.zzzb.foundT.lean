/-! the lowest rows by which a news is done in the least hours, as the class finds them -/
section
variable {p ho : Nat} {zd zt zm : Int32} {cA pw gd : Nat → Int32}
end
section
variable {p ho : Nat} {zd zt zm : Int32} {cA pw sa ct : Nat → Int32} {s0 : Int32}
theorem be_LSV {pw nx : Nat → Int32} (hpw : PWT pw) {x y : Int32} (h0 : GS (F_X7_state x y)) : LSV pw (F_X7_begin pw nx x y).1 (F_X7_begin pw nx x y).2.1 (F_X7_begin pw nx x y).2.2 0 (fun z => z = F_X7_state x y) := by
  unfold F_X7_begin
  dsimp only
  have a := ar_LS (hs := 0) hpw (by omega) (fun z hz => hz.elim) h0 (LS_none (pw := pw) (hs := 0) (ct := fun _ => 0) (nx := nx) (fun q _ => b_0 _))
  rw [show nI 0 = (0 : Int32) from rfl] at a
  exact LSV.iff a fun z => ⟨fun a => a.elim (fun b => b.elim) id, Or.inr⟩
theorem be_bits {pw nx : Nat → Int32} {x y : Int32} (q : Nat) {t : Nat} (ht : t < 32) (hne : ¬ t = 0) : bt ((F_X7_begin pw nx x y).1 q) t = false := by
  unfold F_X7_begin
  dsimp only
  have a := ar_bits (zc := 0) (pw := pw) (ct := fun _ => 0) (nx := nx) (x := F_X7_state x y) (hs := 0) (by omega) (q := q) ht hne
  rw [show nI 0 = (0 : Int32) from rfl] at a
  rw [a]
  exact b_0 _
/-- the rows that are taken, hour by hour: where one comes to, the last row -/
def PTH (p ho : Nat) (zd zt zm : Int32) (cA : Nat → Int32) (s0 : Int32) (N : Nat) : Nat → Int32 → (Nat → Nat) → Prop
  | 0 => fun y r => First p (chX cA s0 ho zt) (MQX p (chX cA s0 ho zt) (fun s => DX p zd zt zm cA (N - 1) (ho + 1) (F_X7_stateAfter zd s0 s))) 0 (fun _ => 7) r ∧ y = F_X7_stateAfter zd s0 (rset r p)
  | j + 1 => fun y r => ∃ x r0, PTH p ho zd zt zm cA s0 N j x r0 ∧ First p (chX cA x (ho + (j + 1)) zt) (MQX p (chX cA x (ho + (j + 1)) zt) (fun s => DX p zd zt zm cA (N - (j + 1) - 1) (ho + (j + 1) + 1) (F_X7_stateAfter zd x s))) 0 (fun _ => 7) r ∧ y = F_X7_stateAfter zd x (rset r p)
theorem pth_uniq {N : Nat} : ∀ (j : Nat) (y y2 : Int32) (r r2 : Nat → Nat), PTH p ho zd zt zm cA s0 N j y r → PTH p ho zd zt zm cA s0 N j y2 r2 → y = y2 ∧ ∀ a : Nat, a < p → r a = r2 a
  | 0, y, y2, r, r2, ⟨h1, h2⟩, ⟨k1, k2⟩ => by
    have e := h1.uniq k1
    exact ⟨by rw [h2, k2, rset_cong p fun a ha => (e a ha)], e⟩
  | j + 1, y, y2, r, r2, ⟨x, r0, a1, h1, h2⟩, ⟨x', r0', b1, k1, k2⟩ => by
    obtain ⟨e0, -⟩ := pth_uniq j x x' r0 r0' a1 b1
    subst e0
    have e := h1.uniq k1
    exact ⟨by rw [h2, k2, rset_cong p fun a ha => (e a ha)], e⟩
end
