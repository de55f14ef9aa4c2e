/-! the law's rows, with what the valleys hold on both sides -/
theorem EX.and {l : Launch} {g : GG} {y : MethodName} {c : ByteArray} {n : Nat} {r : Option FieldType} {sp : SPEC} {Γ : Nat → Nat} {As : List Value} {Pre Pre2 : Heap → Prop} {Post Post2 : Heap → Value → Heap → Prop} (h1 : EX l g y c n r sp Γ As Pre Post) (h2 : EX l g y c n r sp Γ As Pre2 Post2) : EX l g y c n r sp Γ As (fun H => Pre H ∧ Pre2 H) (fun H v H1 => Post H v H1 ∧ Post2 H v H1) := by
  intro p e a1 a2 a3 s m args below b1 b2 b3 b4
  obtain ⟨ea, hS, hP1, hP2⟩ := b3
  obtain ⟨k, o, c1, c2, c3, c4, L, c5, c6⟩ := h1 p e a1 a2 a3 s m args below b1 b2 ⟨ea, hS, hP1⟩ b4
  obtain ⟨k', o', d1, d2, d3, d4, -⟩ := h2 p e a1 a2 a3 s m args below b1 b2 ⟨ea, hS, hP2⟩ b4
  have hk : k = k' := by
    rcases Nat.lt_trichotomy k k' with h | h | h
    · exact absurd (d1 k h) c3.not_within
    · exact h
    · exact absurd (c1 k' h) d3.not_within
  subst hk
  have ho := c3.outcome_unique d3
  subst ho
  exact ⟨k, o, c1, c2, c3, ⟨c4.1, fun v hv => ⟨c4.2 v hv, d4.2 v hv⟩⟩, L, c5, c6⟩
theorem EG.and {l : Launch} {g : GG} {y : MethodName} {c : ByteArray} {n d mc ms x0 m0 : Nat} {Γ : Nat → Nat} {As : List Value} {Pre Pre2 : Heap → Prop} {Post Post2 : Heap → Value → Heap → Prop} (h1 : EG l g y c n d mc ms x0 m0 Γ As Pre Post) (h2 : EG l g y c n d mc ms x0 m0 Γ As Pre2 Post2) : EG l g y c n d mc ms x0 m0 Γ As (fun H => Pre H ∧ Pre2 H) (fun H v H1 => Post H v H1 ∧ Post2 H v H1) := by
  intro sz p e a1 a2 a3 s m args below b1 b2 b3 b4
  obtain ⟨ea, hS, hP1, hP2⟩ := b3
  obtain ⟨k, o, c1, c2, c3, c4, L, c5, c6⟩ := h1 sz p e a1 a2 a3 s m args below b1 b2 ⟨ea, hS, hP1⟩ b4
  obtain ⟨k', o', d1, d2, d3, d4, -⟩ := h2 sz p e a1 a2 a3 s m args below b1 b2 ⟨ea, hS, hP2⟩ b4
  have hk : k = k' := by
    rcases Nat.lt_trichotomy k k' with h | h | h
    · exact absurd (d1 k h) c3.not_within
    · exact h
    · exact absurd (c1 k' h) d3.not_within
  subst hk
  have ho := c3.outcome_unique d3
  subst ho
  exact ⟨k, o, c1, c2, c3, ⟨c4.1, fun v hv => ⟨c4.2 v hv, d4.2 v hv⟩⟩, L, c5, c6⟩
def LGV (p : Program) (l : Launch) (e : Env) (s : State) (m : MethodId) (b : Nat) (below : List Frame) (meth : Method) (c : Code) (g : GG) (x0 m0 o0 i C S : Nat) : Prop := ∀ (Γ : Nat → Nat) (H : Heap) (locs : List Loc) (ls : Array Slot) (cells slots : Nat) (q : RLT) (V : Nat → VV), cells ≤ C → slots ≤ S → LWS g x0 m0 o0 s Γ H locs → RLW q → R1c g x0 q H → RCV g x0 q.2.2.1 V H → R1m g m0 q H → RRV g m0 q.2.2.1 V H → lv_has ls 7 (LO b x0 m0 o0 i) → W p l e room_1 s m #[Value.ref b] below meth c H locs cells slots (lw_Z below #[Value.ref b] s) (F0 m 1836 ls [])
theorem vlQ_nv {q : RLT} : (vlQ q).2.2.1 = vlM q.1 (ub q.2.1) q.2.2.1 := by
  unfold vlQ vlM
  split <;> rfl
theorem plQ_nv {q : RLT} {x : Int32} : (plQ q x).2.2.1 = q.2.2.1 := by
  unfold plQ
  split <;> rfl
theorem vlM_le {q : RLT} (h : RLW q) : vlM q.1 (ub q.2.1) q.2.2.1 ≤ 10 := by
  rw [← vlQ_nv]; exact (vlQ_w h).2.1
def VV0 : VV := (0, 0, 0, fun _ => 0, fun _ => 0, fun _ => 0, fun _ => 0, fun _ => 0, fun _ => 0, fun _ => 0)
