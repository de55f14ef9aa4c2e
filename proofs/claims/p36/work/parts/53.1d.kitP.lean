/-! the law's rows, with what the plans hold on both sides -/
def LGP (p : Program) (l : Launch) (e : Env) (s : State) (m : MethodId) (b : Nat) (below : List Frame) (meth : Method) (c : Code) (g : GG) (x0 m0 o0 i C S : Nat) : Prop := ∀ (Γ : Nat → Nat) (H : Heap) (locs : List Loc) (ls : Array Slot) (cells slots : Nat) (q : RLT) (V : Nat → VV) (P : Nat → PP), cells ≤ C → slots ≤ S → LWS g x0 m0 o0 s Γ H locs → RLW q → R1c g x0 q H → RCV g x0 q.2.2.1 V H → RCP g x0 q.2.2.2 P H → R1m g m0 q H → RRV g m0 q.2.2.1 V H → RRP g m0 q.2.2.2 P H → RMM g m0 H → RYK g x0 H → PLX q.2.2.1 V q.2.2.2 P → lv_has ls 7 (LO b x0 m0 o0 i) → W p l e room_1 s m #[Value.ref b] below meth c H locs cells slots (lw_Z below #[Value.ref b] s) (F0 m 1836 ls [])
theorem vlQ_np {q : RLT} : (vlQ q).2.2.2 = q.2.2.2 := by
  unfold vlQ
  split <;> rfl
theorem plQ_np {q : RLT} {x : Int32} : (plQ q x).2.2.2 = pNum q.2.2.1 q.2.2.2 x := by
  unfold plQ pNum
  split <;> rfl
theorem pNum_le {nv np : Nat} {x : Int32} (h : np ≤ 12) : pNum nv np x ≤ 12 := by
  unfold pNum
  split
  · rename_i h2
    exact h2.2
  · exact h
theorem plw_vlr {n nv np : Nat} {f : Nat → Int32} {V V' : Nat → VV} {P : Nat → PP} (h : PLW nv V np P) (hv : VLR n f nv V V') : PLW (vlM n f nv) V' np P := by
  rcases hv with ⟨h1, w, -, rfl⟩ | ⟨h1, rfl⟩
  · rw [vlM_y h1]; exact plw_more h (Nat.le_succ _)
  · rw [vlM_n h1]; exact h
def PP0 : PP := pZero 0
