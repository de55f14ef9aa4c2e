abbrev NDT : Type := Int32 → Int32 → (Nat → Int32) → Int32 × (Nat → Int32)
theorem MetI.up {l : Launch} {g : GG} {y : MethodName} {cc : ByteArray} {n : Nat} {r : Option FieldType} {d d' : Nat} {As : List Value} {ws : va_W} {post : Int32 → va_W → Prop} (h : MetI l g y cc n r d 0 0 As ws post) (hd : d ≤ d') : MetI l g y cc n r d' 0 0 As ws post := fun sz => h.grow hd (Nat.le_refl _) (Nat.le_refl _) sz
theorem news_ok {ni : Nat} (h : ni < 4) : ¬ F_X12_isNews (nI ni) = 0 := (by decide +kernel : ∀ k : Nat, k < 4 → ¬ F_X12_isNews (nI k) = 0) ni h
theorem ask_ok {nv i ni : Nat} (hn : nv ≤ 10) (hv : i < nv) (hni : ni < 4) : ¬ F_X12_isAsked nv (nI i) (nI ni) = 0 := by
  unfold F_X12_isAsked
  rw [if_neg (show ¬ F_X12_isValley nv (nI i) = 0 from by rw [rv_ok (by omega) hv]; decide), if_neg (news_ok hni)]
  decide
