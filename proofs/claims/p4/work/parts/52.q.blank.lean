/-- the element of a row of references keeps to its tag -/
theorem RFA_tag {g : GG} {Γ : Nat → Nat} {H : Heap} {q t k n u : Nat} {f : Nat → Option Nat} (hT : HT g TS0 Γ H) (hq : Γ q = t) (h0 : t ≠ 0) (ht : TS0.1 t = .inr (k, n, vn u)) (hk : k = 4 ∨ k = 5) (h : RFA g q k n f H) {j a : Nat} (hj : j < n) (hf : f j = some a) : Γ a = u ∧ Γ a ≠ 0 := by
  obtain ⟨⟨n', x⟩, hP, hn, hA⟩ := h_at hT (by rw [hq]; exact h0) ((congrArg TS0.1 hq).trans ht)
  have hn : n' = n := hn
  subst hn
  have h1 := hP 0 _ rfl
  rcases x with x | x | x | x | x
  · have hA := hA.1
    omega
  · have hA : k = 2 := hA
    omega
  · exact hA.elim
  · exact hA.elim
  · have e : arrV (g.2.1 k) n' (fun j => va_rf (f j)) = arrV (g.2.1 k) n' (fun j => va_rf (x j)) := Option.some.inj ((show H[q]? = some _ from h).symm.trans h1)
    have r1 := arrV_read (g.2.1 k) (fun j => va_rf (f j)) hj
    have r2 := arrV_read (g.2.1 k) (fun j => va_rf (x j)) hj
    rw [e, r2] at r1
    have e2 : va_rf (x j) = .ref a := (Option.some.inj r1).trans (by rw [hf]; rfl)
    have h3 := hA.2 j hj
    rw [e2] at h3
    rcases avi_nr h3 with ⟨y, hy, h4, h5⟩ | hy
    · cases hy; exact ⟨h4, h5⟩
    · cases hy
/-- what blank answers -/
def blA (nv : Nat) (x : Int32) : Int32 := if F_X12_isValley nv x = 0 then 0 else 1
section
variable {l : Launch} {g : GG} {Γ : Nat → Nat} {x0 m0 n nv np : Nat} {fb : Nat → Int32}
set_option maxHeartbeats 4000000 in
theorem E11_blank (hU : UQ TS0 Γ) (hnv : nv ≤ 10) (tx : Γ x0 = 1) (p0 : Int32) : EX l g yX11_blank cX11_blank 3 (some .boolean) pX11_blank_0 Γ [.ref x0, .int p0] (RC1 g x0 n fb nv np) (fun _ v H1 => v = .int (blA nv p0) ∧ RC1 g x0 n fb nv np H1) :=
  EX_of (SX11_blank_0 l g) hU ⟨av_ref tx (by decide), avi_top _, trivial⟩ rfl fun H hT hR => by
    obtain ⟨t0, tq, va, pa, sp, fA, fB, ⟨e0, eq, ea, ep, es⟩, h0, h1, h2, h3, h4, h5, h6, h7, h8, h9, h10, h11, h12, h13⟩ := hR.tags hT tx
    obtain ⟨c3, c4, c5, c6, c7, c8, c9, cc, A0⟩ := DV1 hT tx h0 h1 h2 h3 h4 h5
    rcases vin_cases (n := nv) (by omega) p0 with hb | ⟨i, hi, rfl⟩
    · refine ⟨1, _, _, by decide, K_X11_blank0 l g x0 t0 va pa c3 c4 c5 c6 c7 c8 c9 sp nv np cc fA p0 hb, vaP_cons A0 (vaP_cons h9 vaP_nil), D_tags (tl := [1, 20]) (by show [Γ x0, Γ va] = _; rw [tx, ea]) (by decide) (by decide), fun x u H1 hp hP hz hk hT1 hun => ?_⟩
      obtain ⟨rfl, rfl⟩ := hp
      refine ⟨congrArg Value.int ?_, hR.keep hT tx hun rfl⟩
      show (0 : Int32) = _
      rw [blA, if_pos (rv_no hb)]
    · obtain ⟨v, hv⟩ := h10 i hi
      have tv := (RFA_tag hT ea (by decide) rfl (Or.inl rfl) h9 (by omega) hv).1
      obtain ⟨pe, lc, de, v3, v4, v5, v6, v7, v8, v9, v10, v11, v12, v13, gl, v15, A1, -, t3, t4, t5, t6, t7, t8, t9, t10, t11, t12, t13, t15⟩ := DV3 hT tv
      obtain ⟨cl, B12⟩ := ints_of hT t12 (by decide) rfl
      refine ⟨2, _, _, by decide, K_X11_blank1 l g x0 t0 va pa c3 c4 c5 c6 c7 c8 c9 sp nv np cc fA i v v3 v4 v5 v6 v7 v8 v9 v10 v11 v12 v13 v15 pe lc de gl cl hi hnv hv, vaP_cons A0 (vaP_cons h9 (vaP_cons A1 (vaP_cons B12 vaP_nil))), D_tags (tl := [1, 20, 3, 28]) (by show [Γ x0, Γ va, Γ v, Γ v12] = _; rw [tx, ea, tv, t12]) (by decide) (by decide), fun x u H1 hp hP hz hk hT1 hun => ?_⟩
      obtain ⟨rfl, rfl⟩ := hp
      refine ⟨congrArg Value.int ?_, hR.keep hT tx hun rfl⟩
      show (1 : Int32) = _
      rw [blA, if_neg (by rw [rv_ok (by omega) hi]; decide)]
set_option maxHeartbeats 4000000 in
theorem E12_blank (hU : UQ TS0 Γ) (hnv : nv ≤ 10) (tm : Γ m0 = 60) (p0 : Int32) : EX l g yX12_blank cX12_blank 3 (some .boolean) pX12_blank_0 Γ [.ref m0, .int p0] (RR1 g m0 n fb nv np) (fun _ v H1 => v = .int (blA nv p0) ∧ RR1 g m0 n fb nv np H1) :=
  EX_of (SX12_blank_0 l g) hU ⟨av_ref tm (by decide), avi_top _, trivial⟩ rfl fun H hT hR => by
    obtain ⟨tr, er, h1, h2, h3, h4, h5⟩ := hR.tags hT tm
    obtain ⟨ws, A0, hv⟩ := h_obj hT (by rw [tm]; decide) ((congrArg TS0.1 tm).trans rfl)
    have hk := KV_of hv
    have hlen := KV_len hk
    have F1 := at_fe (k := 1) A0 rfl (by rw [hlen]; decide) h1
    have F2 := at_fe (k := 2) A0 rfl (by rw [hlen]; decide) h2
    have F18 := at_fe (k := 18) A0 rfl (by rw [hlen]; decide) h3
    have F27 := at_fe (k := 27) A0 rfl (by rw [hlen]; decide) h4
    obtain ⟨w53, F53, a53⟩ := hv.get (k := 53) rfl
    obtain ⟨b53, rfl, t53, -⟩ := avi_ref rfl a53
    have t53 : Γ b53 = 89 := t53
    obtain ⟨f53, B53⟩ := ints_of hT t53 (by decide) rfl
    refine ⟨1, _, _, by decide, K_X12_blank l g m0 ws nv b53 f53 p0 hlen F18 F53 hnv, vaP_cons A0 (vaP_cons B53 vaP_nil), D_tags (tl := [60, 89]) (by show [Γ m0, Γ b53] = _; rw [tm, t53]) (by decide) (by decide), fun x u H1 hp hP hz hk hT1 hun => ?_⟩
    obtain ⟨rfl, rfl⟩ := hp
    refine ⟨congrArg Value.int ?_, hR.keep hT tm hun rfl⟩
    unfold F_X12_blank blA
    split <;> rfl
end