section
variable {g : GG} {d : Nat} {M : MD} {ad : AD} {x m : VM} {kc ks pc n0 : Nat} {L : List (Option Value)} {rest : List Value} {Q : Option Value → Heap → Prop}
theorem nw8_s {x : VM} {p : Nat} {a1 a2 a3 : Int32} : (nw8 x p a1 a2 a3).2.2.2 (20 + p) = x.2.2.2 (20 + p) + 1 := if_pos rfl
theorem nw8_n {x : VM} {p k : Nat} {a1 a2 a3 : Int32} (h : k ≠ 20 + p) : (nw8 x p a1 a2 a3).2.2.2 k = x.2.2.2 k := if_neg h
theorem y_into8 {p : Nat} (a1 a2 a3 : Int32) (hdg : decode M.2.1 pc = .ok (.aastore, 1)) (hK : KX x) (hp : p < x.2.2.2 5) (hlt : x.2.2.2 (20 + p) < 8) (kk : Ev g d M (Rep g (adN ad 8 (8 * p + x.2.2.2 (20 + p)) n0 ap8) (nw8 x p a1 a2 a3) m) kc ks (pc + 1) L rest Q) : Ev g d M (CK g (Rep g ad x m) n0 (z8 n0 a1 a2 a3)) kc ks pc L (.ref (n0 + 0) :: .int (x.1 502 p) :: .ref (ad 1501 p) :: rest) Q := by
  have hi : (x.1 502 p).toNatClampNeg = x.2.2.2 (20 + p) := by rw [(hK.2.2.2 p hp).1, nI_clamp (by omega)]
  have hin : vp_in (x.1 502 p) 8 := by rw [(hK.2.2.2 p hp).1]; exact nI_in hlt (by decide)
  have hp8 : x.2.2.2 5 ≤ 8 := hK.2.1.2
  refine y_aast (x' := nw8 x p a1 a2 a3) (c0 := 8) (i0 := 8 * p + x.2.2.2 (20 + p)) (cK := 5) (kK := 1) (iK := p) (nf := 9) (n := 8) (V := o8_9 n0 a1 a2 a3) (ap := ap8) (f := fun j => if j < x.2.2.2 (20 + p) then some (ad 8 (8 * p + j)) else none) hdg rfl hin rfl rfl ?_ ⟨by decide, by decide⟩ (lv_c5.mpr hp) (by omega) (by decide) (by decide) ?_ ?_ rfl rfl rfl ?_ ?_ ?_ ?_ ?_ ?_ ?_ kk
  · show ((8, .inr (.inr (.inr (.inr (fun j => if j < (nw8 x p a1 a2 a3).2.2.2 (20 + p) then some (adN ad 8 (8 * p + x.2.2.2 (20 + p)) n0 ap8 8 (8 * p + j)) else none))))) : vp_A) = _
    rw [nw8_s, up_more (A := fun j => ad 8 (8 * p + j)) (A' := fun j => adN ad 8 (8 * p + x.2.2.2 (20 + p)) n0 ap8 8 (8 * p + j)) hi adN_o (fun j hj => adN_oo (by omega) (by omega))]
  · intro h
    have h2 := (lv_c8.mp h).2
    rw [show (8 * p + x.2.2.2 (20 + p)) / 8 = p by omega] at h2
    omega
  · intro c i
    by_cases e1 : c = 1
    · subst e1
      rw [lv_c1, lv_c1, nw8_n (by omega)]
      omega
    by_cases e4 : c = 4
    · subst e4
      rw [lv_c4, lv_c4, nw8_n (by omega)]
      omega
    by_cases e5 : c = 5
    · subst e5
      rw [lv_c5, lv_c5, nw8_n (by omega)]
      omega
    by_cases e8 : c = 8
    · subst e8
      rw [lv_c8, lv_c8, nw8_n (k := 5) (by omega)]
      by_cases e : i / 8 = p
      · rw [e, nw8_s]
        omega
      · rw [nw8_n (by omega)]
        omega
    exact (lv_oth e1 e4 e5 e8).trans ⟨Or.inl, fun h => h.resolve_right (fun q => e8 q.1)⟩
  · exact fun k hk => by unfold nw8; rw [fv_new (by omega) (nwf8 k hk)]; exact nwo8 n0 a1 a2 a3 k hk
  · exact fun k ha => ⟨(nwa8 n0 a1 a2 a3 k (isA_n ha rfl) ha).1, by unfold nw8; rw [acn_new (by omega) ha (fun h => absurd h (by decide))]; exact (nwa8 n0 a1 a2 a3 k (isA_n ha rfl) ha).2⟩
  · exact fun k j hk hj e => nwj8 k (isA_n hk rfl) j (isA_n hj rfl) hk hj e
  · exact fun c k i _ hk hne => nwV_I hk hne
  · intro c k i ha h12 hne hnK hl
    refine acn_old ha hne (fun h5 => ?_)
    have hk := isA_lt ha
    refine rc_ext (fun j => adN_oo (by omega) (by omega)) (fun _ _ => ⟨nw8_n (a1 := a1) (a2 := a2) (a3 := a3) (by omega), fun j hj => adN_oo (by omega) (by omega)⟩) (fun _ _ => ⟨nw8_n (a1 := a1) (a2 := a2) (a3 := a3) (by omega), fun j hj => adN_oo (by omega) (by omega)⟩) (fun _ _ _ _ => ⟨nw8_n (a1 := a1) (a2 := a2) (a3 := a3) (by omega), fun j hj => adN_oo (by omega) (by omega)⟩) (fun c5 => ?_)
    subst c5
    have hip : i < x.2.2.2 5 := lv_c5.mp hl
    have hk1 : k = 1 := by rcases ft5 5 hk.2 k hk.1 h5 with q | q <;> omega
    have hne2 : i ≠ p := fun q => hnK ⟨rfl, hk1, q⟩
    have h8 := (hK.2.2.2 i hip).2
    exact ⟨nw8_n (a1 := a1) (a2 := a2) (a3 := a3) (by omega), fun j hj => adN_oo (by omega) (by omega)⟩
  · exact nw8_n (by omega)
  · exact fun h => absurd h (by decide)
end
