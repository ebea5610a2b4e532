/-! THE PURE PART: the desk is made -/
section DK
variable {L : Nat} {xs : Nat → Int32}
def D8pre (x0 : Nat) (σ : mS) (f : mS → Option mS) : Option mS :=
  (tgN x0).bind fun _ =>
  (nwA σ 0 1000).bind fun s1 =>
  (pR s1 x0 7 0 (32 + mN σ)).bind fun s2 =>
  (nwO s2 5 11).bind fun s3 =>
  (tgN (32 + mN s2)).bind fun _ =>
  (D_X5_init (32 + mN s2) s3).bind fun r4 =>
  (pR r4 x0 7 1 (32 + mN s2)).bind fun s5 =>
  (nwA s5 4 12).bind fun s6 =>
  (pR s6 x0 7 2 (32 + mN s5)).bind fun s7 =>
  (pI s7 x0 7 3 0).bind fun s8 =>
  (nwA s8 0 500).bind fun s9 =>
  (pR s9 x0 7 4 (32 + mN s8)).bind fun s10 =>
  (pI s10 x0 7 5 0).bind fun s11 =>
  (pI s11 x0 7 6 ((-1))).bind fun s12 =>
  (nwA s12 0 3).bind fun s13 =>
  (pR s13 x0 7 7 (32 + mN s12)).bind fun s14 =>
  (nwO s14 2 12).bind fun s15 =>
  (gR s15 x0 7 4).bind fun v16 =>
  (tgN (32 + mN s14)).bind fun _ =>
  (D_X2_init (32 + mN s14) v16 s15).bind fun r17 =>
  (pR r17 x0 7 8 (32 + mN s14)).bind fun s18 =>
  (nwO s18 0 15).bind fun s19 =>
  (gR s19 x0 7 1).bind fun v20 =>
  (gR s19 x0 7 0).bind fun v21 =>
  (tgN (32 + mN s18)).bind fun _ =>
  (D_X0_init (32 + mN s18) v20 v21 s19).bind fun r22 =>
  (pR r22 x0 7 9 (32 + mN s18)).bind fun s23 =>
  (nwO s23 0 15).bind fun s24 =>
  (gR s24 x0 7 1).bind fun v25 =>
  (gR s24 x0 7 0).bind fun v26 =>
  (tgN (32 + mN s23)).bind fun _ =>
  (D_X0_init (32 + mN s23) v25 v26 s24).bind fun r27 =>
  (pR r27 x0 7 10 (32 + mN s23)).bind fun s28 =>
  (nwO s28 6 8).bind fun s29 =>
  (gR s29 x0 7 1).bind fun v30 =>
  (gR s29 x0 7 9).bind fun v31 =>
  (tgN (32 + mN s28)).bind fun _ =>
  (D_X6_init (32 + mN s28) v30 v31 s29).bind fun r32 =>
  (pR r32 x0 7 11 (32 + mN s28)).bind fun s33 =>
  f s33
def D8tail (x0 : Nat) (r34 : mS) : Option mS :=
  (gR r34 x0 7 1).bind fun v35 =>
  (pI r34 v35 5 2 2).bind fun s36 =>
  (gR s36 x0 7 1).bind fun v37 =>
  (gR s36 v37 5 6).bind fun v38 =>
  (sI s36 v38 0 0).bind fun s39 =>
  (gR s39 x0 7 1).bind fun v40 =>
  (gR s39 v40 5 7).bind fun v41 =>
  (sI s39 v41 0 1000).bind fun s42 =>
  (gR s42 x0 7 1).bind fun v43 =>
  (gR s42 v43 5 6).bind fun v44 =>
  (sI s42 v44 1 999).bind fun s45 =>
  (gR s45 x0 7 1).bind fun v46 =>
  (gR s45 v46 5 7).bind fun v47 =>
  (sI s45 v47 1 1).bind fun s48 =>
  (gR s48 x0 7 1).bind fun v49 =>
  (gR s48 x0 7 0).bind fun v50 =>
  (tgO s48 v49 5).bind fun _ =>
  (D_X5_layAges v49 v50 s48).bind fun r51 =>
  (tgO r51 x0 7).bind fun _ =>
  (D_X8_renew x0 r51).bind fun r52 =>
  some r52
theorem D8_eq (x0 : Nat) (σ : mS) : D_X8_init x0 σ = D8pre x0 σ (fun s => (D_X8_init_138 mFU x0 0 s).bind fun r => D8tail x0 r) := rfl
/-- the ints of the desk before its past -/
def JX (xs : Nat → Int32) (A1 : Nat → Nat → Int) : Nat → Nat → Int := (u1 (u2 (u2 (u1 (u2 (u1 A1 108 0) 32 3 0) 109 0) 32 5 0) 32 6 (-1)) 110 0)
def J34 (xs : Nat → Int32) : Nat → Nat → Int := (u1 (u1 (u1 (I0 xs) 32 0) 33 0) 34 0)
set_option maxHeartbeats 4000000 in
set_option maxRecDepth 100000 in
theorem d8_pre : ∃ I A1, FB 34 (J34 xs) A1 ∧ A1 34 0 = 1 ∧ (∀ k, 1 ≤ k → k ≤ 5 → A1 34 k = 0) ∧ FB 111 (JX xs A1) I ∧ ∀ f : mS → Option mS, D8pre 32 (mNew (lwS0 L xs) 8 12) f = f (gs L 250 5763 (RD 0) I Zw) := by
  obtain ⟨A1, e1, f1, a1, a2⟩ := told_init (L := L) (m := 3) (z := 1023) (R := (u1 (u2 (u1 (u1 (fun _ _ => 0) 32 0) 33 0) 32 0 33) 34 0)) (I := (u1 (u1 (u1 (I0 xs) 32 0) 33 0) 34 0)) TB34 rfl (fun k => if_pos rfl)
  obtain ⟨A2, e2, f2⟩ := rd_init (L := L) (z := 1978) (R := (u2 (u1 (u2 (u1 (u2 (u1 (u2 (wn 34 (RR true) (u1 (u2 (u1 (u1 (fun _ _ => 0) 32 0) 33 0) 32 0 33) 34 0)) 32 1 34) 108 0) 32 2 108) 109 0) 32 4 109) 110 0) 32 7 110)) (I := (u1 (u1 (u2 (u2 (u1 (u2 (u1 A1 108 0) 32 3 0) 109 0) 32 5 0) 32 6 (-1)) 110 0) 111 0))
  obtain ⟨A3, e3, f3⟩ := nar_init1 (L := L) (z := 2448) (R := (u2 (wn 111 (RR true) (u2 (u1 (u2 (u1 (u2 (u1 (u2 (wn 34 (RR true) (u1 (u2 (u1 (u1 (fun _ _ => 0) 32 0) 33 0) 32 0 33) 34 0)) 32 1 34) 108 0) 32 2 108) 109 0) 32 4 109) 110 0) 32 7 110)) 32 8 111)) (I := (u1 A2 188 0))
  obtain ⟨A4, e4, f4⟩ := nar_init2 (L := L) (z := 3947) (R := (u2 (wn 188 (RR true) (u2 (wn 111 (RR true) (u2 (u1 (u2 (u1 (u2 (u1 (u2 (wn 34 (RR true) (u1 (u2 (u1 (u1 (fun _ _ => 0) 32 0) 33 0) 32 0 33) 34 0)) 32 1 34) 108 0) 32 2 108) 109 0) 32 4 109) 110 0) 32 7 110)) 32 8 111)) 32 9 188)) (I := (u1 A3 221 0))
  obtain ⟨A5, e5, f5⟩ := tri_init (L := L) (z := 5439) (R := (u2 (wn 221 (RR true) (u2 (wn 188 (RR true) (u2 (wn 111 (RR true) (u2 (u1 (u2 (u1 (u2 (u1 (u2 (wn 34 (RR true) (u1 (u2 (u1 (u1 (fun _ _ => 0) 32 0) 33 0) 32 0 33) 34 0)) 32 1 34) 108 0) 32 2 108) 109 0) 32 4 109) 110 0) 32 7 110)) 32 8 111)) 32 9 188)) 32 10 221)) (I := (u1 A4 254 0))
  refine ⟨A5, A1, f1, a1, a2, ?_, fun f => ?_⟩
  · refine FB_t (a' := 254) (by decide) ?_ f5
    refine FB_u1 (by decide) ?_
    refine FB_t (a' := 221) (by decide) ?_ f4
    refine FB_u1 (by decide) ?_
    refine FB_t (a' := 188) (by decide) ?_ f3
    refine FB_u1 (by decide) ?_
    refine FB_t (a' := 111) (by decide) ?_ f2
    exact FB_u1 (by decide) FB_r
  rw [lw_gs]
  unfold D8pre
  refine bdk (tgN_k (by decide)) ?_
  refine gAx hZw (Nat.zero_le _) (v := 33) (x := 1000) (m' := 2) (z' := 1012) rfl (by decide) (by decide) rfl (by decide +kernel) rfl rfl (t := 7) (n := 12) (by decide +kernel) (by decide) (by decide) ?_
  rw [show 32 + mN (gs L 2 1012 _ _ _) = 34 from rfl]
  refine bdk (g_O hZw (Nat.zero_le _) (v := 34) (m' := 3) (z' := 1023) rfl (by decide +kernel) rfl rfl) ?_
  refine bdk (tgN_k (by decide)) (bdk e1 ?_)
  refine gRx (n := 12) (by decide +kernel) (by decide) (by decide) ?_
  refine gAx hZw (Nat.zero_le _) (v := 108) (x := 12) (m' := 77) (z' := 1463) rfl (by decide) (by decide) rfl (by decide +kernel) rfl rfl (t := 7) (n := 12) (by decide +kernel) (by decide) (by decide) ?_
  refine gIx (n := 12) (by decide +kernel) (by decide) (by decide) ?_
  refine gAx hZw (Nat.zero_le _) (v := 109) (x := 500) (m' := 78) (z' := 1963) rfl (by decide) (by decide) rfl (by decide +kernel) rfl rfl (t := 7) (n := 12) (by decide +kernel) (by decide) (by decide) ?_
  refine gIx (n := 12) (by decide +kernel) (by decide) (by decide) ?_
  refine gIx (n := 12) (by decide +kernel) (by decide) (by decide) ?_
  refine gAx hZw (Nat.zero_le _) (v := 110) (x := 3) (m' := 79) (z' := 1966) rfl (by decide) (by decide) rfl (by decide +kernel) rfl rfl (t := 7) (n := 12) (by decide +kernel) (by decide) (by decide) ?_
  rw [show 32 + mN (gs L 79 1966 _ _ _) = 111 from rfl]
  refine bdk (g_O hZw (Nat.zero_le _) (v := 111) (m' := 80) (z' := 1978) rfl (by decide +kernel) rfl rfl) ?_
  refine bdk (g_gR (t := 7) (n := 12) (by decide +kernel) (by decide) (by decide)) ?_
  rw [gs_open (v := 111) (m := 80) rfl]
  refine bdk (tgN_k (by decide)) (bdk e2 ?_)
  refine gRx (n := 12) (by decide +kernel) (by decide) (by decide) ?_
  rw [show 32 + mN (gs L 156 2433 _ _ _) = 188 from rfl]
  refine bdk (g_O hZw (Nat.zero_le _) (v := 188) (m' := 157) (z' := 2448) rfl (by decide +kernel) rfl rfl) ?_
  refine bdk (g_gR (t := 7) (n := 12) (by decide +kernel) (by decide) (by decide)) ?_
  refine bdk (g_gR (t := 7) (n := 12) (by decide +kernel) (by decide) (by decide)) ?_
  rw [gs_open (v := 188) (m := 157) rfl]
  refine bdk (tgN_k (by decide)) (bdk e3 ?_)
  refine gRx (n := 12) (by decide +kernel) (by decide) (by decide) ?_
  rw [show 32 + mN (gs L 189 3932 _ _ _) = 221 from rfl]
  refine bdk (g_O hZw (Nat.zero_le _) (v := 221) (m' := 190) (z' := 3947) rfl (by decide +kernel) rfl rfl) ?_
  refine bdk (g_gR (t := 7) (n := 12) (by decide +kernel) (by decide) (by decide)) ?_
  refine bdk (g_gR (t := 7) (n := 12) (by decide +kernel) (by decide) (by decide)) ?_
  rw [gs_open (v := 221) (m := 190) rfl]
  refine bdk (tgN_k (by decide)) (bdk e4 ?_)
  refine gRx (n := 12) (by decide +kernel) (by decide) (by decide) ?_
  rw [show 32 + mN (gs L 222 5431 _ _ _) = 254 from rfl]
  refine bdk (g_O hZw (Nat.zero_le _) (v := 254) (m' := 223) (z' := 5439) rfl (by decide +kernel) rfl rfl) ?_
  refine bdk (g_gR (t := 7) (n := 12) (by decide +kernel) (by decide) (by decide)) ?_
  refine bdk (g_gR (t := 7) (n := 12) (by decide +kernel) (by decide) (by decide)) ?_
  rw [gs_open (v := 254) (m := 223) rfl]
  refine bdk (tgN_k (by decide)) (bdk e5 ?_)
  refine gRx (n := 12) (by decide +kernel) (by decide) (by decide) ?_
  exact congrArg f (gs_cong (tab_eq (lo := 32) (hi := 282) (by repeat (first | exact Z64_z | exact Z64_RR | refine Z64_u1 ?_ | refine Z64_u2 ?_ (by decide) | refine Z64_rM ?_ (by decide) | refine Z64_wn Z64_RR ?_)) (Z64_RD (by decide)) (by decide +kernel)))
theorem d8_138 {I0 : Nat → Nat → Int} : ∀ (d j f : Nat) (I : Nat → Nat → Int), j + d = 12 → d < f → FB 282 I0 I → ∃ I', D_X8_init_138 f 32 (j : Nat) (gs L (250 + 74 * j) (5763 + 439 * j) (RD j) I Zw) = some (gs L 1138 11031 (RD 12) I' Zw) ∧ FB 282 I0 I' := by
  intro d
  induction d with
  | zero =>
    intro j f I hj hf h0
    obtain ⟨f, rfl⟩ : ∃ g, f = g + 1 := ⟨f - 1, by omega⟩
    have e : j = 12 := by omega
    subst e
    exact ⟨I, if_pos (by omega), h0⟩
  | succ d ih =>
    intro j f I hj hf h0
    obtain ⟨f, rfl⟩ : ∃ g, f = g + 1 := ⟨f - 1, by omega⟩
    have hTB := TBp (k := j) (by omega)
    obtain ⟨A, e1, f1, -, -⟩ := told_init (L := L) (m := 251 + 74 * j) (z := 5763 + 439 * j + 11) (R := u1 (RD j) (282 + 74 * j) 0) (I := u1 I (282 + 74 * j) 0) hTB (by omega) (fun k => if_pos rfl)
    obtain ⟨I', e, h⟩ := ih (j + 1) f A (by omega) (by omega) (FB_t (a' := 282 + 74 * j) (by omega) (FB_u1 (by omega) h0) f1)
    refine ⟨I', ?_, h⟩
    show (if (12 : Int) ≤ (j : Nat) then _ else _) = _
    rw [if_neg (by omega)]
    refine bdk (g_gR (t := 7) (n := 12) (by decide +kernel) (by decide) (by omega)) ?_
    have n32 : 32 + mN (gs L (250 + 74 * j) (5763 + 439 * j) (RD j) I Zw) = 282 + 74 * j := by show 32 + (250 + 74 * j) = _; omega
    rw [n32]
    refine bdk (g_O hZw (Nat.zero_le _) (v := 282 + 74 * j) (m' := 251 + 74 * j) (z' := 5763 + 439 * j + 11) (by omega) (tH0 hTB) (by omega) rfl) ?_
    refine bdk (tgN_k (by omega)) (bdk e1 ?_)
    refine bdk (g_sR (a := 108) (t := 55) (n := 12) (by decide +kernel) (by decide) (by decide) (by omega) (by rw [tH0 hTB]; rfl) (by omega) (by omega) (by omega) (by omega)) ?_
    rw [toN, mw_n (by omega), ← e, show 251 + 74 * j + 73 = 250 + 74 * (j + 1) by omega, show 5763 + 439 * j + 11 + 428 = 5763 + 439 * (j + 1) by omega]
    refine congrArg _ (gs_cong fun b _ hb k => ?_)
    show (if b = 108 ∧ k = j then 282 + 74 * j else if 282 + 74 * j ≤ b then RR true b k else if b = 282 + 74 * j then 0 else if b = 108 then (if k < j then 282 + 74 * k else 0) else RR true b k) = if b = 108 then (if k < j + 1 then 282 + 74 * k else 0) else RR true b k
    by_cases q : b = 108
    · rw [if_pos q]
      by_cases q2 : k = j
      · rw [if_pos ⟨q, q2⟩, if_pos (by omega), q2, if_pos (by omega)]
      · rw [if_neg (by omega), if_neg (by omega), if_neg (by omega), if_pos q]
        by_cases q3 : k < j
        · rw [if_pos q3, if_pos (by omega)]
        · rw [if_neg q3, if_neg (by omega)]
    · rw [if_neg (by omega), if_neg q]
      by_cases q2 : 282 + 74 * j ≤ b
      · rw [if_pos q2, if_neg q]
      · rw [if_neg q2, if_neg (by omega), if_neg q]
end DK
