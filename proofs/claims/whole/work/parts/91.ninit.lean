/-! THE PURE PART: narrowings, the trial, the reader are made -/
section DI
variable {L z : Nat} {R : Nat → Nat → Nat} {I : Nat → Nat → Int}
theorem nar_init1 : ∃ I', D_X0_init 188 34 33 (gs L 157 z (wn 188 (fun _ _ => 0) R) I Zw) = some (gs L 189 (z + 1484) (wn 188 (RR true) R) I' Zw) ∧ FB 188 I I' := by
  apply Exists.intro
  refine ⟨?_, ?_⟩
  unfold D_X0_init
  refine bdk (tgN_k (by decide)) ?_
  refine gMx hZw (Nat.zero_le _) (v := 189) (nn := 12) (kk := 16) (m' := 170) (z' := z + 204) rfl (by decide) (by decide) (by decide) (by decide) rfl rfl (by decide +kernel) (by decide +kernel) rfl (by omega) (ta := 0) (na := 15) (by decide +kernel) (by decide) (by decide) ?_
  refine gMx hZw (Nat.zero_le _) (v := 202) (nn := 12) (kk := 16) (m' := 183) (z' := z + 408) rfl (by decide) (by decide) (by decide) (by decide) rfl rfl (by decide +kernel) (by decide +kernel) rfl (by omega) (ta := 0) (na := 15) (by decide +kernel) (by decide) (by decide) ?_
  refine gAx hZw (Nat.zero_le _) (v := 215) (x := 12) (m' := 184) (z' := z + 420) rfl (by decide) (by decide) rfl (by decide +kernel) rfl (by omega) (t := 0) (n := 15) (by decide +kernel) (by decide) (by decide) ?_
  refine gAx hZw (Nat.zero_le _) (v := 216) (x := 12) (m' := 185) (z' := z + 432) rfl (by decide) (by decide) rfl (by decide +kernel) rfl (by omega) (t := 0) (n := 15) (by decide +kernel) (by decide) (by decide) ?_
  refine gAx hZw (Nat.zero_le _) (v := 217) (x := 12) (m' := 186) (z' := z + 444) rfl (by decide) (by decide) rfl (by decide +kernel) rfl (by omega) (t := 0) (n := 15) (by decide +kernel) (by decide) (by decide) ?_
  refine gAx hZw (Nat.zero_le _) (v := 218) (x := 24) (m' := 187) (z' := z + 468) rfl (by decide) (by decide) rfl (by decide +kernel) rfl (by omega) (t := 0) (n := 15) (by decide +kernel) (by decide) (by decide) ?_
  refine gIx (n := 15) (by decide +kernel) (by decide) (by decide) ?_
  refine gIx (n := 15) (by decide +kernel) (by decide) (by decide) ?_
  refine gIx (n := 15) (by decide +kernel) (by decide) (by decide) ?_
  refine gAx hZw (Nat.zero_le _) (v := 219) (x := 1000) (m' := 188) (z' := z + 1468) rfl (by decide) (by decide) rfl (by decide +kernel) rfl (by omega) (t := 0) (n := 15) (by decide +kernel) (by decide) (by decide) ?_
  refine gAx hZw (Nat.zero_le _) (v := 220) (x := 16) (m' := 189) (z' := z + 1484) rfl (by decide) (by decide) rfl (by decide +kernel) rfl (by omega) (t := 0) (n := 15) (by decide +kernel) (by decide) (by decide) ?_
  refine gIx (n := 15) (by decide +kernel) (by decide) (by decide) ?_
  refine gBx (n := 15) (by decide +kernel) (by decide) (by decide) (by decide) ?_
  refine gRx (n := 15) (by decide +kernel) (by decide) (by decide) ?_
  refine gRx (n := 15) (by decide +kernel) (by decide) (by decide) ?_
  refine congrArg some ?_
  simp (disch := decide) only [wn_u1, wn_u2, wn_rM, wn_wn]
  exact gs_win (tab_eq (hi := 221) (by repeat (first | exact Z64_z | exact Z64_RR | refine Z64_u1 ?_ | refine Z64_u2 ?_ (by decide) | refine Z64_rM ?_ (by decide) | refine Z64_wn Z64_RR ?_)) Z64_RR (by decide +kernel))
  repeat (first | exact FB_r | refine FB_u1 (by decide) ?_ | refine FB_u2 (by decide) ?_ | refine FB_iM (by decide) ?_)
theorem nar_init2 : ∃ I', D_X0_init 221 34 33 (gs L 190 z (wn 221 (fun _ _ => 0) R) I Zw) = some (gs L 222 (z + 1484) (wn 221 (RR true) R) I' Zw) ∧ FB 221 I I' := by
  apply Exists.intro
  refine ⟨?_, ?_⟩
  unfold D_X0_init
  refine bdk (tgN_k (by decide)) ?_
  refine gMx hZw (Nat.zero_le _) (v := 222) (nn := 12) (kk := 16) (m' := 203) (z' := z + 204) rfl (by decide) (by decide) (by decide) (by decide) rfl rfl (by decide +kernel) (by decide +kernel) rfl (by omega) (ta := 0) (na := 15) (by decide +kernel) (by decide) (by decide) ?_
  refine gMx hZw (Nat.zero_le _) (v := 235) (nn := 12) (kk := 16) (m' := 216) (z' := z + 408) rfl (by decide) (by decide) (by decide) (by decide) rfl rfl (by decide +kernel) (by decide +kernel) rfl (by omega) (ta := 0) (na := 15) (by decide +kernel) (by decide) (by decide) ?_
  refine gAx hZw (Nat.zero_le _) (v := 248) (x := 12) (m' := 217) (z' := z + 420) rfl (by decide) (by decide) rfl (by decide +kernel) rfl (by omega) (t := 0) (n := 15) (by decide +kernel) (by decide) (by decide) ?_
  refine gAx hZw (Nat.zero_le _) (v := 249) (x := 12) (m' := 218) (z' := z + 432) rfl (by decide) (by decide) rfl (by decide +kernel) rfl (by omega) (t := 0) (n := 15) (by decide +kernel) (by decide) (by decide) ?_
  refine gAx hZw (Nat.zero_le _) (v := 250) (x := 12) (m' := 219) (z' := z + 444) rfl (by decide) (by decide) rfl (by decide +kernel) rfl (by omega) (t := 0) (n := 15) (by decide +kernel) (by decide) (by decide) ?_
  refine gAx hZw (Nat.zero_le _) (v := 251) (x := 24) (m' := 220) (z' := z + 468) rfl (by decide) (by decide) rfl (by decide +kernel) rfl (by omega) (t := 0) (n := 15) (by decide +kernel) (by decide) (by decide) ?_
  refine gIx (n := 15) (by decide +kernel) (by decide) (by decide) ?_
  refine gIx (n := 15) (by decide +kernel) (by decide) (by decide) ?_
  refine gIx (n := 15) (by decide +kernel) (by decide) (by decide) ?_
  refine gAx hZw (Nat.zero_le _) (v := 252) (x := 1000) (m' := 221) (z' := z + 1468) rfl (by decide) (by decide) rfl (by decide +kernel) rfl (by omega) (t := 0) (n := 15) (by decide +kernel) (by decide) (by decide) ?_
  refine gAx hZw (Nat.zero_le _) (v := 253) (x := 16) (m' := 222) (z' := z + 1484) rfl (by decide) (by decide) rfl (by decide +kernel) rfl (by omega) (t := 0) (n := 15) (by decide +kernel) (by decide) (by decide) ?_
  refine gIx (n := 15) (by decide +kernel) (by decide) (by decide) ?_
  refine gBx (n := 15) (by decide +kernel) (by decide) (by decide) (by decide) ?_
  refine gRx (n := 15) (by decide +kernel) (by decide) (by decide) ?_
  refine gRx (n := 15) (by decide +kernel) (by decide) (by decide) ?_
  refine congrArg some ?_
  simp (disch := decide) only [wn_u1, wn_u2, wn_rM, wn_wn]
  exact gs_win (tab_eq (hi := 254) (by repeat (first | exact Z64_z | exact Z64_RR | refine Z64_u1 ?_ | refine Z64_u2 ?_ (by decide) | refine Z64_rM ?_ (by decide) | refine Z64_wn Z64_RR ?_)) Z64_RR (by decide +kernel))
  repeat (first | exact FB_r | refine FB_u1 (by decide) ?_ | refine FB_u2 (by decide) ?_ | refine FB_iM (by decide) ?_)
theorem tri_init : ∃ I', D_X6_init 254 34 188 (gs L 223 z (wn 254 (fun _ _ => 0) R) I Zw) = some (gs L 250 (z + 324) (wn 254 (RR true) R) I' Zw) ∧ FB 254 I I' := by
  apply Exists.intro
  refine ⟨?_, ?_⟩
  unfold D_X6_init
  refine bdk (tgN_k (by decide)) ?_
  refine gAx hZw (Nat.zero_le _) (v := 255) (x := 12) (m' := 224) (z' := z + 12) rfl (by decide) (by decide) rfl (by decide +kernel) rfl (by omega) (t := 6) (n := 8) (by decide +kernel) (by decide) (by decide) ?_
  refine gBx (n := 8) (by decide +kernel) (by decide) (by decide) (by decide) ?_
  refine gIx (n := 8) (by decide +kernel) (by decide) (by decide) ?_
  refine gIx (n := 8) (by decide +kernel) (by decide) (by decide) ?_
  refine gMx hZw (Nat.zero_le _) (v := 256) (nn := 12) (kk := 12) (m' := 237) (z' := z + 168) rfl (by decide) (by decide) (by decide) (by decide) rfl rfl (by decide +kernel) (by decide +kernel) rfl (by omega) (ta := 6) (na := 8) (by decide +kernel) (by decide) (by decide) ?_
  refine gMx hZw (Nat.zero_le _) (v := 269) (nn := 12) (kk := 12) (m' := 250) (z' := z + 324) rfl (by decide) (by decide) (by decide) (by decide) rfl rfl (by decide +kernel) (by decide +kernel) rfl (by omega) (ta := 6) (na := 8) (by decide +kernel) (by decide) (by decide) ?_
  refine gRx (n := 8) (by decide +kernel) (by decide) (by decide) ?_
  refine gRx (n := 8) (by decide +kernel) (by decide) (by decide) ?_
  refine congrArg some ?_
  simp (disch := decide) only [wn_u1, wn_u2, wn_rM, wn_wn]
  exact gs_win (tab_eq (hi := 282) (by repeat (first | exact Z64_z | exact Z64_RR | refine Z64_u1 ?_ | refine Z64_u2 ?_ (by decide) | refine Z64_rM ?_ (by decide) | refine Z64_wn Z64_RR ?_)) Z64_RR (by decide +kernel))
  repeat (first | exact FB_r | refine FB_u1 (by decide) ?_ | refine FB_u2 (by decide) ?_ | refine FB_iM (by decide) ?_)
theorem rd_init : ∃ I', D_X2_init 111 109 (gs L 80 z (wn 111 (fun _ _ => 0) R) I Zw) = some (gs L 156 (z + 455) (wn 111 (RR true) R) I' Zw) ∧ FB 111 I I' := by
  obtain ⟨A, e1, f1, -, -⟩ := told_init (L := L) (m := 81) (z := z + 11) (R := u1 (wn 111 (fun _ _ => 0) R) 112 0) (I := u1 I 112 0) TB112 rfl (fun k => if_pos rfl)
  have f1' : FB 111 I A := FB_t (a' := 112) (by decide) (FB_u1 (v := 112) (x := 0) (by decide) (FB_r (a := 111))) f1
  apply Exists.intro
  refine ⟨?_, ?_⟩
  unfold D_X2_init
  rw [show 32 + mN (gs L 80 z (wn 111 (fun _ _ => 0) R) I Zw) = 112 from rfl]
  refine bdk (tgN_k (by decide)) ?_
  refine bdk (g_O hZw (Nat.zero_le _) (v := 112) (m' := 81) (z' := z + 11) rfl (by decide +kernel) rfl rfl) ?_
  refine bdk (tgN_k (by decide)) (bdk e1 ?_)
  refine gRx (n := 12) (by decide +kernel) (by decide) (by decide) ?_
  refine gIx (n := 12) (by decide +kernel) (by decide) (by decide) ?_
  refine gIx (n := 12) (by decide +kernel) (by decide) (by decide) ?_
  refine gIx (n := 12) (by decide +kernel) (by decide) (by decide) ?_
  refine gIx (n := 12) (by decide +kernel) (by decide) (by decide) ?_
  refine gIx (n := 12) (by decide +kernel) (by decide) (by decide) ?_
  refine gIx (n := 12) (by decide +kernel) (by decide) (by decide) ?_
  refine gBx (n := 12) (by decide +kernel) (by decide) (by decide) (by decide) ?_
  refine gBx (n := 12) (by decide +kernel) (by decide) (by decide) (by decide) ?_
  refine gAx hZw (Nat.zero_le _) (v := 186) (x := 12) (m' := 155) (z' := z + 451) rfl (by decide) (by decide) rfl (by decide +kernel) rfl (by omega) (t := 2) (n := 12) (by decide +kernel) (by decide) (by decide) ?_
  refine gAx hZw (Nat.zero_le _) (v := 187) (x := 4) (m' := 156) (z' := z + 455) rfl (by decide) (by decide) rfl (by decide +kernel) rfl (by omega) (t := 2) (n := 12) (by decide +kernel) (by decide) (by decide) ?_
  refine gRx (n := 12) (by decide +kernel) (by decide) (by decide) ?_
  refine congrArg some ?_
  simp (disch := decide) only [wn_u1, wn_u2, wn_rM, wn_wn]
  exact gs_win (tab_eq (hi := 188) (by repeat (first | exact Z64_z | exact Z64_RR | refine Z64_u1 ?_ | refine Z64_u2 ?_ (by decide) | refine Z64_rM ?_ (by decide) | refine Z64_wn Z64_RR ?_)) Z64_RR (by decide +kernel))
  repeat (first | exact f1' | refine FB_u1 (by decide) ?_ | refine FB_u2 (by decide) ?_ | refine FB_iM (by decide) ?_)
def I0 (xs : Nat → Int32) : Nat → Nat → Int := fun r k => if r = 1 then (xs k).toInt else 0
def RD (j : Nat) : Nat → Nat → Nat := fun b k => if b = 108 then (if k < j then 282 + 74 * k else 0) else RR true b k
theorem Z64_RD {j : Nat} (hj : j ≤ 64) : Z64 (RD j) := by
  intro b k hk
  show (if b = 108 then (if k < j then 282 + 74 * k else 0) else RR true b k) = 0
  rw [if_neg (by omega : ¬ k < j), Z64_RR b k hk]
  split <;> rfl
theorem lw_gs (xs : Nat → Int32) : mNew (lwS0 L xs) 8 12 = gs L 1 12 (u1 (fun _ _ => 0) 32 0) (u1 (I0 xs) 32 0) Zw := by
  have e : lwS0 L xs = gs L 0 0 (fun _ _ => 0) (I0 xs) Zw := by
    refine mS_ext rfl (fun b => ?_) (fun _ _ => rfl) (fun _ _ => rfl) (fun b k => ?_)
    · show (if b = 1 then (51, L) else (0, 0)) = if b = 1 then (51, L) else if 32 ≤ b ∧ b < 32 + 0 then HC true b else (0, 0)
      by_cases q : b = 1
      · rw [if_pos q, if_pos q]
      · rw [if_neg q, if_neg q, if_neg (by omega)]
    · show 0 = if 32 ≤ b ∧ b < 32 + 0 then 0 else 0
      split <;> rfl
  rw [e]
  exact gs_new hZw (Nat.zero_le _) rfl (by decide +kernel)
end DI
