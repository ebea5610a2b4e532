/-! THE PURE PART: the desk and the reference as they begin -/
def T0 : Td := fun j => if j = 0 then 1 else if j = 303 then 2 else if j = 311 then 999 else if j = 330 then 1000 else if j = 331 then 1 else 0
def p0 : Nat → Nat := fun k => if k < 12 then 282 + 74 * k else 0
theorem T0_hi {j : Nat} (h : 332 ≤ j) : T0 j = 0 := by
  unfold T0
  rw [if_neg (by omega), if_neg (by omega), if_neg (by omega), if_neg (by omega), if_neg (by omega)]
theorem WF_T0 : WF T0 := by
  refine ⟨⟨by decide, by decide, by decide, by decide, by decide, by decide⟩, ⟨fun k hk => ?_, fun k hk => ?_⟩, fun s hs => ?_, fun q hq => ?_, fun r hr => ?_⟩
  · have hk2 : (k : Int) < 2 := hk
    have q : k = 0 ∨ k = 1 := by omega
    rcases q with rfl | rfl <;> decide
  · have hk2 : (k : Int) + 1 < 2 := hk
    have q : k = 0 := by omega
    subst q
    decide
  · have : (s : Int) < 0 := hs
    omega
  · have : (q : Int) < 0 := hq
    omega
  · have : (r : Int) < 0 := hr
    omega
theorem HC_lo {b : Nat} (h : b < 1170) : HC true b = HC false b := by
  unfold HC
  by_cases q1 : b < 188
  · rw [if_pos q1, if_pos q1]
  · rw [if_neg q1, if_neg q1]
    by_cases q2 : b < 282
    · rw [if_pos q2, if_pos q2]
    · rw [if_neg q2, if_neg q2, if_pos h, if_pos h]
theorem HC_hi {b : Nat} (h : 1170 ≤ b) : HC false b = (0, 0) := by
  unfold HC
  rw [if_neg (by omega), if_neg (by omega), if_neg (by omega), if_neg (fun q => by cases q.1)]
theorem HC_hi2 {b : Nat} (h : 1244 ≤ b) : HC true b = (0, 0) := by
  unfold HC
  rw [if_neg (by omega), if_neg (by omega), if_neg (by omega), if_neg (by omega)]
theorem HC_32 {g : Bool} {b : Nat} (h : b < 32) : HC g b = (0, 0) := by
  unfold HC
  rw [if_pos (by omega), if_pos (by omega), if_neg (by omega), if_neg (by omega)]
theorem RR_lo {b k : Nat} (h : b < 1170) : RR true b k = RR false b k := by
  unfold RR
  by_cases q1 : b < 188
  · rw [if_pos q1, if_pos q1]
  · rw [if_neg q1, if_neg q1]
    by_cases q2 : b < 282
    · rw [if_pos q2, if_pos q2]
    · rw [if_neg q2, if_neg q2, if_pos h, if_pos h]
theorem RR_hi {b k : Nat} (h : 1170 ≤ b) : RR false b k = 0 := by
  unfold RR
  rw [if_neg (by omega), if_neg (by omega), if_neg (by omega), if_neg (fun q => by cases q.1)]
theorem RR_hi2 {b k : Nat} (h : 1244 ≤ b) : RR true b k = 0 := by
  unfold RR
  rw [if_neg (by omega), if_neg (by omega), if_neg (by omega), if_neg (by omega)]
theorem RR_32 {g : Bool} {b k : Nat} (h : b < 32) : RR g b k = 0 := by
  unfold RR
  rw [if_pos (by omega), if_pos (by omega), if_neg (by omega)]
theorem gs_st {L z : Nat} {I : Nat → Nat → Int} {W : Nat → Nat → BitVec 64} : gs L 1138 z (RD 12) I W = st false L (1138, z, 1138, 0) I W p0 := by
  refine mS_ext rfl (fun b => ?_) (fun _ _ => rfl) (fun _ _ => rfl) (fun b k => ?_)
  · show (if b = 1 then (51, L) else if 32 ≤ b ∧ b < 32 + 1138 then HC true b else (0, 0)) = if b = 1 then (51, L) else HC false b
    by_cases q : b = 1
    · rw [if_pos q, if_pos q]
    · rw [if_neg q, if_neg q]
      by_cases q1 : b < 32
      · rw [if_neg (by omega), HC_32 q1]
      · by_cases q2 : b < 1170
        · rw [if_pos (by omega), HC_lo q2]
        · rw [if_neg (by omega), HC_hi (by omega)]
  · show (if 32 ≤ b ∧ b < 32 + 1138 then (if b = 108 then (if k < 12 then 282 + 74 * k else 0) else RR true b k) else 0) = if b = 108 then (if k < 12 then 282 + 74 * k else 0) else RR false b k
    by_cases q1 : b < 32
    · rw [if_neg (by omega), if_neg (by omega), RR_32 q1]
    · by_cases q2 : b < 1170
      · rw [if_pos (by omega), RR_lo q2]
      · rw [if_neg (by omega), if_neg (by omega), RR_hi (by omega)]
theorem gs_st2 {L z : Nat} {I : Nat → Nat → Int} {W : Nat → Nat → BitVec 64} : gs L 1212 z (wn 1170 (RR true) (RD 12)) I W = st true L (1212, z, 1212, 0) I W p0 := by
  refine mS_ext rfl (fun b => ?_) (fun _ _ => rfl) (fun _ _ => rfl) (fun b k => ?_)
  · show (if b = 1 then (51, L) else if 32 ≤ b ∧ b < 32 + 1212 then HC true b else (0, 0)) = if b = 1 then (51, L) else HC true b
    by_cases q : b = 1
    · rw [if_pos q, if_pos q]
    · rw [if_neg q, if_neg q]
      by_cases q1 : b < 32
      · rw [if_neg (by omega), HC_32 q1]
      · by_cases q2 : b < 1244
        · rw [if_pos (by omega)]
        · rw [if_neg (by omega), HC_hi2 (by omega)]
  · show (if 32 ≤ b ∧ b < 32 + 1212 then (if 1170 ≤ b then RR true b k else if b = 108 then (if k < 12 then 282 + 74 * k else 0) else RR true b k) else 0) = if b = 108 then (if k < 12 then 282 + 74 * k else 0) else RR true b k
    by_cases q1 : b < 32
    · rw [if_neg (by omega), if_neg (by omega), RR_32 q1]
    · by_cases q2 : b < 1244
      · rw [if_pos (by omega)]
        by_cases q3 : 1170 ≤ b
        · rw [if_pos q3, if_neg (by omega)]
        · rw [if_neg q3]
      · rw [if_neg (by omega), if_neg (by omega), RR_hi2 (by omega)]
theorem PermP_p0 : PermP p0 := by
  refine ⟨fun k hk => ⟨k, hk, if_pos hk⟩, fun k j hk hj h => ?_⟩
  unfold p0 at h
  rw [if_pos hk, if_pos hj] at h
  omega
section BG
variable {L z : Nat} {xs : Nat → Int32} {I : Nat → Nat → Int}
theorem d8_tail {n : Nat} {c : Nat × Nat × Nat × Nat} {W : Nat → Nat → BitVec 64} {p : Nat → Nat} (h0 : I 34 0 = 1) (h1 : ∀ k, 1 ≤ k → k ≤ 5 → I 34 k = 0) :
    ∃ I' W', D8tail 32 (st false n c I W p) = some (st false n c I' W' p) ∧ (ClsT 34 T0 I' ∧ AgesC T0 I' ∧ NowC T0 I' W') ∧ I' 254 1 = 0 ∧ (∀ b k, b < 34 → b ≠ 33 → I' b k = I b k) ∧ (∀ k, I' 110 k = I 110 k) ∧ ∀ x, ¬ PRw x → W' x = W x := by
  obtain ⟨J, hJ⟩ : ∃ J, J = u2 (u2 (u2 (u2 (u2 I 34 2 2) 35 0 0) 36 0 1000) 35 1 999) 36 1 1 := ⟨_, rfl⟩
  have j34 : ∀ k, J 34 k = if k = 2 then 2 else I 34 k := by
    intro k
    rw [hJ, u2_def, if_neg (by omega), u2_def, if_neg (by omega), u2_def, if_neg (by omega), u2_def, if_neg (by omega), u2_def]
    by_cases q : k = 2
    · rw [if_pos ⟨rfl, q⟩, if_pos q]
    · rw [if_neg (by omega), if_neg q]
  have jo : ∀ b k, b ≠ 34 → b ≠ 35 → b ≠ 36 → J b k = I b k := by
    intro b k h1 h2 h3
    rw [hJ, u2_def, if_neg (by omega), u2_def, if_neg (by omega), u2_def, if_neg (by omega), u2_def, if_neg (by omega), u2_def, if_neg (by omega)]
  have hT : ClsT 34 T0 J := by
    refine ⟨⟨?_, ?_, ?_, ?_, ?_, ?_⟩, fun k hk => ?_, fun s hs => ?_, fun q hq => ?_, fun r hr => ?_⟩
    · rw [j34, if_neg (by decide), h0]; rfl
    · rw [j34, if_neg (by decide), h1 1 (by decide) (by decide)]; rfl
    · rw [j34, if_pos rfl]; rfl
    · rw [j34, if_neg (by decide), h1 3 (by decide) (by decide)]; rfl
    · rw [j34, if_neg (by decide), h1 4 (by decide) (by decide)]; rfl
    · rw [j34, if_neg (by decide), h1 5 (by decide) (by decide)]; rfl
    · have q : k = 0 ∨ k = 1 := by have : k < 2 := hk; omega
      rcases q with rfl | rfl
      · refine ⟨?_, ?_⟩
        · rw [hJ, u2_def, if_neg (by omega), u2_def, if_neg (by omega), u2_def, if_neg (by omega), u2_def, if_pos ⟨rfl, rfl⟩]; rfl
        · rw [hJ, u2_def, if_neg (by omega), u2_def, if_neg (by omega), u2_def, if_pos ⟨rfl, rfl⟩]; rfl
      · refine ⟨?_, ?_⟩
        · rw [hJ, u2_def, if_neg (by omega), u2_def, if_pos ⟨rfl, rfl⟩]; rfl
        · rw [hJ, u2_def, if_pos ⟨rfl, rfl⟩]; rfl
    · exact absurd hs (Nat.not_lt_zero s)
    · exact absurd hq (Nat.not_lt_zero q)
    · exact absurd hr (Nat.not_lt_zero r)
  obtain ⟨Ja, ea, fa, hA⟩ := x5_layAges (g := false) (n := n) (c := c) (W := W) (p := p) TB34 WF_T0 hT
  have hTa : ClsT 34 T0 Ja := hT.fr WF_T0.1 fa (fun a k h => by omega)
  obtain ⟨Jb, Wb, eb, hN, hb1, fb, gb⟩ := x8_renew (g := false) (n := n) (c := c) (W := W) (p := p) WF_T0 hTa hA
  have hTb : ClsT 34 T0 Jb := hTa.fr WF_T0.1 fb (fun a k h => by unfold PRn PR PC at h; omega)
  have hAb : AgesC T0 Jb := fun y hy => by rw [fb 33 y (by unfold PRn PR PC; omega)]; exact hA y hy
  refine ⟨Jb, Wb, ?_, ⟨hTb, hAb, hN⟩, hb1, fun b k h1 h2 => ?_, fun k => ?_, gb⟩
  · unfold D8tail
    refine bdk z8R1 (bdk (t5P TB34) ?_)
    refine bdk z8R1 (bdk (t5R6 TB34) (bdk (t5S1 TB34 (by decide) (by decide)) ?_))
    refine bdk z8R1 (bdk (t5R7 TB34) (bdk (t5S2 TB34 (by decide) (by decide)) ?_))
    refine bdk z8R1 (bdk (t5R6 TB34) (bdk (t5S1 TB34 (by decide) (by decide)) ?_))
    refine bdk z8R1 (bdk (t5R7 TB34) (bdk (t5S2 TB34 (by decide) (by decide)) ?_))
    refine bdk z8R1 (bdk z8R0 (bdk (t5T TB34) ?_))
    have eJ : u2 (u2 (u2 (u2 (u2 I 34 2 2) (34 + 1) (0 : Int).toNat 0) (34 + 2) (0 : Int).toNat 1000) (34 + 1) (1 : Int).toNat 999) (34 + 2) (1 : Int).toNat 1 = J := hJ.symm
    rw [eJ]
    exact bdk ea (bdk z8T (bdk eb rfl))
  · rw [fb b k (by unfold PRn PR PC; omega), fa b k (by omega), jo b k (by omega) (by omega) (by omega)]
  · rw [fb 110 k (by unfold PRn PR PC; omega), fa 110 k (by omega), jo 110 k (by omega) (by omega) (by omega)]
/-- the desk as it begins -/
theorem d8_init (Tri : (Nat → Nat → Int) → Prop) : ∃ I W, D_X8_init 32 (mNew (lwS0 L xs) 8 12) = some (st false L (1138, 11031, 1138, 0) I W p0) ∧ RelC T0 (fun _ => T0) 0 0 (fun _ => 0) (-1) (fun _ => 0) Tri I W p0 ∧ (∀ k, I 1 k = (xs k).toInt) ∧ (∀ b k, 1170 ≤ b → W b k = 0) ∧ I 254 1 = 0 := by
  obtain ⟨I, A1, f1, a1, a2, fx, e0⟩ := d8_pre (L := L) (xs := xs)
  rw [D8_eq, e0]
  obtain ⟨Ib, eb, fb⟩ := d8_138 (L := L) 12 0 mFU I rfl (by decide) (FB_r (I := I))
  have hx : ∀ b k, b < 111 → Ib b k = JX xs A1 b k := fun b k hb => by rw [fb b k (by omega), fx b k hb]
  have x34 : ∀ k, Ib 34 k = A1 34 k := fun k => by rw [hx 34 k (by decide)]; rfl
  obtain ⟨I', W', e, hR, h254, hlo, h110, hW⟩ := d8_tail (n := L) (c := (1138, 11031, 1138, 0)) (I := Ib) (W := Zw) (p := p0) (by rw [x34, a1]) (fun k k1 k5 => by rw [x34, a2 k k1 k5])
  refine ⟨I', W', bdk eb ?_, ⟨hR, ⟨PermP_p0.1, PermP_p0.2, fun k hk => absurd hk (Nat.not_lt_zero k)⟩, ⟨?_, ?_, ?_⟩, fun k hk => absurd hk (Nat.not_lt_zero k), fun k hk => ?_, fun s hs y h1 h2 => ?_, Or.inl h254⟩, fun k => ?_, fun b k hb => ?_, h254⟩
  · rw [gs_st]
    exact e
  · rw [hlo 32 3 (by decide) (by decide), hx 32 3 (by decide)]; rfl
  · rw [hlo 32 5 (by decide) (by decide), hx 32 5 (by decide)]; rfl
  · rw [hlo 32 6 (by decide) (by decide), hx 32 6 (by decide)]; rfl
  · rw [h110 k, hx 110 k (by decide)]; rfl
  · rw [hW _ (by unfold PRw PW; omega)]
    unfold wb Zw
    exact BitVec.getLsbD_zero
  · rw [hlo 1 k (by decide) (by decide), hx 1 k (by decide)]
    show A1 1 k = _
    rw [f1 1 k (by decide)]
    rfl
  · rw [hW _ (by unfold PRw PW; omega)]
    rfl

theorem g_sI {m : Nat} {R : Nat → Nat → Nat} {W : Nat → Nat → BitVec 64} {a n : Nat} {i x : Int} (h : HC true a = (51, n)) (h0 : 32 ≤ a) (h1 : a < 32 + m) (i0 : 0 ≤ i) (i1 : i < (n : Nat)) : sI (gs L m z R I W) a i x = some (gs L m z R (u2 I a i.toNat x) W) := sI_k (gH h h0 h1) h0 i0 i1
set_option maxHeartbeats 4000000 in
theorem d9_init {W : Nat → Nat → BitVec 64} (hW : ∀ b k, 1170 ≤ b → W b k = 0) :
    ∃ I', D_X9_init 1170 (gs L 1139 11084 (wn 1170 (fun _ _ => 0) (RD 12)) (u1 I 1170 0) W) = some (gs L 1211 66654 (wn 1170 (RR true) (RD 12)) I' W) ∧ FB 1170 I I' ∧ RefT T0 I' ∧ (I' 1170 16 = 0 ∧ I' 1170 28 = 0 ∧ I' 1170 5 = 0 ∧ I' 1170 37 = 0 ∧ I' 1170 44 = -1 ∧ I' 1170 17 = -1 ∧ I' 1170 19 = -1) ∧ ∀ k, k < 3 → I' 1171 k = 0 := by
  apply Exists.intro
  refine ⟨?_, ?_, ?_, ?_, ?_⟩
  unfold D_X9_init
  refine bdk (tgN_k (by decide)) ?_
  refine gAx hW (by decide) (v := 1171) (x := 3) (m' := 1140) (z' := 11087) rfl (by decide) (by decide) rfl (by decide +kernel) rfl rfl (t := 8) (n := 53) (by decide +kernel) (by decide) (by decide) ?_
  refine gAx hW (by decide) (v := 1172) (x := 303) (m' := 1141) (z' := 11390) rfl (by decide) (by decide) rfl (by decide +kernel) rfl rfl (t := 8) (n := 53) (by decide +kernel) (by decide) (by decide) ?_
  refine gAx hW (by decide) (v := 1173) (x := 303) (m' := 1142) (z' := 11693) rfl (by decide) (by decide) rfl (by decide +kernel) rfl rfl (t := 8) (n := 53) (by decide +kernel) (by decide) (by decide) ?_
  refine gAx hW (by decide) (v := 1174) (x := 3636) (m' := 1143) (z' := 15329) rfl (by decide) (by decide) rfl (by decide +kernel) rfl rfl (t := 8) (n := 53) (by decide +kernel) (by decide) (by decide) ?_
  refine gAx hW (by decide) (v := 1175) (x := 16) (m' := 1144) (z' := 15345) rfl (by decide) (by decide) rfl (by decide +kernel) rfl rfl (t := 8) (n := 53) (by decide +kernel) (by decide) (by decide) ?_
  refine gAx hW (by decide) (v := 1176) (x := 16) (m' := 1145) (z' := 15361) rfl (by decide) (by decide) rfl (by decide +kernel) rfl rfl (t := 8) (n := 53) (by decide +kernel) (by decide) (by decide) ?_
  refine gAx hW (by decide) (v := 1177) (x := 4) (m' := 1146) (z' := 15365) rfl (by decide) (by decide) rfl (by decide +kernel) rfl rfl (t := 8) (n := 53) (by decide +kernel) (by decide) (by decide) ?_
  refine gAx hW (by decide) (v := 1178) (x := 24) (m' := 1147) (z' := 15389) rfl (by decide) (by decide) rfl (by decide +kernel) rfl rfl (t := 8) (n := 53) (by decide +kernel) (by decide) (by decide) ?_
  refine gMx hW (by decide) (v := 1179) (nn := 12) (kk := 1000) (m' := 1160) (z' := 27401) rfl (by decide) (by decide) (by decide) (by decide) rfl rfl (by decide +kernel) (by decide +kernel) rfl rfl (ta := 8) (na := 53) (by decide +kernel) (by decide) (by decide) ?_
  refine gMx hW (by decide) (v := 1192) (nn := 12) (kk := 1000) (m' := 1173) (z' := 39413) rfl (by decide) (by decide) (by decide) (by decide) rfl rfl (by decide +kernel) (by decide +kernel) rfl rfl (ta := 8) (na := 53) (by decide +kernel) (by decide) (by decide) ?_
  refine gMx hW (by decide) (v := 1205) (nn := 12) (kk := 1000) (m' := 1186) (z' := 51425) rfl (by decide) (by decide) (by decide) (by decide) rfl rfl (by decide +kernel) (by decide +kernel) rfl rfl (ta := 8) (na := 53) (by decide +kernel) (by decide) (by decide) ?_
  refine gIx (n := 53) (by decide +kernel) (by decide) (by decide) ?_
  refine gIx (n := 53) (by decide +kernel) (by decide) (by decide) ?_
  refine gAx hW (by decide) (v := 1218) (x := 24) (m' := 1187) (z' := 51449) rfl (by decide) (by decide) rfl (by decide +kernel) rfl rfl (t := 8) (n := 53) (by decide +kernel) (by decide) (by decide) ?_
  refine gAx hW (by decide) (v := 1219) (x := 1001) (m' := 1188) (z' := 52450) rfl (by decide) (by decide) rfl (by decide +kernel) rfl rfl (t := 8) (n := 53) (by decide +kernel) (by decide) (by decide) ?_
  refine gAx hW (by decide) (v := 1220) (x := 1000) (m' := 1189) (z' := 53450) rfl (by decide) (by decide) rfl (by decide +kernel) rfl rfl (t := 8) (n := 53) (by decide +kernel) (by decide) (by decide) ?_
  refine gAx hW (by decide) (v := 1221) (x := 500) (m' := 1190) (z' := 53950) rfl (by decide) (by decide) rfl (by decide +kernel) rfl rfl (t := 8) (n := 53) (by decide +kernel) (by decide) (by decide) ?_
  refine gAx hW (by decide) (v := 1222) (x := 500) (m' := 1191) (z' := 54450) rfl (by decide) (by decide) rfl (by decide +kernel) rfl rfl (t := 8) (n := 53) (by decide +kernel) (by decide) (by decide) ?_
  refine gAx hW (by decide) (v := 1223) (x := 112) (m' := 1192) (z' := 54562) rfl (by decide) (by decide) rfl (by decide +kernel) rfl rfl (t := 8) (n := 53) (by decide +kernel) (by decide) (by decide) ?_
  refine gAx hW (by decide) (v := 1224) (x := 16) (m' := 1193) (z' := 54578) rfl (by decide) (by decide) rfl (by decide +kernel) rfl rfl (t := 8) (n := 53) (by decide +kernel) (by decide) (by decide) ?_
  refine gAx hW (by decide) (v := 1225) (x := 16) (m' := 1194) (z' := 54594) rfl (by decide) (by decide) rfl (by decide +kernel) rfl rfl (t := 8) (n := 53) (by decide +kernel) (by decide) (by decide) ?_
  refine gAx hW (by decide) (v := 1226) (x := 4) (m' := 1195) (z' := 54598) rfl (by decide) (by decide) rfl (by decide +kernel) rfl rfl (t := 8) (n := 53) (by decide +kernel) (by decide) (by decide) ?_
  refine gAx hW (by decide) (v := 1227) (x := 24) (m' := 1196) (z' := 54622) rfl (by decide) (by decide) rfl (by decide +kernel) rfl rfl (t := 8) (n := 53) (by decide +kernel) (by decide) (by decide) ?_
  refine gAx hW (by decide) (v := 1228) (x := 8) (m' := 1197) (z' := 54630) rfl (by decide) (by decide) rfl (by decide +kernel) rfl rfl (t := 8) (n := 53) (by decide +kernel) (by decide) (by decide) ?_
  refine gIx (n := 53) (by decide +kernel) (by decide) (by decide) ?_
  refine gMx hW (by decide) (v := 1229) (nn := 12) (kk := 1000) (m' := 1210) (z' := 66642) rfl (by decide) (by decide) (by decide) (by decide) rfl rfl (by decide +kernel) (by decide +kernel) rfl rfl (ta := 8) (na := 53) (by decide +kernel) (by decide) (by decide) ?_
  refine gAx hW (by decide) (v := 1242) (x := 12) (m' := 1211) (z' := 66654) rfl (by decide) (by decide) rfl (by decide +kernel) rfl rfl (t := 8) (n := 53) (by decide +kernel) (by decide) (by decide) ?_
  refine gIx (n := 53) (by decide +kernel) (by decide) (by decide) ?_
  refine bdk (g_gR (t := 8) (n := 53) (by decide +kernel) (by decide) (by decide)) ?_
  refine bdk (g_sI (a := 1176) (n := 16) (by decide +kernel) (by decide) (by decide) (by decide) (by decide)) ?_
  refine bdk (g_gR (t := 8) (n := 53) (by decide +kernel) (by decide) (by decide)) ?_
  refine bdk (g_sI (a := 1175) (n := 16) (by decide +kernel) (by decide) (by decide) (by decide) (by decide)) ?_
  refine bdk (g_gR (t := 8) (n := 53) (by decide +kernel) (by decide) (by decide)) ?_
  refine bdk (g_sI (a := 1176) (n := 16) (by decide +kernel) (by decide) (by decide) (by decide) (by decide)) ?_
  refine bdk (g_gR (t := 8) (n := 53) (by decide +kernel) (by decide) (by decide)) ?_
  refine bdk (g_sI (a := 1172) (n := 303) (by decide +kernel) (by decide) (by decide) (by decide) (by decide)) ?_
  refine congrArg some ?_
  simp (disch := decide) only [wn_u1, wn_u2, wn_rM, wn_wn]
  exact gs_win (tab_eq (hi := 1243) (by repeat (first | exact Z64_z | exact Z64_RR | refine Z64_u1 ?_ | refine Z64_u2 ?_ (by decide) | refine Z64_rM ?_ (by decide) | refine Z64_wn Z64_RR ?_)) Z64_RR (by decide +kernel))
  · repeat (first | exact FB_r | refine FB_u1 (by decide) ?_ | refine FB_u2 (by decide) ?_ | refine FB_iM (by decide) ?_)
  · refine ⟨fun j hj => ?_, by simp [u1, u2, iM, T0], by simp [u1, u2, iM, T0], by simp [u1, u2, iM, T0], fun k hk => ?_, fun k hk => ?_, fun k hk => ?_, fun k hk => ?_⟩
    · have e : T0 j = if j = 0 then 1 else 0 := by
        unfold T0
        rw [if_neg (by omega : ¬ j = 303), if_neg (by omega : ¬ j = 311), if_neg (by omega : ¬ j = 330), if_neg (by omega : ¬ j = 331)]
      rw [e]
      simp [u1, u2, iM]
    · have e : T0 (310 + k) = if k = 1 then 999 else 0 := by
        unfold T0
        by_cases q : k = 1
        · subst q; rfl
        · rw [if_neg q, if_neg (by omega), if_neg (by omega), if_neg (by omega), if_neg (by omega), if_neg (by omega)]
      rw [e]
      simp [u1, u2, iM]
    · have e : T0 (330 + k) = if k = 1 then 1 else if k = 0 then 1000 else 0 := by
        unfold T0
        by_cases q : k = 1
        · subst q; rfl
        · by_cases q2 : k = 0
          · subst q2; rfl
          · rw [if_neg q, if_neg q2, if_neg (by omega), if_neg (by omega), if_neg (by omega), if_neg (by omega), if_neg (by omega)]
      rw [e]
      simp [u1, u2, iM]
    · rw [T0_hi (by omega)]
      simp [u1, u2, iM]
    · rw [T0_hi (by omega)]
      simp [u1, u2, iM]
  · refine ⟨?_, ?_, ?_, ?_, ?_, ?_, ?_⟩ <;> simp [u1, u2, iM]
  · intro k hk
    simp [u1, u2, iM]
/-- both as they begin, and the row of answers -/
theorem d89_init (Tri : (Nat → Nat → Int) → Prop) : ∃ I W, ((nwO (lwS0 L xs) 7 12).bind fun s1 => (tgN (32 + mN (lwS0 L xs))).bind fun _ => (D_X8_init (32 + mN (lwS0 L xs)) s1).bind fun r2 => (nwO r2 8 53).bind fun s3 => (tgN (32 + mN r2)).bind fun _ => (D_X9_init (32 + mN r2) s3).bind fun r4 => (nwA r4 1 1).bind fun s5 => some (32 + mN (lwS0 L xs), 32 + mN r2, 32 + mN r4, s5)) = some (32, 1170, 1243, st true L (1212, 66655, 1212, 0) I W p0) ∧
    RelC T0 (fun _ => T0) 0 0 (fun _ => 0) (-1) (fun _ => 0) Tri I W p0 ∧ RelM T0 (fun _ => T0) 0 0 (fun _ => 0) (-1) (fun _ => 0) I ∧ ∀ k, I 1 k = (xs k).toInt := by
  obtain ⟨I, W, e, hC, h1, hW, h254⟩ := d8_init (L := L) (xs := xs) Tri
  obtain ⟨I', e9, f9, hT, hk, h3⟩ := d9_init (L := L) (I := I) hW
  have lo : ∀ b k, b < 1170 → u1 I' 1243 0 b k = I b k := fun b k hb => by rw [u1_def, if_neg (by omega), f9 b k hb]
  have hi : ∀ b k, b < 1243 → u1 I' 1243 0 b k = I' b k := fun b k hb => by rw [u1_def, if_neg (by omega)]
  have frT : ∀ T b, T = T0 → b = 34 → ClsT b T I → ClsT b T (u1 I' 1243 0) := fun T b hT hb h => by
    subst hT hb
    exact h.fr (P := fun b _ => 1170 ≤ b) WF_T0.1 (fun b k q => lo b k (by omega)) (fun a k q => Or.inr (by omega))
  refine ⟨u1 I' 1243 0, W, ?_, ?_, ?_, fun k => ?_⟩
  · refine bdk (nwO_k (σ := lwS0 L xs) rfl) ?_
    rw [show 32 + mN (lwS0 L xs) = 32 from rfl]
    refine bdk (tgN_k (by decide)) (bdk e ?_)
    rw [show 32 + mN (st false L (1138, 11031, 1138, 0) I W p0) = 1170 from rfl, ← gs_st]
    refine bdk (g_O hW (Nat.le_refl _) (v := 1170) (m' := 1139) (z' := 11084) rfl (by decide +kernel) rfl rfl) ?_
    rw [gs_open (v := 1170) (m := 1139) rfl]
    refine bdk (tgN_k (by decide)) (bdk e9 ?_)
    refine bdk (g_A hW (by decide) (v := 1243) (x := 1) (m' := 1212) (z' := 66655) rfl (by decide) (by decide) rfl (by decide +kernel) rfl rfl) ?_
    rw [show 32 + mN (gs L 1211 66654 (wn 1170 (RR true) (RD 12)) I' W) = 1243 from rfl, ← gs_st2]
    refine congrArg (fun q => some (32, 1170, 1243, q)) (gs_cong fun b _ hb k => ?_)
    rw [u1_def]
    by_cases q : b = 1243
    · rw [if_pos q, q]
      exact ((by decide +kernel : ∀ k, k < 64 → RR true 1243 k = 0) |> fun h => if hk : k < 64 then (h k hk).symm else (Z64_RR 1243 k (by omega)).symm)
    · rw [if_neg q]
  · obtain ⟨⟨a1, a2, a3⟩, b1, c1, d1, e1, f1, g1⟩ := hC
    refine ⟨⟨frT _ _ rfl rfl a1, fun y hy => ?_, ?_⟩, ⟨b1.1, b1.2.1, fun k hk => absurd hk (Nat.not_lt_zero k)⟩, ?_, fun k hk => absurd hk (Nat.not_lt_zero k), fun k hk => ?_, f1, ?_⟩
    · rw [lo 33 y (by decide)]; exact a2 y hy
    · obtain ⟨n1, n2, n3⟩ := a3
      refine ⟨n1, ⟨frT _ _ rfl rfl n2.1, ?_, n2.2.2⟩, ?_⟩
      · obtain ⟨m1, m2, m3, m4, m5, m6⟩ := n2.2.1
        refine ⟨m1, fun s hs => absurd hs (Nat.not_lt_zero s), fun r hr => absurd hr (Nat.not_lt_zero r), ?_, ?_, ?_⟩
        · rw [lo 188 9 (by decide)]; exact m4
        · rw [lo 188 10 (by decide)]; exact m5
        · rw [lo 188 14 (by decide)]; exact m6
      · rw [lo 188 8 (by decide)]; exact n3
    · rw [lo 32 3 (by decide), lo 32 5 (by decide), lo 32 6 (by decide)]; exact c1
    · rw [lo 110 k (by decide)]; exact e1 k hk
    · exact Or.inl (by rw [lo 254 1 (by decide)]; exact h254)
  · obtain ⟨k1, k2, k3, k4, k5, k6, k7⟩ := hk
    refine ⟨hT.fr (P := fun b _ => b = 1243) (fun b k q => by rw [u1_def, if_neg q]) (fun b k q => by omega), ⟨Or.inl ?_, Or.inl ?_, fun w => ?_⟩, fun k hk => absurd hk (Nat.not_lt_zero k), ⟨?_, ?_, ?_, ?_, ?_⟩, fun k hk => absurd hk (Nat.not_lt_zero k), fun k hk => ?_⟩
    · rw [hi _ _ (by decide), k1]
    · rw [hi _ _ (by decide), k2]
    · rw [hi _ _ (by decide), k1] at w
      cases w
    · rw [hi _ _ (by decide), k3]; rfl
    · rw [hi _ _ (by decide), k4]; rfl
    · rw [hi _ _ (by decide), k5]
    · rw [hi _ _ (by decide), k6]
    · rw [hi _ _ (by decide), k7]
    · rw [hi _ _ (by decide)]; exact h3 k hk
  · rw [lo 1 k (by decide), h1 k]
end BG
