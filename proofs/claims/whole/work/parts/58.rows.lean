/-! THE PURE PART: rows at known places -/
section R9
variable {n : Nat} {c : Nat × Nat × Nat × Nat} {I : Nat → Nat → Int} {W : Nat → Nat → BitVec 64} {p : Nat → Nat}
theorem z9I {k : Nat} : gI (st true n c I W p) 1170 8 k = some (I 1170 k) := s_gI (m := 53) rfl
theorem z9P {k : Nat} {x : Int} : pI (st true n c I W p) 1170 8 k x = some (st true n c (u2 I 1170 k x) W p) := s_pI (m := 53) rfl
theorem z9B {k : Nat} {x : Int} (h : x = 0 ∨ x = 1) : pB (st true n c I W p) 1170 8 k x = some (st true n c (u2 I 1170 k x) W p) := s_pB (m := 53) rfl h
theorem z9T : tgO (st true n c I W p) 1170 8 = some () := s_tgO (m := 53) rfl
theorem z9R1 : gR (st true n c I W p) 1170 8 1 = some 1171 := s_gR (m := 53) rfl (by decide)
theorem z9R2 : gR (st true n c I W p) 1170 8 2 = some 1172 := s_gR (m := 53) rfl (by decide)
theorem z9R3 : gR (st true n c I W p) 1170 8 3 = some 1173 := s_gR (m := 53) rfl (by decide)
theorem z9R4 : gR (st true n c I W p) 1170 8 4 = some 1174 := s_gR (m := 53) rfl (by decide)
theorem z9R9 : gR (st true n c I W p) 1170 8 9 = some 1175 := s_gR (m := 53) rfl (by decide)
theorem z9R10 : gR (st true n c I W p) 1170 8 10 = some 1176 := s_gR (m := 53) rfl (by decide)
theorem z9R11 : gR (st true n c I W p) 1170 8 11 = some 1177 := s_gR (m := 53) rfl (by decide)
theorem z9R12 : gR (st true n c I W p) 1170 8 12 = some 1178 := s_gR (m := 53) rfl (by decide)
theorem z9R13 : gR (st true n c I W p) 1170 8 13 = some 1179 := s_gR (m := 53) rfl (by decide)
theorem z9R14 : gR (st true n c I W p) 1170 8 14 = some 1192 := s_gR (m := 53) rfl (by decide)
theorem z9R15 : gR (st true n c I W p) 1170 8 15 = some 1205 := s_gR (m := 53) rfl (by decide)
theorem z9R25 : gR (st true n c I W p) 1170 8 25 = some 1218 := s_gR (m := 53) rfl (by decide)
theorem z9R26 : gR (st true n c I W p) 1170 8 26 = some 1219 := s_gR (m := 53) rfl (by decide)
theorem z9R27 : gR (st true n c I W p) 1170 8 27 = some 1220 := s_gR (m := 53) rfl (by decide)
theorem z9R29 : gR (st true n c I W p) 1170 8 29 = some 1221 := s_gR (m := 53) rfl (by decide)
theorem z9R30 : gR (st true n c I W p) 1170 8 30 = some 1222 := s_gR (m := 53) rfl (by decide)
theorem z9R31 : gR (st true n c I W p) 1170 8 31 = some 1223 := s_gR (m := 53) rfl (by decide)
theorem z9R32 : gR (st true n c I W p) 1170 8 32 = some 1224 := s_gR (m := 53) rfl (by decide)
theorem z9R33 : gR (st true n c I W p) 1170 8 33 = some 1225 := s_gR (m := 53) rfl (by decide)
theorem z9R34 : gR (st true n c I W p) 1170 8 34 = some 1226 := s_gR (m := 53) rfl (by decide)
theorem z9R35 : gR (st true n c I W p) 1170 8 35 = some 1227 := s_gR (m := 53) rfl (by decide)
theorem z9R36 : gR (st true n c I W p) 1170 8 36 = some 1228 := s_gR (m := 53) rfl (by decide)
theorem z9R50 : gR (st true n c I W p) 1170 8 50 = some 1229 := s_gR (m := 53) rfl (by decide)
theorem z9R51 : gR (st true n c I W p) 1170 8 51 = some 1242 := s_gR (m := 53) rfl (by decide)
theorem z9L1 {i : Int} (h0 : 0 ≤ i) (h1 : i < 3) : lI (st true n c I W p) 1171 i = some (I 1171 i.toNat) := s_lI (m := 3) rfl h0 h1
theorem z9S1 {i x : Int} (h0 : 0 ≤ i) (h1 : i < 3) : sI (st true n c I W p) 1171 i x = some (st true n c (u2 I 1171 i.toNat x) W p) := s_sI (m := 3) rfl h0 h1
theorem z9L2 {i : Int} (h0 : 0 ≤ i) (h1 : i < 303) : lI (st true n c I W p) 1172 i = some (I 1172 i.toNat) := s_lI (m := 303) rfl h0 h1
theorem z9S2 {i x : Int} (h0 : 0 ≤ i) (h1 : i < 303) : sI (st true n c I W p) 1172 i x = some (st true n c (u2 I 1172 i.toNat x) W p) := s_sI (m := 303) rfl h0 h1
theorem z9L3 {i : Int} (h0 : 0 ≤ i) (h1 : i < 303) : lI (st true n c I W p) 1173 i = some (I 1173 i.toNat) := s_lI (m := 303) rfl h0 h1
theorem z9S3 {i x : Int} (h0 : 0 ≤ i) (h1 : i < 303) : sI (st true n c I W p) 1173 i x = some (st true n c (u2 I 1173 i.toNat x) W p) := s_sI (m := 303) rfl h0 h1
theorem z9L4 {i : Int} (h0 : 0 ≤ i) (h1 : i < 3636) : lI (st true n c I W p) 1174 i = some (I 1174 i.toNat) := s_lI (m := 3636) rfl h0 h1
theorem z9S4 {i x : Int} (h0 : 0 ≤ i) (h1 : i < 3636) : sI (st true n c I W p) 1174 i x = some (st true n c (u2 I 1174 i.toNat x) W p) := s_sI (m := 3636) rfl h0 h1
theorem z9L9 {i : Int} (h0 : 0 ≤ i) (h1 : i < 16) : lI (st true n c I W p) 1175 i = some (I 1175 i.toNat) := s_lI (m := 16) rfl h0 h1
theorem z9S9 {i x : Int} (h0 : 0 ≤ i) (h1 : i < 16) : sI (st true n c I W p) 1175 i x = some (st true n c (u2 I 1175 i.toNat x) W p) := s_sI (m := 16) rfl h0 h1
theorem z9L10 {i : Int} (h0 : 0 ≤ i) (h1 : i < 16) : lI (st true n c I W p) 1176 i = some (I 1176 i.toNat) := s_lI (m := 16) rfl h0 h1
theorem z9S10 {i x : Int} (h0 : 0 ≤ i) (h1 : i < 16) : sI (st true n c I W p) 1176 i x = some (st true n c (u2 I 1176 i.toNat x) W p) := s_sI (m := 16) rfl h0 h1
theorem z9L11 {i : Int} (h0 : 0 ≤ i) (h1 : i < 4) : lI (st true n c I W p) 1177 i = some (I 1177 i.toNat) := s_lI (m := 4) rfl h0 h1
theorem z9S11 {i x : Int} (h0 : 0 ≤ i) (h1 : i < 4) : sI (st true n c I W p) 1177 i x = some (st true n c (u2 I 1177 i.toNat x) W p) := s_sI (m := 4) rfl h0 h1
theorem z9L12 {i : Int} (h0 : 0 ≤ i) (h1 : i < 24) : lI (st true n c I W p) 1178 i = some (I 1178 i.toNat) := s_lI (m := 24) rfl h0 h1
theorem z9S12 {i x : Int} (h0 : 0 ≤ i) (h1 : i < 24) : sI (st true n c I W p) 1178 i x = some (st true n c (u2 I 1178 i.toNat x) W p) := s_sI (m := 24) rfl h0 h1
theorem z9L25 {i : Int} (h0 : 0 ≤ i) (h1 : i < 24) : lI (st true n c I W p) 1218 i = some (I 1218 i.toNat) := s_lI (m := 24) rfl h0 h1
theorem z9S25 {i x : Int} (h0 : 0 ≤ i) (h1 : i < 24) : sI (st true n c I W p) 1218 i x = some (st true n c (u2 I 1218 i.toNat x) W p) := s_sI (m := 24) rfl h0 h1
theorem z9L26 {i : Int} (h0 : 0 ≤ i) (h1 : i < 1001) : lI (st true n c I W p) 1219 i = some (I 1219 i.toNat) := s_lI (m := 1001) rfl h0 h1
theorem z9S26 {i x : Int} (h0 : 0 ≤ i) (h1 : i < 1001) : sI (st true n c I W p) 1219 i x = some (st true n c (u2 I 1219 i.toNat x) W p) := s_sI (m := 1001) rfl h0 h1
theorem z9L32 {i : Int} (h0 : 0 ≤ i) (h1 : i < 16) : lI (st true n c I W p) 1224 i = some (I 1224 i.toNat) := s_lI (m := 16) rfl h0 h1
theorem z9S32 {i x : Int} (h0 : 0 ≤ i) (h1 : i < 16) : sI (st true n c I W p) 1224 i x = some (st true n c (u2 I 1224 i.toNat x) W p) := s_sI (m := 16) rfl h0 h1
theorem z9L33 {i : Int} (h0 : 0 ≤ i) (h1 : i < 16) : lI (st true n c I W p) 1225 i = some (I 1225 i.toNat) := s_lI (m := 16) rfl h0 h1
theorem z9S33 {i x : Int} (h0 : 0 ≤ i) (h1 : i < 16) : sI (st true n c I W p) 1225 i x = some (st true n c (u2 I 1225 i.toNat x) W p) := s_sI (m := 16) rfl h0 h1
theorem z9L34 {i : Int} (h0 : 0 ≤ i) (h1 : i < 4) : lI (st true n c I W p) 1226 i = some (I 1226 i.toNat) := s_lI (m := 4) rfl h0 h1
theorem z9S34 {i x : Int} (h0 : 0 ≤ i) (h1 : i < 4) : sI (st true n c I W p) 1226 i x = some (st true n c (u2 I 1226 i.toNat x) W p) := s_sI (m := 4) rfl h0 h1
theorem z9L35 {i : Int} (h0 : 0 ≤ i) (h1 : i < 24) : lI (st true n c I W p) 1227 i = some (I 1227 i.toNat) := s_lI (m := 24) rfl h0 h1
theorem z9S35 {i x : Int} (h0 : 0 ≤ i) (h1 : i < 24) : sI (st true n c I W p) 1227 i x = some (st true n c (u2 I 1227 i.toNat x) W p) := s_sI (m := 24) rfl h0 h1
theorem z9L36 {i : Int} (h0 : 0 ≤ i) (h1 : i < 8) : lI (st true n c I W p) 1228 i = some (I 1228 i.toNat) := s_lI (m := 8) rfl h0 h1
theorem z9S36 {i x : Int} (h0 : 0 ≤ i) (h1 : i < 8) : sI (st true n c I W p) 1228 i x = some (st true n c (u2 I 1228 i.toNat x) W p) := s_sI (m := 8) rfl h0 h1
theorem z9L51 {i : Int} (h0 : 0 ≤ i) (h1 : i < 12) : lI (st true n c I W p) 1242 i = some (I 1242 i.toNat) := s_lI (m := 12) rfl h0 h1
theorem z9S51 {i x : Int} (h0 : 0 ≤ i) (h1 : i < 12) : sI (st true n c I W p) 1242 i x = some (st true n c (u2 I 1242 i.toNat x) W p) := s_sI (m := 12) rfl h0 h1
theorem z9L29 {i : Int} (h0 : 0 ≤ i) (h1 : i < 500) : lB (st true n c I W p) 1221 i = some (I 1221 i.toNat) := s_lB (t := 54) (m := 500) (Or.inr rfl) rfl h0 h1
theorem z9S29 {i x : Int} (hx : -128 ≤ x ∧ x < 128) (h0 : 0 ≤ i) (h1 : i < 500) : sB (st true n c I W p) 1221 i x = some (st true n c (u2 I 1221 i.toNat x) W p) := s_sBy (m := 500) rfl hx h0 h1
theorem z9L30 {i : Int} (h0 : 0 ≤ i) (h1 : i < 500) : lB (st true n c I W p) 1222 i = some (I 1222 i.toNat) := s_lB (t := 54) (m := 500) (Or.inr rfl) rfl h0 h1
theorem z9S30 {i x : Int} (hx : -128 ≤ x ∧ x < 128) (h0 : 0 ≤ i) (h1 : i < 500) : sB (st true n c I W p) 1222 i x = some (st true n c (u2 I 1222 i.toNat x) W p) := s_sBy (m := 500) rfl hx h0 h1
theorem z9L31 {i : Int} (h0 : 0 ≤ i) (h1 : i < 112) : lB (st true n c I W p) 1223 i = some (I 1223 i.toNat) := s_lB (t := 54) (m := 112) (Or.inr rfl) rfl h0 h1
theorem z9S31 {i x : Int} (hx : -128 ≤ x ∧ x < 128) (h0 : 0 ≤ i) (h1 : i < 112) : sB (st true n c I W p) 1223 i x = some (st true n c (u2 I 1223 i.toNat x) W p) := s_sBy (m := 112) rfl hx h0 h1
theorem rr13 : ∀ s, s < 12 → RR true 1179 s = 1180 + s := by decide +kernel
theorem rh13 : ∀ s, s < 12 → HC true (1180 + s) = (53, 1000) := by decide +kernel
theorem z9A13 {s : Int} (h0 : 0 ≤ s) (h1 : s < 12) : lR (st true n c I W p) 1179 s = some (1180 + s.toNat) := (s_lR (t := 6) (m := 12) rfl (by decide) (by decide) h0 h1).trans (congrArg some (rr13 _ (by omega)))
theorem z9L13 {s : Nat} {i : Int} (hs : s < 12) (h0 : 0 ≤ i) (h1 : i < 1000) : lB (st true n c I W p) (1180 + s) i = some (I (1180 + s) i.toNat) := s_lB (t := 53) (m := 1000) (Or.inl rfl) (rh13 s hs) h0 h1
theorem z9S13 {s : Nat} {i x : Int} (hs : s < 12) (hx : x = 0 ∨ x = 1) (h0 : 0 ≤ i) (h1 : i < 1000) : sB (st true n c I W p) (1180 + s) i x = some (st true n c (u2 I (1180 + s) i.toNat x) W p) := s_sBo (m := 1000) (rh13 s hs) hx h0 h1
theorem rr14 : ∀ s, s < 12 → RR true 1192 s = 1193 + s := by decide +kernel
theorem rh14 : ∀ s, s < 12 → HC true (1193 + s) = (53, 1000) := by decide +kernel
theorem z9A14 {s : Int} (h0 : 0 ≤ s) (h1 : s < 12) : lR (st true n c I W p) 1192 s = some (1193 + s.toNat) := (s_lR (t := 6) (m := 12) rfl (by decide) (by decide) h0 h1).trans (congrArg some (rr14 _ (by omega)))
theorem z9L14 {s : Nat} {i : Int} (hs : s < 12) (h0 : 0 ≤ i) (h1 : i < 1000) : lB (st true n c I W p) (1193 + s) i = some (I (1193 + s) i.toNat) := s_lB (t := 53) (m := 1000) (Or.inl rfl) (rh14 s hs) h0 h1
theorem z9S14 {s : Nat} {i x : Int} (hs : s < 12) (hx : x = 0 ∨ x = 1) (h0 : 0 ≤ i) (h1 : i < 1000) : sB (st true n c I W p) (1193 + s) i x = some (st true n c (u2 I (1193 + s) i.toNat x) W p) := s_sBo (m := 1000) (rh14 s hs) hx h0 h1
theorem rr15 : ∀ s, s < 12 → RR true 1205 s = 1206 + s := by decide +kernel
theorem rh15 : ∀ s, s < 12 → HC true (1206 + s) = (53, 1000) := by decide +kernel
theorem z9A15 {s : Int} (h0 : 0 ≤ s) (h1 : s < 12) : lR (st true n c I W p) 1205 s = some (1206 + s.toNat) := (s_lR (t := 6) (m := 12) rfl (by decide) (by decide) h0 h1).trans (congrArg some (rr15 _ (by omega)))
theorem z9L15 {s : Nat} {i : Int} (hs : s < 12) (h0 : 0 ≤ i) (h1 : i < 1000) : lB (st true n c I W p) (1206 + s) i = some (I (1206 + s) i.toNat) := s_lB (t := 53) (m := 1000) (Or.inl rfl) (rh15 s hs) h0 h1
theorem z9S15 {s : Nat} {i x : Int} (hs : s < 12) (hx : x = 0 ∨ x = 1) (h0 : 0 ≤ i) (h1 : i < 1000) : sB (st true n c I W p) (1206 + s) i x = some (st true n c (u2 I (1206 + s) i.toNat x) W p) := s_sBo (m := 1000) (rh15 s hs) hx h0 h1
theorem rr50 : ∀ s, s < 12 → RR true 1229 s = 1230 + s := by decide +kernel
theorem rh50 : ∀ s, s < 12 → HC true (1230 + s) = (53, 1000) := by decide +kernel
theorem z9A50 {s : Int} (h0 : 0 ≤ s) (h1 : s < 12) : lR (st true n c I W p) 1229 s = some (1230 + s.toNat) := (s_lR (t := 6) (m := 12) rfl (by decide) (by decide) h0 h1).trans (congrArg some (rr50 _ (by omega)))
theorem z9L50 {s : Nat} {i : Int} (hs : s < 12) (h0 : 0 ≤ i) (h1 : i < 1000) : lB (st true n c I W p) (1230 + s) i = some (I (1230 + s) i.toNat) := s_lB (t := 53) (m := 1000) (Or.inl rfl) (rh50 s hs) h0 h1
theorem z9S50 {s : Nat} {i x : Int} (hs : s < 12) (hx : x = 0 ∨ x = 1) (h0 : 0 ≤ i) (h1 : i < 1000) : sB (st true n c I W p) (1230 + s) i x = some (st true n c (u2 I (1230 + s) i.toNat x) W p) := s_sBo (m := 1000) (rh50 s hs) hx h0 h1
end R9
section R8
variable {g : Bool} {n : Nat} {c : Nat × Nat × Nat × Nat} {I : Nat → Nat → Int} {W : Nat → Nat → BitVec 64} {p : Nat → Nat}
theorem z8I {k : Nat} : gI (st g n c I W p) 32 7 k = some (I 32 k) := s_gI (m := 12) rfl
theorem z8P {k : Nat} {x : Int} : pI (st g n c I W p) 32 7 k x = some (st g n c (u2 I 32 k x) W p) := s_pI (m := 12) rfl
theorem z8T : tgO (st g n c I W p) 32 7 = some () := s_tgO (m := 12) rfl
theorem z8R0 : gR (st g n c I W p) 32 7 0 = some 33 := s_gR (m := 12) rfl (by decide)
theorem z8R1 : gR (st g n c I W p) 32 7 1 = some 34 := s_gR (m := 12) rfl (by decide)
theorem z8R2 : gR (st g n c I W p) 32 7 2 = some 108 := s_gR (m := 12) rfl (by decide)
theorem z8R4 : gR (st g n c I W p) 32 7 4 = some 109 := s_gR (m := 12) rfl (by decide)
theorem z8R7 : gR (st g n c I W p) 32 7 7 = some 110 := s_gR (m := 12) rfl (by decide)
theorem z8R8 : gR (st g n c I W p) 32 7 8 = some 111 := s_gR (m := 12) rfl (by decide)
theorem z8R9 : gR (st g n c I W p) 32 7 9 = some 188 := s_gR (m := 12) rfl (by decide)
theorem z8R10 : gR (st g n c I W p) 32 7 10 = some 221 := s_gR (m := 12) rfl (by decide)
theorem z8R11 : gR (st g n c I W p) 32 7 11 = some 254 := s_gR (m := 12) rfl (by decide)
theorem z8L33 {i : Int} (h0 : 0 ≤ i) (h1 : i < 1000) : lI (st g n c I W p) 33 i = some (I 33 i.toNat) := s_lI (m := 1000) rfl h0 h1
theorem z8S33 {i x : Int} (h0 : 0 ≤ i) (h1 : i < 1000) : sI (st g n c I W p) 33 i x = some (st g n c (u2 I 33 i.toNat x) W p) := s_sI (m := 1000) rfl h0 h1
theorem z8L109 {i : Int} (h0 : 0 ≤ i) (h1 : i < 500) : lI (st g n c I W p) 109 i = some (I 109 i.toNat) := s_lI (m := 500) rfl h0 h1
theorem z8S109 {i x : Int} (h0 : 0 ≤ i) (h1 : i < 500) : sI (st g n c I W p) 109 i x = some (st g n c (u2 I 109 i.toNat x) W p) := s_sI (m := 500) rfl h0 h1
theorem z8L110 {i : Int} (h0 : 0 ≤ i) (h1 : i < 3) : lI (st g n c I W p) 110 i = some (I 110 i.toNat) := s_lI (m := 3) rfl h0 h1
theorem z8S110 {i x : Int} (h0 : 0 ≤ i) (h1 : i < 3) : sI (st g n c I W p) 110 i x = some (st g n c (u2 I 110 i.toNat x) W p) := s_sI (m := 3) rfl h0 h1
/-- the narrowings' places -/
def NB (b : Nat) : Prop := b = 188 ∨ b = 221
variable {b : Nat}
theorem n0I (h : NB b) {k : Nat} : gI (st g n c I W p) b 0 k = some (I b k) := by rcases h with rfl | rfl <;> exact s_gI (m := 15) rfl
theorem n0P (h : NB b) {k : Nat} {x : Int} : pI (st g n c I W p) b 0 k x = some (st g n c (u2 I b k x) W p) := by rcases h with rfl | rfl <;> exact s_pI (m := 15) rfl
theorem n0B (h : NB b) {k : Nat} {x : Int} (hx : x = 0 ∨ x = 1) : pB (st g n c I W p) b 0 k x = some (st g n c (u2 I b k x) W p) := by rcases h with rfl | rfl <;> exact s_pB (m := 15) rfl hx
theorem n0T (h : NB b) : tgO (st g n c I W p) b 0 = some () := by rcases h with rfl | rfl <;> exact s_tgO (m := 15) rfl
theorem n0R0 (h : NB b) : gR (st g n c I W p) b 0 0 = some 34 := by rcases h with rfl | rfl <;> exact s_gR (m := 15) rfl (by decide)
theorem n0R1 (h : NB b) : gR (st g n c I W p) b 0 1 = some 33 := by rcases h with rfl | rfl <;> exact s_gR (m := 15) rfl (by decide)
theorem n0R2 (h : NB b) : gR (st g n c I W p) b 0 2 = some (b + 1) := by rcases h with rfl | rfl <;> exact s_gR (m := 15) rfl (by decide)
theorem n0R3 (h : NB b) : gR (st g n c I W p) b 0 3 = some (b + 14) := by rcases h with rfl | rfl <;> exact s_gR (m := 15) rfl (by decide)
theorem n0R4 (h : NB b) : gR (st g n c I W p) b 0 4 = some (b + 27) := by rcases h with rfl | rfl <;> exact s_gR (m := 15) rfl (by decide)
theorem n0R5 (h : NB b) : gR (st g n c I W p) b 0 5 = some (b + 28) := by rcases h with rfl | rfl <;> exact s_gR (m := 15) rfl (by decide)
theorem n0R6 (h : NB b) : gR (st g n c I W p) b 0 6 = some (b + 29) := by rcases h with rfl | rfl <;> exact s_gR (m := 15) rfl (by decide)
theorem n0R7 (h : NB b) : gR (st g n c I W p) b 0 7 = some (b + 30) := by rcases h with rfl | rfl <;> exact s_gR (m := 15) rfl (by decide)
theorem n0R11 (h : NB b) : gR (st g n c I W p) b 0 11 = some (b + 31) := by rcases h with rfl | rfl <;> exact s_gR (m := 15) rfl (by decide)
theorem n0R12 (h : NB b) : gR (st g n c I W p) b 0 12 = some (b + 32) := by rcases h with rfl | rfl <;> exact s_gR (m := 15) rfl (by decide)
theorem n0L27 (h : NB b) {i : Int} (h0 : 0 ≤ i) (h1 : i < 12) : lI (st g n c I W p) (b + 27) i = some (I (b + 27) i.toNat) := by rcases h with rfl | rfl <;> exact s_lI (m := 12) rfl h0 h1
theorem n0S27 (h : NB b) {i x : Int} (h0 : 0 ≤ i) (h1 : i < 12) : sI (st g n c I W p) (b + 27) i x = some (st g n c (u2 I (b + 27) i.toNat x) W p) := by rcases h with rfl | rfl <;> exact s_sI (m := 12) rfl h0 h1
theorem n0L28 (h : NB b) {i : Int} (h0 : 0 ≤ i) (h1 : i < 12) : lI (st g n c I W p) (b + 28) i = some (I (b + 28) i.toNat) := by rcases h with rfl | rfl <;> exact s_lI (m := 12) rfl h0 h1
theorem n0S28 (h : NB b) {i x : Int} (h0 : 0 ≤ i) (h1 : i < 12) : sI (st g n c I W p) (b + 28) i x = some (st g n c (u2 I (b + 28) i.toNat x) W p) := by rcases h with rfl | rfl <;> exact s_sI (m := 12) rfl h0 h1
theorem n0L29 (h : NB b) {i : Int} (h0 : 0 ≤ i) (h1 : i < 12) : lI (st g n c I W p) (b + 29) i = some (I (b + 29) i.toNat) := by rcases h with rfl | rfl <;> exact s_lI (m := 12) rfl h0 h1
theorem n0S29 (h : NB b) {i x : Int} (h0 : 0 ≤ i) (h1 : i < 12) : sI (st g n c I W p) (b + 29) i x = some (st g n c (u2 I (b + 29) i.toNat x) W p) := by rcases h with rfl | rfl <;> exact s_sI (m := 12) rfl h0 h1
theorem n0L30 (h : NB b) {i : Int} (h0 : 0 ≤ i) (h1 : i < 24) : lI (st g n c I W p) (b + 30) i = some (I (b + 30) i.toNat) := by rcases h with rfl | rfl <;> exact s_lI (m := 24) rfl h0 h1
theorem n0S30 (h : NB b) {i x : Int} (h0 : 0 ≤ i) (h1 : i < 24) : sI (st g n c I W p) (b + 30) i x = some (st g n c (u2 I (b + 30) i.toNat x) W p) := by rcases h with rfl | rfl <;> exact s_sI (m := 24) rfl h0 h1
theorem n0L31 (h : NB b) {i : Int} (h0 : 0 ≤ i) (h1 : i < 1000) : lI (st g n c I W p) (b + 31) i = some (I (b + 31) i.toNat) := by rcases h with rfl | rfl <;> exact s_lI (m := 1000) rfl h0 h1
theorem n0S31 (h : NB b) {i x : Int} (h0 : 0 ≤ i) (h1 : i < 1000) : sI (st g n c I W p) (b + 31) i x = some (st g n c (u2 I (b + 31) i.toNat x) W p) := by rcases h with rfl | rfl <;> exact s_sI (m := 1000) rfl h0 h1
theorem nbF : ∀ g : Bool, ∀ s, s < 12 → HC g (188 + 2 + s) = (52, 16) ∧ HC g (221 + 2 + s) = (52, 16) ∧ HC g (188 + 15 + s) = (52, 16) ∧ HC g (221 + 15 + s) = (52, 16) ∧ RR g (188 + 1) s = 188 + 2 + s ∧ RR g (221 + 1) s = 221 + 2 + s ∧ RR g (188 + 14) s = 188 + 15 + s ∧ RR g (221 + 14) s = 221 + 15 + s := by decide +kernel
theorem n0H2 (h : NB b) {s : Nat} (hs : s < 12) : HC g (b + 2 + s) = (52, 16) := by rcases h with rfl | rfl; exact (nbF g s hs).1; exact (nbF g s hs).2.1
theorem n0H15 (h : NB b) {s : Nat} (hs : s < 12) : HC g (b + 15 + s) = (52, 16) := by rcases h with rfl | rfl; exact (nbF g s hs).2.2.1; exact (nbF g s hs).2.2.2.1
theorem n0H32 (h : NB b) : HC g (b + 32) = (52, 16) := by rcases h with rfl | rfl <;> rfl
theorem n0A1 (h : NB b) {s : Int} (h0 : 0 ≤ s) (h1 : s < 12) : lR (st g n c I W p) (b + 1) s = some (b + 2 + s.toNat) := by
  rcases h with rfl | rfl
  · exact (s_lR (t := 4) (m := 12) rfl (by decide) (by decide) h0 h1).trans (congrArg some (nbF g _ (by omega)).2.2.2.2.1)
  · exact (s_lR (t := 4) (m := 12) rfl (by decide) (by decide) h0 h1).trans (congrArg some (nbF g _ (by omega)).2.2.2.2.2.1)
theorem n0A14 (h : NB b) {s : Int} (h0 : 0 ≤ s) (h1 : s < 12) : lR (st g n c I W p) (b + 14) s = some (b + 15 + s.toNat) := by
  rcases h with rfl | rfl
  · exact (s_lR (t := 4) (m := 12) rfl (by decide) (by decide) h0 h1).trans (congrArg some (nbF g _ (by omega)).2.2.2.2.2.2.1)
  · exact (s_lR (t := 4) (m := 12) rfl (by decide) (by decide) h0 h1).trans (congrArg some (nbF g _ (by omega)).2.2.2.2.2.2.2)
/-- of what is told -/
theorem t5I (h : TB b) {k : Nat} : gI (st g n c I W p) b 5 k = some (I b k) := s_gI (tH0 h)
theorem t5P (h : TB b) {k : Nat} {x : Int} : pI (st g n c I W p) b 5 k x = some (st g n c (u2 I b k x) W p) := s_pI (tH0 h)
theorem t5T (h : TB b) : tgO (st g n c I W p) b 5 = some () := s_tgO (tH0 h)
theorem tb108 (h : TB b) : b ≠ 108 ∧ b + 1 ≠ 108 ∧ b + 2 ≠ 108 ∧ b + 3 ≠ 108 ∧ b + 4 ≠ 108 ∧ b + 5 ≠ 108 ∧ ∀ k, k < 74 → b + k ≠ 108 := by
  have := TB_rng h
  refine ⟨by omega, by omega, by omega, by omega, by omega, by omega, fun k hk => by omega⟩
theorem t5R6 (h : TB b) : gR (st g n c I W p) b 5 6 = some (b + 1) := (s_gR (tH0 h) (tb108 h).1).trans (congrArg some (tR6 h))
theorem t5R7 (h : TB b) : gR (st g n c I W p) b 5 7 = some (b + 2) := (s_gR (tH0 h) (tb108 h).1).trans (congrArg some (tR7 h))
theorem t5R8 (h : TB b) : gR (st g n c I W p) b 5 8 = some (b + 3) := (s_gR (tH0 h) (tb108 h).1).trans (congrArg some (tR8 h))
theorem t5R9 (h : TB b) : gR (st g n c I W p) b 5 9 = some (b + 4) := (s_gR (tH0 h) (tb108 h).1).trans (congrArg some (tR9 h))
theorem t5R10 (h : TB b) : gR (st g n c I W p) b 5 10 = some (b + 5) := (s_gR (tH0 h) (tb108 h).1).trans (congrArg some (tR10 h))
theorem t5L1 (h : TB b) {i : Int} (h0 : 0 ≤ i) (h1 : i < 16) : lI (st g n c I W p) (b + 1) i = some (I (b + 1) i.toNat) := s_lI (tH1 h) h0 h1
theorem t5L2 (h : TB b) {i : Int} (h0 : 0 ≤ i) (h1 : i < 16) : lI (st g n c I W p) (b + 2) i = some (I (b + 2) i.toNat) := s_lI (tH2 h) h0 h1
theorem t5S1 (h : TB b) {i x : Int} (h0 : 0 ≤ i) (h1 : i < 16) : sI (st g n c I W p) (b + 1) i x = some (st g n c (u2 I (b + 1) i.toNat x) W p) := s_sI (tH1 h) h0 h1
theorem t5S2 (h : TB b) {i x : Int} (h0 : 0 ≤ i) (h1 : i < 16) : sI (st g n c I W p) (b + 2) i x = some (st g n c (u2 I (b + 2) i.toNat x) W p) := s_sI (tH2 h) h0 h1
theorem t5A3 (h : TB b) {i : Int} (h0 : 0 ≤ i) (h1 : i < 12) : lR (st g n c I W p) (b + 3) i = some (b + 6 + 3 * i.toNat) := (s_lR (t := 1) (tH3 h) (by decide) (tb108 h).2.2.2.1 h0 h1).trans (congrArg some (tRs h (by omega)))
theorem t5A4 (h : TB b) {i : Int} (h0 : 0 ≤ i) (h1 : i < 4) : lR (st g n c I W p) (b + 4) i = some (b + 42 + 2 * i.toNat) := (s_lR (t := 2) (tH4 h) (by decide) (tb108 h).2.2.2.2.1 h0 h1).trans (congrArg some (tRp h (by omega)))
theorem t5A5 (h : TB b) {i : Int} (h0 : 0 ≤ i) (h1 : i < 24) : lR (st g n c I W p) (b + 5) i = some (b + 50 + i.toNat) := (s_lR (t := 3) (tH5 h) (by decide) (tb108 h).2.2.2.2.2.1 h0 h1).trans (congrArg some (tRr h (by omega)))
theorem t4I (h : TB b) {s k : Nat} (hs : s < 12) : gI (st g n c I W p) (b + 6 + 3 * s) 4 k = some (I (b + 6 + 3 * s) k) := s_gI (tHs h hs)
theorem t4P (h : TB b) {s k : Nat} {x : Int} (hs : s < 12) : pI (st g n c I W p) (b + 6 + 3 * s) 4 k x = some (st g n c (u2 I (b + 6 + 3 * s) k x) W p) := s_pI (tHs h hs)
theorem t4B (h : TB b) {s k : Nat} {x : Int} (hs : s < 12) (hx : x = 0 ∨ x = 1) : pB (st g n c I W p) (b + 6 + 3 * s) 4 k x = some (st g n c (u2 I (b + 6 + 3 * s) k x) W p) := s_pB (tHs h hs) hx
theorem t4R3 (h : TB b) {s : Nat} (hs : s < 12) : gR (st g n c I W p) (b + 6 + 3 * s) 4 3 = some (b + 6 + 3 * s + 1) := (s_gR (tHs h hs) (by have := TB_rng h; omega)).trans (congrArg some (tRs3 h hs))
theorem t4R4 (h : TB b) {s : Nat} (hs : s < 12) : gR (st g n c I W p) (b + 6 + 3 * s) 4 4 = some (b + 6 + 3 * s + 2) := (s_gR (tHs h hs) (by have := TB_rng h; omega)).trans (congrArg some (tRs4 h hs))
theorem t4L1 (h : TB b) {s : Nat} {i : Int} (hs : s < 12) (h0 : 0 ≤ i) (h1 : i < 6) : lI (st g n c I W p) (b + 6 + 3 * s + 1) i = some (I (b + 6 + 3 * s + 1) i.toNat) := s_lI (tHs1 h hs) h0 h1
theorem t4L2 (h : TB b) {s : Nat} {i : Int} (hs : s < 12) (h0 : 0 ≤ i) (h1 : i < 6) : lI (st g n c I W p) (b + 6 + 3 * s + 2) i = some (I (b + 6 + 3 * s + 2) i.toNat) := s_lI (tHs2 h hs) h0 h1
theorem t1I (h : TB b) {s k : Nat} (hs : s < 4) : gI (st g n c I W p) (b + 42 + 2 * s) 1 k = some (I (b + 42 + 2 * s) k) := s_gI (tHp h hs)
theorem t1P (h : TB b) {s k : Nat} {x : Int} (hs : s < 4) : pI (st g n c I W p) (b + 42 + 2 * s) 1 k x = some (st g n c (u2 I (b + 42 + 2 * s) k x) W p) := s_pI (tHp h hs)
theorem t1R1 (h : TB b) {s : Nat} (hs : s < 4) : gR (st g n c I W p) (b + 42 + 2 * s) 1 1 = some (b + 42 + 2 * s + 1) := (s_gR (tHp h hs) (by have := TB_rng h; omega)).trans (congrArg some (tRp1 h hs))
theorem t1L1 (h : TB b) {s : Nat} {i : Int} (hs : s < 4) (h0 : 0 ≤ i) (h1 : i < 6) : lI (st g n c I W p) (b + 42 + 2 * s + 1) i = some (I (b + 42 + 2 * s + 1) i.toNat) := s_lI (tHp1 h hs) h0 h1
theorem t3I (h : TB b) {s k : Nat} (hs : s < 24) : gI (st g n c I W p) (b + 50 + s) 3 k = some (I (b + 50 + s) k) := s_gI (tHr h hs)
theorem t3P (h : TB b) {s k : Nat} {x : Int} (hs : s < 24) : pI (st g n c I W p) (b + 50 + s) 3 k x = some (st g n c (u2 I (b + 50 + s) k x) W p) := s_pI (tHr h hs)
theorem t3T (h : TB b) {s : Nat} (hs : s < 24) : tgO (st g n c I W p) (b + 50 + s) 3 = some () := s_tgO (tHr h hs)
theorem t1T (h : TB b) {s : Nat} (hs : s < 4) : tgO (st g n c I W p) (b + 42 + 2 * s) 1 = some () := s_tgO (tHp h hs)
theorem t4T (h : TB b) {s : Nat} (hs : s < 12) : tgO (st g n c I W p) (b + 6 + 3 * s) 4 = some () := s_tgO (tHs h hs)
end R8
