def D_X8_sample_96 (y0 : Int) (σ : mS) : Option ((Int ⊕ Nat) × mS) :=
  some (Sum.inl y0, σ)
set_option maxRecDepth 100000 in
set_option maxHeartbeats 4000000 in
theorem lk_X8_sample_96 {G : mG} {y0 : Int} {σ : mS} {R : ((Int ⊕ Nat) × mS)} (hD : D_X8_sample_96 y0 σ = some R) : Ev G M_X8_sample 96 [] [vi y0] σ (mRsI R.1) R.2 := by
  unfold D_X8_sample_96 at hD
  cases hD
  exact ev_ret (some (vi _)) dX8_sample_96 True.intro
def D_X8_sample_21 (x0 : Nat) (x1 : Int) (x2 : Int) (y0 : Int) (y1 : Nat) (σ : mS) : Option ((Int ⊕ Nat) × mS) :=
  (tgO σ y1 7).bind fun _ =>
  (D_X8_needArgument y1 y0 σ).bind fun r1 =>
  match r1 with
  | (Sum.inl _, s4) =>
    if x2 = 0 then
      (gR s4 x0 7 1).bind fun v5 =>
      (gR s4 v5 5 8).bind fun v6 =>
      (lR s4 v6 x1).bind fun v7 =>
      (gI s4 v7 4 0).bind fun v8 =>
      if v8 = 0 then
        D_X8_sample_96 0 s4
      else
        D_X8_sample_96 1 s4
    else
    if x2 = 1 then
      (gR s4 x0 7 1).bind fun v9 =>
      (gR s4 v9 5 8).bind fun v10 =>
      (lR s4 v10 x1).bind fun v11 =>
      (gI s4 v11 4 1).bind fun v12 =>
      some (Sum.inl v12, s4)
    else
    if x2 = 2 then
      (gR s4 x0 7 1).bind fun v13 =>
      (gR s4 v13 5 8).bind fun v14 =>
      (lR s4 v14 x1).bind fun v15 =>
      (gI s4 v15 4 2).bind fun v16 =>
      some (Sum.inl v16, s4)
    else
    if x2 = 3 then
      (gR s4 x0 7 9).bind fun v17 =>
      (gR s4 v17 0 2).bind fun v18 =>
      (lR s4 v18 x1).bind fun v19 =>
      (D_X7_count v19 s4).bind fun r20 =>
      some (Sum.inl r20, s4)
    else
    if x2 = 4 then
      (gR s4 x0 7 9).bind fun v21 =>
      (gR s4 v21 0 4).bind fun v22 =>
      (lI s4 v22 x1).bind fun v23 =>
      some (Sum.inl v23, s4)
    else
    if x2 = 5 then
      (gR s4 x0 7 9).bind fun v24 =>
      (gR s4 v24 0 5).bind fun v25 =>
      (lI s4 v25 x1).bind fun v26 =>
      some (Sum.inl v26, s4)
    else
    if x2 = 6 then
      (gR s4 x0 7 9).bind fun v27 =>
      (gR s4 v27 0 6).bind fun v28 =>
      (lI s4 v28 x1).bind fun v29 =>
      some (Sum.inl v29, s4)
    else
    if x2 = 7 then
      (gR s4 x0 7 9).bind fun v30 =>
      (gR s4 v30 0 3).bind fun v31 =>
      (lR s4 v31 x1).bind fun v32 =>
      (D_X7_intervals v32 s4).bind fun r33 =>
      some (Sum.inl r33, s4)
    else
    if x2 = 8 then
      (gR s4 x0 7 9).bind fun v34 =>
      (tgO s4 v34 0).bind fun _ =>
      (D_X0_bestYear v34 x1 s4).bind fun r35 =>
      some (Sum.inl r35, s4)
    else
      (gR s4 x0 7 9).bind fun v36 =>
      (tgO s4 v36 0).bind fun _ =>
      (D_X0_bestYear v36 x1 s4).bind fun r37 =>
      (tgO s4 x0 7).bind fun _ =>
      (D_X8_misfitOf x0 x1 r37 s4).bind fun r38 =>
      some (Sum.inl r38, s4)
  | (Sum.inr e3, s4) => some (Sum.inr e3, s4)
set_option maxRecDepth 100000 in
set_option maxHeartbeats 4000000 in
theorem lk_X8_sample_21 {G : mG} {x0 : Nat} {x1 : Int} {x2 : Int} {y0 : Int} {y1 : Nat} {σ : mS} {R : ((Int ⊕ Nat) × mS)} (hD : D_X8_sample_21 x0 x1 x2 y0 y1 σ = some R) : Ev G M_X8_sample 21 [(0, vr x0), (1, vi x1), (2, vi x2)] [vi y0, vr y1] σ (mRsI R.1) R.2 := by
  unfold D_X8_sample_21 at hD
  obtain ⟨_, g0, hD⟩ := bd hD
  obtain ⟨r1, g, hD⟩ := bd hD
  obtain ⟨v2 | e3, s4⟩ := r1
  · refine ew_callV0 (as := [vi y0]) (a := y1) (rest := []) dX8_sample_21 v_X8_needArgument w_714 rfl (Nat.le_of_ble_eq_true rfl) rfl rfl g0 (Nat.le_of_ble_eq_true rfl) (Nat.le_of_ble_eq_true rfl) (ct_X8_needArgument g) ?_
    dsimp only at hD
    refine ev_iload_n dX8_sample_24 2 rfl rfl ?_
    by_cases c0 : x2 = 0
    · rw [if_pos c0] at hD
      refine ev_tableIn (off := 51) (tgt := 76) dX8_sample_25 (by omega) (by omega) (by rw [c0]; rfl) (by decide) ?_
      refine ev_aload_n dX8_sample_76 0 rfl rfl ?_
      obtain ⟨v5, g, hD⟩ := bd hD
      refine ew_getR 7 1 dX8_sample_77 rfl (Nat.le_of_ble_eq_true rfl) w_591 in_X8 rfl g ?_
      obtain ⟨v6, g, hD⟩ := bd hD
      refine ew_getR 5 8 dX8_sample_80 rfl (Nat.le_of_ble_eq_true rfl) w_296 in_X5 rfl g ?_
      refine ev_iload_n dX8_sample_83 1 rfl rfl ?_
      obtain ⟨v7, g, hD⟩ := bd hD
      refine ew_aald dX8_sample_84 g ?_
      obtain ⟨v8, g, hD⟩ := bd hD
      refine ew_getI 4 0 dX8_sample_85 rfl (Nat.le_of_ble_eq_true rfl) w_176 in_X4 rfl g ?_
      by_cases c : v8 = 0
      · rw [if_pos c] at hD
        refine ev_if_eq_t (tgt := 95) dX8_sample_88 (by decide) c ?_
        refine ev_iconst dX8_sample_95 (mi_c rfl) ?_
        refine Ev.pick [] rfl ?_
        exact lk_X8_sample_96 hD
      · rw [if_neg c] at hD
        refine ev_if_eq_f 95 dX8_sample_88 (by decide) c ?_
        refine ev_iconst dX8_sample_91 (mi_c rfl) ?_
        refine ev_goto (tgt := 96) dX8_sample_92 (by decide) ?_
        refine Ev.pick [] rfl ?_
        exact lk_X8_sample_96 hD
    rw [if_neg c0] at hD
    by_cases c1 : x2 = 1
    · rw [if_pos c1] at hD
      refine ev_tableIn (off := 72) (tgt := 97) dX8_sample_25 (by omega) (by omega) (by rw [c1]; rfl) (by decide) ?_
      refine ev_aload_n dX8_sample_97 0 rfl rfl ?_
      obtain ⟨v9, g, hD⟩ := bd hD
      refine ew_getR 7 1 dX8_sample_98 rfl (Nat.le_of_ble_eq_true rfl) w_591 in_X8 rfl g ?_
      obtain ⟨v10, g, hD⟩ := bd hD
      refine ew_getR 5 8 dX8_sample_101 rfl (Nat.le_of_ble_eq_true rfl) w_296 in_X5 rfl g ?_
      refine ev_iload_n dX8_sample_104 1 rfl rfl ?_
      obtain ⟨v11, g, hD⟩ := bd hD
      refine ew_aald dX8_sample_105 g ?_
      obtain ⟨v12, g, hD⟩ := bd hD
      refine ew_getI 4 1 dX8_sample_106 rfl (Nat.le_of_ble_eq_true rfl) w_180 in_X4 rfl g ?_
      cases hD
      exact ev_ret (some (vi _)) dX8_sample_109 True.intro
    rw [if_neg c1] at hD
    by_cases c2 : x2 = 2
    · rw [if_pos c2] at hD
      refine ev_tableIn (off := 85) (tgt := 110) dX8_sample_25 (by omega) (by omega) (by rw [c2]; rfl) (by decide) ?_
      refine ev_aload_n dX8_sample_110 0 rfl rfl ?_
      obtain ⟨v13, g, hD⟩ := bd hD
      refine ew_getR 7 1 dX8_sample_111 rfl (Nat.le_of_ble_eq_true rfl) w_591 in_X8 rfl g ?_
      obtain ⟨v14, g, hD⟩ := bd hD
      refine ew_getR 5 8 dX8_sample_114 rfl (Nat.le_of_ble_eq_true rfl) w_296 in_X5 rfl g ?_
      refine ev_iload_n dX8_sample_117 1 rfl rfl ?_
      obtain ⟨v15, g, hD⟩ := bd hD
      refine ew_aald dX8_sample_118 g ?_
      obtain ⟨v16, g, hD⟩ := bd hD
      refine ew_getI 4 2 dX8_sample_119 rfl (Nat.le_of_ble_eq_true rfl) w_184 in_X4 rfl g ?_
      cases hD
      exact ev_ret (some (vi _)) dX8_sample_122 True.intro
    rw [if_neg c2] at hD
    by_cases c3 : x2 = 3
    · rw [if_pos c3] at hD
      refine ev_tableIn (off := 98) (tgt := 123) dX8_sample_25 (by omega) (by omega) (by rw [c3]; rfl) (by decide) ?_
      refine ev_aload_n dX8_sample_123 0 rfl rfl ?_
      obtain ⟨v17, g, hD⟩ := bd hD
      refine ew_getR 7 9 dX8_sample_124 rfl (Nat.le_of_ble_eq_true rfl) w_599 in_X8 rfl g ?_
      obtain ⟨v18, g, hD⟩ := bd hD
      refine ew_getR 0 2 dX8_sample_127 rfl (Nat.le_of_ble_eq_true rfl) w_390 in_X0 rfl g ?_
      refine ev_iload_n dX8_sample_130 1 rfl rfl ?_
      obtain ⟨v19, g, hD⟩ := bd hD
      refine ew_aald dX8_sample_131 g ?_
      obtain ⟨r20, g, hD⟩ := bd hD
      refine ew_callSv (as := [vr v19]) (rest := []) dX8_sample_132 v_X7_count w_1095 rfl (Nat.le_of_ble_eq_true rfl) (Nat.le_of_ble_eq_true rfl) (Nat.le_of_ble_eq_true rfl) (ct_X7_count g) ?_
      cases hD
      exact ev_ret (some (vi _)) dX8_sample_135 True.intro
    rw [if_neg c3] at hD
    by_cases c4 : x2 = 4
    · rw [if_pos c4] at hD
      refine ev_tableIn (off := 111) (tgt := 136) dX8_sample_25 (by omega) (by omega) (by rw [c4]; rfl) (by decide) ?_
      refine ev_aload_n dX8_sample_136 0 rfl rfl ?_
      obtain ⟨v21, g, hD⟩ := bd hD
      refine ew_getR 7 9 dX8_sample_137 rfl (Nat.le_of_ble_eq_true rfl) w_599 in_X8 rfl g ?_
      obtain ⟨v22, g, hD⟩ := bd hD
      refine ew_getR 0 4 dX8_sample_140 rfl (Nat.le_of_ble_eq_true rfl) w_395 in_X0 rfl g ?_
      refine ev_iload_n dX8_sample_143 1 rfl rfl ?_
      obtain ⟨v23, g, hD⟩ := bd hD
      refine ew_iald dX8_sample_144 g ?_
      cases hD
      exact ev_ret (some (vi _)) dX8_sample_145 True.intro
    rw [if_neg c4] at hD
    by_cases c5 : x2 = 5
    · rw [if_pos c5] at hD
      refine ev_tableIn (off := 121) (tgt := 146) dX8_sample_25 (by omega) (by omega) (by rw [c5]; rfl) (by decide) ?_
      refine ev_aload_n dX8_sample_146 0 rfl rfl ?_
      obtain ⟨v24, g, hD⟩ := bd hD
      refine ew_getR 7 9 dX8_sample_147 rfl (Nat.le_of_ble_eq_true rfl) w_599 in_X8 rfl g ?_
      obtain ⟨v25, g, hD⟩ := bd hD
      refine ew_getR 0 5 dX8_sample_150 rfl (Nat.le_of_ble_eq_true rfl) w_397 in_X0 rfl g ?_
      refine ev_iload_n dX8_sample_153 1 rfl rfl ?_
      obtain ⟨v26, g, hD⟩ := bd hD
      refine ew_iald dX8_sample_154 g ?_
      cases hD
      exact ev_ret (some (vi _)) dX8_sample_155 True.intro
    rw [if_neg c5] at hD
    by_cases c6 : x2 = 6
    · rw [if_pos c6] at hD
      refine ev_tableIn (off := 131) (tgt := 156) dX8_sample_25 (by omega) (by omega) (by rw [c6]; rfl) (by decide) ?_
      refine ev_aload_n dX8_sample_156 0 rfl rfl ?_
      obtain ⟨v27, g, hD⟩ := bd hD
      refine ew_getR 7 9 dX8_sample_157 rfl (Nat.le_of_ble_eq_true rfl) w_599 in_X8 rfl g ?_
      obtain ⟨v28, g, hD⟩ := bd hD
      refine ew_getR 0 6 dX8_sample_160 rfl (Nat.le_of_ble_eq_true rfl) w_399 in_X0 rfl g ?_
      refine ev_iload_n dX8_sample_163 1 rfl rfl ?_
      obtain ⟨v29, g, hD⟩ := bd hD
      refine ew_iald dX8_sample_164 g ?_
      cases hD
      exact ev_ret (some (vi _)) dX8_sample_165 True.intro
    rw [if_neg c6] at hD
    by_cases c7 : x2 = 7
    · rw [if_pos c7] at hD
      refine ev_tableIn (off := 141) (tgt := 166) dX8_sample_25 (by omega) (by omega) (by rw [c7]; rfl) (by decide) ?_
      refine ev_aload_n dX8_sample_166 0 rfl rfl ?_
      obtain ⟨v30, g, hD⟩ := bd hD
      refine ew_getR 7 9 dX8_sample_167 rfl (Nat.le_of_ble_eq_true rfl) w_599 in_X8 rfl g ?_
      obtain ⟨v31, g, hD⟩ := bd hD
      refine ew_getR 0 3 dX8_sample_170 rfl (Nat.le_of_ble_eq_true rfl) w_393 in_X0 rfl g ?_
      refine ev_iload_n dX8_sample_173 1 rfl rfl ?_
      obtain ⟨v32, g, hD⟩ := bd hD
      refine ew_aald dX8_sample_174 g ?_
      obtain ⟨r33, g, hD⟩ := bd hD
      refine ew_callSv (as := [vr v32]) (rest := []) dX8_sample_175 v_X7_intervals w_1099 rfl (Nat.le_of_ble_eq_true rfl) (Nat.le_of_ble_eq_true rfl) (Nat.le_of_ble_eq_true rfl) (ct_X7_intervals g) ?_
      cases hD
      exact ev_ret (some (vi _)) dX8_sample_178 True.intro
    rw [if_neg c7] at hD
    by_cases c8 : x2 = 8
    · rw [if_pos c8] at hD
      refine ev_tableIn (off := 154) (tgt := 179) dX8_sample_25 (by omega) (by omega) (by rw [c8]; rfl) (by decide) ?_
      refine ev_aload_n dX8_sample_179 0 rfl rfl ?_
      obtain ⟨v34, g, hD⟩ := bd hD
      refine ew_getR 7 9 dX8_sample_180 rfl (Nat.le_of_ble_eq_true rfl) w_599 in_X8 rfl g ?_
      refine ev_iload_n dX8_sample_183 1 rfl rfl ?_
      obtain ⟨_, g0, hD⟩ := bd hD
      obtain ⟨r35, g, hD⟩ := bd hD
      refine ew_callVv (as := [vi x1]) (a := v34) (rest := []) dX8_sample_184 v_X0_bestYear w_1104 rfl (Nat.le_of_ble_eq_true rfl) rfl rfl g0 (Nat.le_of_ble_eq_true rfl) (Nat.le_of_ble_eq_true rfl) (ct_X0_bestYear g) ?_
      cases hD
      exact ev_ret (some (vi _)) dX8_sample_187 True.intro
    rw [if_neg c8] at hD
    refine ev_tableOut (tgt := 188) dX8_sample_25 (by omega) (by decide) ?_
    refine ev_aload_n dX8_sample_188 0 rfl rfl ?_
    refine ev_iload_n dX8_sample_189 1 rfl rfl ?_
    refine ev_aload_n dX8_sample_190 0 rfl rfl ?_
    obtain ⟨v36, g, hD⟩ := bd hD
    refine ew_getR 7 9 dX8_sample_191 rfl (Nat.le_of_ble_eq_true rfl) w_599 in_X8 rfl g ?_
    refine ev_iload_n dX8_sample_194 1 rfl rfl ?_
    obtain ⟨_, g0, hD⟩ := bd hD
    obtain ⟨r37, g, hD⟩ := bd hD
    refine ew_callVv (as := [vi x1]) (a := v36) (rest := [vi x1, vr x0]) dX8_sample_195 v_X0_bestYear w_1104 rfl (Nat.le_of_ble_eq_true rfl) rfl rfl g0 (Nat.le_of_ble_eq_true rfl) (Nat.le_of_ble_eq_true rfl) (ct_X0_bestYear g) ?_
    obtain ⟨_, g0, hD⟩ := bd hD
    obtain ⟨r38, g, hD⟩ := bd hD
    refine ew_callVv (as := [vi x1, vi r37]) (a := x0) (rest := []) dX8_sample_198 v_X8_misfitOf w_1108 rfl (Nat.le_of_ble_eq_true rfl) rfl rfl g0 (Nat.le_of_ble_eq_true rfl) (Nat.le_of_ble_eq_true rfl) (ct_X8_misfitOf g) ?_
    cases hD
    exact ev_ret (some (vi _)) dX8_sample_201 True.intro
  · cases hD
    exact ev_thrV (as := [vi y0]) (a := y1) (rest := []) dX8_sample_21 v_X8_needArgument w_714 rfl (Nat.le_of_ble_eq_true rfl) rfl rfl (tgO_s g0) (Nat.le_of_ble_eq_true rfl) (Nat.le_of_ble_eq_true rfl) rfl (ct_X8_needArgument g)
def D_X8_sample_20 (x0 : Nat) (x1 : Int) (x2 : Int) (y0 : Nat) (σ : mS) : Option ((Int ⊕ Nat) × mS) :=
  D_X8_sample_21 x0 x1 x2 0 y0 σ
set_option maxRecDepth 100000 in
set_option maxHeartbeats 4000000 in
theorem lk_X8_sample_20 {G : mG} {x0 : Nat} {x1 : Int} {x2 : Int} {y0 : Nat} {σ : mS} {R : ((Int ⊕ Nat) × mS)} (hD : D_X8_sample_20 x0 x1 x2 y0 σ = some R) : Ev G M_X8_sample 20 [(0, vr x0), (1, vi x1), (2, vi x2)] [vr y0] σ (mRsI R.1) R.2 := by
  unfold D_X8_sample_20 at hD
  refine ev_iconst dX8_sample_20 (mi_c rfl) ?_
  exact lk_X8_sample_21 hD
def D_X8_sample (x0 : Nat) (x1 : Int) (x2 : Int) (σ : mS) : Option ((Int ⊕ Nat) × mS) :=
  (tgO σ x0 7).bind fun _ =>
  (D_X8_needSample x0 x1 σ).bind fun r1 =>
  match r1 with
  | (Sum.inl _, s4) =>
    if x2 < 0 then
      D_X8_sample_20 x0 x1 x2 x0 s4
    else
      if 9 < x2 then
        D_X8_sample_20 x0 x1 x2 x0 s4
      else
        D_X8_sample_21 x0 x1 x2 1 x0 s4
  | (Sum.inr e3, s4) => some (Sum.inr e3, s4)
set_option maxRecDepth 100000 in
set_option maxHeartbeats 4000000 in
theorem lk_X8_sample {G : mG} {x0 : Nat} {x1 : Int} {x2 : Int} {σ : mS} {R : ((Int ⊕ Nat) × mS)} (hD : D_X8_sample x0 x1 x2 σ = some R) : Ev G M_X8_sample 0 [(0, vr x0), (1, vi x1), (2, vi x2)] [] σ (mRsI R.1) R.2 := by
  unfold D_X8_sample at hD
  refine ev_aload_n dX8_sample_0 0 rfl rfl ?_
  refine ev_iload_n dX8_sample_1 1 rfl rfl ?_
  obtain ⟨_, g0, hD⟩ := bd hD
  obtain ⟨r1, g, hD⟩ := bd hD
  obtain ⟨v2 | e3, s4⟩ := r1
  · refine ew_callV0 (as := [vi x1]) (a := x0) (rest := []) dX8_sample_2 v_X8_needSample w_968 rfl (Nat.le_of_ble_eq_true rfl) rfl rfl g0 (Nat.le_of_ble_eq_true rfl) (Nat.le_of_ble_eq_true rfl) (ct_X8_needSample g) ?_
    dsimp only at hD
    refine ev_aload_n dX8_sample_5 0 rfl rfl ?_
    refine ev_iload_n dX8_sample_6 2 rfl rfl ?_
    by_cases c : x2 < 0
    · rw [if_pos c] at hD
      refine ev_if_lt_t (tgt := 20) dX8_sample_7 (by decide) c ?_
      exact lk_X8_sample_20 hD
    · rw [if_neg c] at hD
      refine ev_if_lt_f 20 dX8_sample_7 (by decide) c ?_
      refine ev_iload_n dX8_sample_10 2 rfl rfl ?_
      refine ev_bp dX8_sample_11 rfl ?_
      by_cases c : 9 < x2
      · rw [if_pos c] at hD
        refine ev_icmp_gt_t (tgt := 20) dX8_sample_13 (by decide) c ?_
        exact lk_X8_sample_20 hD
      · rw [if_neg c] at hD
        refine ev_icmp_gt_f 20 dX8_sample_13 (by decide) c ?_
        refine ev_iconst dX8_sample_16 (mi_c rfl) ?_
        refine ev_goto (tgt := 21) dX8_sample_17 (by decide) ?_
        exact lk_X8_sample_21 hD
  · cases hD
    exact ev_thrV (as := [vi x1]) (a := x0) (rest := []) dX8_sample_2 v_X8_needSample w_968 rfl (Nat.le_of_ble_eq_true rfl) rfl rfl (tgO_s g0) (Nat.le_of_ble_eq_true rfl) (Nat.le_of_ble_eq_true rfl) rfl (ct_X8_needSample g)
theorem ct_X8_sample {G : mG} {x0 : Nat} {x1 : Int} {x2 : Int} {σ : mS} {R : ((Int ⊕ Nat) × mS)} (hD : D_X8_sample x0 x1 x2 σ = some R) : Ct G M_X8_sample [vr x0, vi x1, vi x2] σ (mRsI R.1) R.2 := ct_of rfl (by decide +kernel) rfl (Nat.le_of_ble_eq_true rfl) rfl (lk_X8_sample hD)
def D_X8_interval_80 (y0 : Int) (σ : mS) : Option ((Int ⊕ Nat) × mS) :=
  some (Sum.inl y0, σ)
set_option maxRecDepth 100000 in
set_option maxHeartbeats 4000000 in
theorem lk_X8_interval_80 {G : mG} {y0 : Int} {σ : mS} {R : ((Int ⊕ Nat) × mS)} (hD : D_X8_interval_80 y0 σ = some R) : Ev G M_X8_interval 80 [] [vi y0] σ (mRsI R.1) R.2 := by
  unfold D_X8_interval_80 at hD
  cases hD
  exact ev_ret (some (vi _)) dX8_interval_80 True.intro
def D_X8_interval_52 (x0 : Nat) (x1 : Int) (x3 : Int) (x4 : Int) (y0 : Int) (y1 : Nat) (σ : mS) : Option ((Int ⊕ Nat) × mS) :=
  (tgO σ y1 7).bind fun _ =>
  (D_X8_needArgument y1 y0 σ).bind fun r1 =>
  match r1 with
  | (Sum.inl _, s4) =>
    if x3 ≠ 0 then
      (gR s4 x0 7 9).bind fun v5 =>
      (gR s4 v5 0 3).bind fun v6 =>
      (lR s4 v6 x1).bind fun v7 =>
      (D_X7_nextOut v7 x4 s4).bind fun r8 =>
      D_X8_interval_80 (mw (r8 - 1)) s4
    else
      D_X8_interval_80 x4 s4
  | (Sum.inr e3, s4) => some (Sum.inr e3, s4)
set_option maxRecDepth 100000 in
set_option maxHeartbeats 4000000 in
theorem lk_X8_interval_52 {G : mG} {x0 : Nat} {x1 : Int} {x3 : Int} {x4 : Int} {y0 : Int} {y1 : Nat} {σ : mS} {R : ((Int ⊕ Nat) × mS)} (hD : D_X8_interval_52 x0 x1 x3 x4 y0 y1 σ = some R) : Ev G M_X8_interval 52 [(0, vr x0), (1, vi x1), (3, vi x3), (4, vi x4)] [vi y0, vr y1] σ (mRsI R.1) R.2 := by
  unfold D_X8_interval_52 at hD
  obtain ⟨_, g0, hD⟩ := bd hD
  obtain ⟨r1, g, hD⟩ := bd hD
  obtain ⟨v2 | e3, s4⟩ := r1
  · refine ew_callV0 (as := [vi y0]) (a := y1) (rest := []) dX8_interval_52 v_X8_needArgument w_714 rfl (Nat.le_of_ble_eq_true rfl) rfl rfl g0 (Nat.le_of_ble_eq_true rfl) (Nat.le_of_ble_eq_true rfl) (ct_X8_needArgument g) ?_
    dsimp only at hD
    refine ev_iload_n dX8_interval_55 2 rfl rfl ?_
    by_cases c : x3 ≠ 0
    · rw [if_pos c] at hD
      refine ev_if_ne_t (tgt := 64) dX8_interval_56 (by decide) c ?_
      refine ev_aload_n dX8_interval_64 0 rfl rfl ?_
      obtain ⟨v5, g, hD⟩ := bd hD
      refine ew_getR 7 9 dX8_interval_65 rfl (Nat.le_of_ble_eq_true rfl) w_599 in_X8 rfl g ?_
      obtain ⟨v6, g, hD⟩ := bd hD
      refine ew_getR 0 3 dX8_interval_68 rfl (Nat.le_of_ble_eq_true rfl) w_393 in_X0 rfl g ?_
      refine ev_iload_n dX8_interval_71 1 rfl rfl ?_
      obtain ⟨v7, g, hD⟩ := bd hD
      refine ew_aald dX8_interval_72 g ?_
      refine ev_iload dX8_interval_73 3 rfl ?_
      obtain ⟨r8, g, hD⟩ := bd hD
      refine ew_callSv (as := [vr v7, vi x4]) (rest := []) dX8_interval_75 v_X7_nextOut w_700 rfl (Nat.le_of_ble_eq_true rfl) (Nat.le_of_ble_eq_true rfl) (Nat.le_of_ble_eq_true rfl) (ct_X7_nextOut g) ?_
      refine ev_iconst dX8_interval_78 (mi_c rfl) ?_
      refine ev_isub dX8_interval_79 ?_
      refine Ev.pick [] rfl ?_
      exact lk_X8_interval_80 hD
    · rw [if_neg c] at hD
      refine ev_if_ne_f 64 dX8_interval_56 (by decide) c ?_
      refine ev_iload dX8_interval_59 3 rfl ?_
      refine ev_goto (tgt := 80) dX8_interval_61 (by decide) ?_
      refine Ev.pick [] rfl ?_
      exact lk_X8_interval_80 hD
  · cases hD
    exact ev_thrV (as := [vi y0]) (a := y1) (rest := []) dX8_interval_52 v_X8_needArgument w_714 rfl (Nat.le_of_ble_eq_true rfl) rfl rfl (tgO_s g0) (Nat.le_of_ble_eq_true rfl) (Nat.le_of_ble_eq_true rfl) rfl (ct_X8_needArgument g)
def D_X8_interval_47 (x0 : Nat) (x1 : Int) (x3 : Int) (x4 : Int) (y0 : Nat) (σ : mS) : Option ((Int ⊕ Nat) × mS) :=
  D_X8_interval_52 x0 x1 x3 x4 1 y0 σ
set_option maxRecDepth 100000 in
set_option maxHeartbeats 4000000 in
theorem lk_X8_interval_47 {G : mG} {x0 : Nat} {x1 : Int} {x3 : Int} {x4 : Int} {y0 : Nat} {σ : mS} {R : ((Int ⊕ Nat) × mS)} (hD : D_X8_interval_47 x0 x1 x3 x4 y0 σ = some R) : Ev G M_X8_interval 47 [(0, vr x0), (1, vi x1), (3, vi x3), (4, vi x4)] [vr y0] σ (mRsI R.1) R.2 := by
  unfold D_X8_interval_47 at hD
  refine ev_iconst dX8_interval_47 (mi_c rfl) ?_
  refine ev_goto (tgt := 52) dX8_interval_48 (by decide) ?_
  exact lk_X8_interval_52 hD
def D_X8_interval_34 (x0 : Nat) (x1 : Int) (x3 : Int) (x4 : Int) (y0 : Int) (y1 : Nat) (σ : mS) : Option ((Int ⊕ Nat) × mS) :=
  (tgO σ y1 7).bind fun _ =>
  (D_X8_needThere y1 y0 σ).bind fun r1 =>
  match r1 with
  | (Sum.inl _, s4) =>
    if x3 = 0 then
      D_X8_interval_47 x0 x1 x3 x4 x0 s4
    else
      if x3 ≠ 1 then
        D_X8_interval_52 x0 x1 x3 x4 0 x0 s4
      else
        D_X8_interval_47 x0 x1 x3 x4 x0 s4
  | (Sum.inr e3, s4) => some (Sum.inr e3, s4)
set_option maxRecDepth 100000 in
set_option maxHeartbeats 4000000 in
theorem lk_X8_interval_34 {G : mG} {x0 : Nat} {x1 : Int} {x3 : Int} {x4 : Int} {y0 : Int} {y1 : Nat} {σ : mS} {R : ((Int ⊕ Nat) × mS)} (hD : D_X8_interval_34 x0 x1 x3 x4 y0 y1 σ = some R) : Ev G M_X8_interval 34 [(0, vr x0), (1, vi x1), (3, vi x3), (4, vi x4)] [vi y0, vr y1] σ (mRsI R.1) R.2 := by
  unfold D_X8_interval_34 at hD
  obtain ⟨_, g0, hD⟩ := bd hD
  obtain ⟨r1, g, hD⟩ := bd hD
  obtain ⟨v2 | e3, s4⟩ := r1
  · refine ew_callV0 (as := [vi y0]) (a := y1) (rest := []) dX8_interval_34 v_X8_needThere w_972 rfl (Nat.le_of_ble_eq_true rfl) rfl rfl g0 (Nat.le_of_ble_eq_true rfl) (Nat.le_of_ble_eq_true rfl) (ct_X8_needThere g) ?_
    dsimp only at hD
    refine ev_aload_n dX8_interval_37 0 rfl rfl ?_
    refine ev_iload_n dX8_interval_38 2 rfl rfl ?_
    by_cases c : x3 = 0
    · rw [if_pos c] at hD
      refine ev_if_eq_t (tgt := 47) dX8_interval_39 (by decide) c ?_
      exact lk_X8_interval_47 hD
    · rw [if_neg c] at hD
      refine ev_if_eq_f 47 dX8_interval_39 (by decide) c ?_
      refine ev_iload_n dX8_interval_42 2 rfl rfl ?_
      refine ev_iconst dX8_interval_43 (mi_c rfl) ?_
      by_cases c : x3 ≠ 1
      · rw [if_pos c] at hD
        refine ev_icmp_ne_t (tgt := 51) dX8_interval_44 (by decide) c ?_
        refine ev_iconst dX8_interval_51 (mi_c rfl) ?_
        exact lk_X8_interval_52 hD
      · rw [if_neg c] at hD
        refine ev_icmp_ne_f 51 dX8_interval_44 (by decide) c ?_
        exact lk_X8_interval_47 hD
  · cases hD
    exact ev_thrV (as := [vi y0]) (a := y1) (rest := []) dX8_interval_34 v_X8_needThere w_972 rfl (Nat.le_of_ble_eq_true rfl) rfl rfl (tgO_s g0) (Nat.le_of_ble_eq_true rfl) (Nat.le_of_ble_eq_true rfl) rfl (ct_X8_needThere g)
def D_X8_interval (x0 : Nat) (x1 : Int) (x2 : Int) (x3 : Int) (σ : mS) : Option ((Int ⊕ Nat) × mS) :=
  (tgO σ x0 7).bind fun _ =>
  (D_X8_needSample x0 x1 σ).bind fun r1 =>
  match r1 with
  | (Sum.inl _, s4) =>
    (gR s4 x0 7 9).bind fun v5 =>
    (gR s4 v5 0 3).bind fun v6 =>
    (lR s4 v6 x1).bind fun v7 =>
    (D_X7_intervalStart v7 x2 s4).bind fun r8 =>
    if 1000 ≤ r8 then
      D_X8_interval_34 x0 x1 x3 r8 0 x0 s4
    else
      D_X8_interval_34 x0 x1 x3 r8 1 x0 s4
  | (Sum.inr e3, s4) => some (Sum.inr e3, s4)
set_option maxRecDepth 100000 in
set_option maxHeartbeats 4000000 in
theorem lk_X8_interval {G : mG} {x0 : Nat} {x1 : Int} {x2 : Int} {x3 : Int} {σ : mS} {R : ((Int ⊕ Nat) × mS)} (hD : D_X8_interval x0 x1 x2 x3 σ = some R) : Ev G M_X8_interval 0 [(0, vr x0), (1, vi x1), (2, vi x2), (3, vi x3)] [] σ (mRsI R.1) R.2 := by
  unfold D_X8_interval at hD
  refine ev_aload_n dX8_interval_0 0 rfl rfl ?_
  refine ev_iload_n dX8_interval_1 1 rfl rfl ?_
  obtain ⟨_, g0, hD⟩ := bd hD
  obtain ⟨r1, g, hD⟩ := bd hD
  obtain ⟨v2 | e3, s4⟩ := r1
  · refine ew_callV0 (as := [vi x1]) (a := x0) (rest := []) dX8_interval_2 v_X8_needSample w_968 rfl (Nat.le_of_ble_eq_true rfl) rfl rfl g0 (Nat.le_of_ble_eq_true rfl) (Nat.le_of_ble_eq_true rfl) (ct_X8_needSample g) ?_
    dsimp only at hD
    refine ev_aload_n dX8_interval_5 0 rfl rfl ?_
    obtain ⟨v5, g, hD⟩ := bd hD
    refine ew_getR 7 9 dX8_interval_6 rfl (Nat.le_of_ble_eq_true rfl) w_599 in_X8 rfl g ?_
    obtain ⟨v6, g, hD⟩ := bd hD
    refine ew_getR 0 3 dX8_interval_9 rfl (Nat.le_of_ble_eq_true rfl) w_393 in_X0 rfl g ?_
    refine ev_iload_n dX8_interval_12 1 rfl rfl ?_
    obtain ⟨v7, g, hD⟩ := bd hD
    refine ew_aald dX8_interval_13 g ?_
    refine ev_iload_n dX8_interval_14 2 rfl rfl ?_
    obtain ⟨r8, g, hD⟩ := bd hD
    refine ew_callSv (as := [vr v7, vi x2]) (rest := []) dX8_interval_15 v_X7_intervalStart w_1120 rfl (Nat.le_of_ble_eq_true rfl) (Nat.le_of_ble_eq_true rfl) (Nat.le_of_ble_eq_true rfl) (ct_X7_intervalStart g) ?_
    refine ev_istore dX8_interval_18 (Nat.le_of_ble_eq_true rfl) rfl ?_
    refine ev_aload_n dX8_interval_20 1 rfl rfl ?_
    refine ev_iload dX8_interval_21 0 rfl ?_
    refine ev_sp dX8_interval_23 rfl ?_
    by_cases c : 1000 ≤ r8
    · rw [if_pos c] at hD
      refine ev_icmp_ge_t (tgt := 33) dX8_interval_26 (by decide) c ?_
      refine ev_iconst dX8_interval_33 (mi_c rfl) ?_
      refine Ev.pick [1, 2, 4, 0] rfl ?_
      exact lk_X8_interval_34 hD
    · rw [if_neg c] at hD
      refine ev_icmp_ge_f 33 dX8_interval_26 (by decide) c ?_
      refine ev_iconst dX8_interval_29 (mi_c rfl) ?_
      refine ev_goto (tgt := 34) dX8_interval_30 (by decide) ?_
      refine Ev.pick [1, 2, 4, 0] rfl ?_
      exact lk_X8_interval_34 hD
  · cases hD
    exact ev_thrV (as := [vi x1]) (a := x0) (rest := []) dX8_interval_2 v_X8_needSample w_968 rfl (Nat.le_of_ble_eq_true rfl) rfl rfl (tgO_s g0) (Nat.le_of_ble_eq_true rfl) (Nat.le_of_ble_eq_true rfl) rfl (ct_X8_needSample g)
theorem ct_X8_interval {G : mG} {x0 : Nat} {x1 : Int} {x2 : Int} {x3 : Int} {σ : mS} {R : ((Int ⊕ Nat) × mS)} (hD : D_X8_interval x0 x1 x2 x3 σ = some R) : Ct G M_X8_interval [vr x0, vi x1, vi x2, vi x3] σ (mRsI R.1) R.2 := ct_of rfl (by decide +kernel) rfl (Nat.le_of_ble_eq_true rfl) rfl (lk_X8_interval hD)
def D_X8_misfit (x0 : Nat) (x1 : Int) (x2 : Int) (σ : mS) : Option ((Int ⊕ Nat) × mS) :=
  (tgO σ x0 7).bind fun _ =>
  (D_X8_needSample x0 x1 σ).bind fun r1 =>
  match r1 with
  | (Sum.inl _, s4) =>
    (tgO s4 x0 7).bind fun _ =>
    (D_X8_needYear x0 x2 s4).bind fun r5 =>
    match r5 with
    | (Sum.inl _, s8) =>
      (tgO s8 x0 7).bind fun _ =>
      (D_X8_misfitOf x0 x1 x2 s8).bind fun r9 =>
      some (Sum.inl r9, s8)
    | (Sum.inr e7, s8) => some (Sum.inr e7, s8)
  | (Sum.inr e3, s4) => some (Sum.inr e3, s4)
set_option maxRecDepth 100000 in
set_option maxHeartbeats 4000000 in
theorem lk_X8_misfit {G : mG} {x0 : Nat} {x1 : Int} {x2 : Int} {σ : mS} {R : ((Int ⊕ Nat) × mS)} (hD : D_X8_misfit x0 x1 x2 σ = some R) : Ev G M_X8_misfit 0 [(0, vr x0), (1, vi x1), (2, vi x2)] [] σ (mRsI R.1) R.2 := by
  unfold D_X8_misfit at hD
  refine ev_aload_n dX8_misfit_0 0 rfl rfl ?_
  refine ev_iload_n dX8_misfit_1 1 rfl rfl ?_
  obtain ⟨_, g0, hD⟩ := bd hD
  obtain ⟨r1, g, hD⟩ := bd hD
  obtain ⟨v2 | e3, s4⟩ := r1
  · refine ew_callV0 (as := [vi x1]) (a := x0) (rest := []) dX8_misfit_2 v_X8_needSample w_968 rfl (Nat.le_of_ble_eq_true rfl) rfl rfl g0 (Nat.le_of_ble_eq_true rfl) (Nat.le_of_ble_eq_true rfl) (ct_X8_needSample g) ?_
    dsimp only at hD
    refine ev_aload_n dX8_misfit_5 0 rfl rfl ?_
    refine ev_iload_n dX8_misfit_6 2 rfl rfl ?_
    obtain ⟨_, g0, hD⟩ := bd hD
    obtain ⟨r5, g, hD⟩ := bd hD
    obtain ⟨v6 | e7, s8⟩ := r5
    · refine ew_callV0 (as := [vi x2]) (a := x0) (rest := []) dX8_misfit_7 v_X8_needYear w_1070 rfl (Nat.le_of_ble_eq_true rfl) rfl rfl g0 (Nat.le_of_ble_eq_true rfl) (Nat.le_of_ble_eq_true rfl) (ct_X8_needYear g) ?_
      dsimp only at hD
      refine ev_aload_n dX8_misfit_10 0 rfl rfl ?_
      refine ev_iload_n dX8_misfit_11 1 rfl rfl ?_
      refine ev_iload_n dX8_misfit_12 2 rfl rfl ?_
      obtain ⟨_, g0, hD⟩ := bd hD
      obtain ⟨r9, g, hD⟩ := bd hD
      refine ew_callVv (as := [vi x1, vi x2]) (a := x0) (rest := []) dX8_misfit_13 v_X8_misfitOf w_1108 rfl (Nat.le_of_ble_eq_true rfl) rfl rfl g0 (Nat.le_of_ble_eq_true rfl) (Nat.le_of_ble_eq_true rfl) (ct_X8_misfitOf g) ?_
      cases hD
      exact ev_ret (some (vi _)) dX8_misfit_16 True.intro
    · cases hD
      exact ev_thrV (as := [vi x2]) (a := x0) (rest := []) dX8_misfit_7 v_X8_needYear w_1070 rfl (Nat.le_of_ble_eq_true rfl) rfl rfl (tgO_s g0) (Nat.le_of_ble_eq_true rfl) (Nat.le_of_ble_eq_true rfl) rfl (ct_X8_needYear g)
  · cases hD
    exact ev_thrV (as := [vi x1]) (a := x0) (rest := []) dX8_misfit_2 v_X8_needSample w_968 rfl (Nat.le_of_ble_eq_true rfl) rfl rfl (tgO_s g0) (Nat.le_of_ble_eq_true rfl) (Nat.le_of_ble_eq_true rfl) rfl (ct_X8_needSample g)
theorem ct_X8_misfit {G : mG} {x0 : Nat} {x1 : Int} {x2 : Int} {σ : mS} {R : ((Int ⊕ Nat) × mS)} (hD : D_X8_misfit x0 x1 x2 σ = some R) : Ct G M_X8_misfit [vr x0, vi x1, vi x2] σ (mRsI R.1) R.2 := ct_of rfl (by decide +kernel) rfl (Nat.le_of_ble_eq_true rfl) rfl (lk_X8_misfit hD)
def D_X8_place_49 (y0 : Int) (σ : mS) : Option ((Int ⊕ Nat) × mS) :=
  some (Sum.inl y0, σ)
set_option maxRecDepth 100000 in
set_option maxHeartbeats 4000000 in
theorem lk_X8_place_49 {G : mG} {y0 : Int} {σ : mS} {R : ((Int ⊕ Nat) × mS)} (hD : D_X8_place_49 y0 σ = some R) : Ev G M_X8_place 49 [] [vi y0] σ (mRsI R.1) R.2 := by
  unfold D_X8_place_49 at hD
  cases hD
  exact ev_ret (some (vi _)) dX8_place_49 True.intro
def D_X8_place (x0 : Nat) (x1 : Int) (x2 : Int) (σ : mS) : Option ((Int ⊕ Nat) × mS) :=
  (tgO σ x0 7).bind fun _ =>
  (D_X8_needSample x0 x1 σ).bind fun r1 =>
  match r1 with
  | (Sum.inl _, s4) =>
    (tgO s4 x0 7).bind fun _ =>
    (D_X8_needYear x0 x2 s4).bind fun r5 =>
    match r5 with
    | (Sum.inl _, s8) =>
      (gR s8 x0 7 9).bind fun v9 =>
      (gR s8 v9 0 3).bind fun v10 =>
      (lR s8 v10 x1).bind fun v11 =>
      (D_X7_has v11 x2 s8).bind fun r12 =>
      if r12 = 0 then
        (gR s8 x0 7 9).bind fun v13 =>
        (gR s8 v13 0 2).bind fun v14 =>
        (lR s8 v14 x1).bind fun v15 =>
        (D_X7_has v15 x2 s8).bind fun r16 =>
        if r16 = 0 then
          D_X8_place_49 0 s8
        else
          D_X8_place_49 1 s8
      else
        some (Sum.inl 3, s8)
    | (Sum.inr e7, s8) => some (Sum.inr e7, s8)
  | (Sum.inr e3, s4) => some (Sum.inr e3, s4)
set_option maxRecDepth 100000 in
set_option maxHeartbeats 4000000 in
theorem lk_X8_place {G : mG} {x0 : Nat} {x1 : Int} {x2 : Int} {σ : mS} {R : ((Int ⊕ Nat) × mS)} (hD : D_X8_place x0 x1 x2 σ = some R) : Ev G M_X8_place 0 [(0, vr x0), (1, vi x1), (2, vi x2)] [] σ (mRsI R.1) R.2 := by
  unfold D_X8_place at hD
  refine ev_aload_n dX8_place_0 0 rfl rfl ?_
  refine ev_iload_n dX8_place_1 1 rfl rfl ?_
  obtain ⟨_, g0, hD⟩ := bd hD
  obtain ⟨r1, g, hD⟩ := bd hD
  obtain ⟨v2 | e3, s4⟩ := r1
  · refine ew_callV0 (as := [vi x1]) (a := x0) (rest := []) dX8_place_2 v_X8_needSample w_968 rfl (Nat.le_of_ble_eq_true rfl) rfl rfl g0 (Nat.le_of_ble_eq_true rfl) (Nat.le_of_ble_eq_true rfl) (ct_X8_needSample g) ?_
    dsimp only at hD
    refine ev_aload_n dX8_place_5 0 rfl rfl ?_
    refine ev_iload_n dX8_place_6 2 rfl rfl ?_
    obtain ⟨_, g0, hD⟩ := bd hD
    obtain ⟨r5, g, hD⟩ := bd hD
    obtain ⟨v6 | e7, s8⟩ := r5
    · refine ew_callV0 (as := [vi x2]) (a := x0) (rest := []) dX8_place_7 v_X8_needYear w_1070 rfl (Nat.le_of_ble_eq_true rfl) rfl rfl g0 (Nat.le_of_ble_eq_true rfl) (Nat.le_of_ble_eq_true rfl) (ct_X8_needYear g) ?_
      dsimp only at hD
      refine ev_aload_n dX8_place_10 0 rfl rfl ?_
      obtain ⟨v9, g, hD⟩ := bd hD
      refine ew_getR 7 9 dX8_place_11 rfl (Nat.le_of_ble_eq_true rfl) w_599 in_X8 rfl g ?_
      obtain ⟨v10, g, hD⟩ := bd hD
      refine ew_getR 0 3 dX8_place_14 rfl (Nat.le_of_ble_eq_true rfl) w_393 in_X0 rfl g ?_
      refine ev_iload_n dX8_place_17 1 rfl rfl ?_
      obtain ⟨v11, g, hD⟩ := bd hD
      refine ew_aald dX8_place_18 g ?_
      refine ev_iload_n dX8_place_19 2 rfl rfl ?_
      obtain ⟨r12, g, hD⟩ := bd hD
      refine ew_callSv (as := [vr v11, vi x2]) (rest := []) dX8_place_20 v_X7_has w_1137 rfl (Nat.le_of_ble_eq_true rfl) (Nat.le_of_ble_eq_true rfl) (Nat.le_of_ble_eq_true rfl) (ct_X7_has g) ?_
      by_cases c : r12 = 0
      · rw [if_pos c] at hD
        refine ev_if_eq_t (tgt := 28) dX8_place_23 (by decide) c ?_
        refine ev_aload_n dX8_place_28 0 rfl rfl ?_
        obtain ⟨v13, g, hD⟩ := bd hD
        refine ew_getR 7 9 dX8_place_29 rfl (Nat.le_of_ble_eq_true rfl) w_599 in_X8 rfl g ?_
        obtain ⟨v14, g, hD⟩ := bd hD
        refine ew_getR 0 2 dX8_place_32 rfl (Nat.le_of_ble_eq_true rfl) w_390 in_X0 rfl g ?_
        refine ev_iload_n dX8_place_35 1 rfl rfl ?_
        obtain ⟨v15, g, hD⟩ := bd hD
        refine ew_aald dX8_place_36 g ?_
        refine ev_iload_n dX8_place_37 2 rfl rfl ?_
        obtain ⟨r16, g, hD⟩ := bd hD
        refine ew_callSv (as := [vr v15, vi x2]) (rest := []) dX8_place_38 v_X7_has w_1137 rfl (Nat.le_of_ble_eq_true rfl) (Nat.le_of_ble_eq_true rfl) (Nat.le_of_ble_eq_true rfl) (ct_X7_has g) ?_
        by_cases c : r16 = 0
        · rw [if_pos c] at hD
          refine ev_if_eq_t (tgt := 48) dX8_place_41 (by decide) c ?_
          refine ev_iconst dX8_place_48 (mi_c rfl) ?_
          refine Ev.pick [] rfl ?_
          exact lk_X8_place_49 hD
        · rw [if_neg c] at hD
          refine ev_if_eq_f 48 dX8_place_41 (by decide) c ?_
          refine ev_iconst dX8_place_44 (mi_c rfl) ?_
          refine ev_goto (tgt := 49) dX8_place_45 (by decide) ?_
          refine Ev.pick [] rfl ?_
          exact lk_X8_place_49 hD
      · rw [if_neg c] at hD
        refine ev_if_eq_f 28 dX8_place_23 (by decide) c ?_
        refine ev_iconst dX8_place_26 (mi_c rfl) ?_
        cases hD
        exact ev_ret (some (vi _)) dX8_place_27 True.intro
    · cases hD
      exact ev_thrV (as := [vi x2]) (a := x0) (rest := []) dX8_place_7 v_X8_needYear w_1070 rfl (Nat.le_of_ble_eq_true rfl) rfl rfl (tgO_s g0) (Nat.le_of_ble_eq_true rfl) (Nat.le_of_ble_eq_true rfl) rfl (ct_X8_needYear g)
  · cases hD
    exact ev_thrV (as := [vi x1]) (a := x0) (rest := []) dX8_place_2 v_X8_needSample w_968 rfl (Nat.le_of_ble_eq_true rfl) rfl rfl (tgO_s g0) (Nat.le_of_ble_eq_true rfl) (Nat.le_of_ble_eq_true rfl) rfl (ct_X8_needSample g)
theorem ct_X8_place {G : mG} {x0 : Nat} {x1 : Int} {x2 : Int} {σ : mS} {R : ((Int ⊕ Nat) × mS)} (hD : D_X8_place x0 x1 x2 σ = some R) : Ct G M_X8_place [vr x0, vi x1, vi x2] σ (mRsI R.1) R.2 := ct_of rfl (by decide +kernel) rfl (Nat.le_of_ble_eq_true rfl) rfl (lk_X8_place hD)
def D_X8_rule_20 (x0 : Nat) (x1 : Int) (x2 : Int) (y0 : Int) (y1 : Nat) (σ : mS) : Option ((Int ⊕ Nat) × mS) :=
  (tgO σ y1 7).bind fun _ =>
  (D_X8_needArgument y1 y0 σ).bind fun r1 =>
  match r1 with
  | (Sum.inl _, s4) =>
    if x2 = 0 then
      (gR s4 x0 7 1).bind fun v5 =>
      (gR s4 v5 5 10).bind fun v6 =>
      (lR s4 v6 x1).bind fun v7 =>
      (gI s4 v7 3 0).bind fun v8 =>
      some (Sum.inl v8, s4)
    else
    if x2 = 1 then
      (gR s4 x0 7 1).bind fun v9 =>
      (gR s4 v9 5 10).bind fun v10 =>
      (lR s4 v10 x1).bind fun v11 =>
      (gI s4 v11 3 1).bind fun v12 =>
      some (Sum.inl v12, s4)
    else
    if x2 = 2 then
      (gR s4 x0 7 1).bind fun v13 =>
      (gR s4 v13 5 10).bind fun v14 =>
      (lR s4 v14 x1).bind fun v15 =>
      (gI s4 v15 3 2).bind fun v16 =>
      some (Sum.inl v16, s4)
    else
    if x2 = 3 then
      (gR s4 x0 7 1).bind fun v17 =>
      (gR s4 v17 5 10).bind fun v18 =>
      (lR s4 v18 x1).bind fun v19 =>
      (gI s4 v19 3 3).bind fun v20 =>
      some (Sum.inl v20, s4)
    else
    if x2 = 4 then
      (gR s4 x0 7 1).bind fun v21 =>
      (gR s4 v21 5 10).bind fun v22 =>
      (lR s4 v22 x1).bind fun v23 =>
      (gI s4 v23 3 4).bind fun v24 =>
      some (Sum.inl v24, s4)
    else
      (gR s4 x0 7 9).bind fun v25 =>
      (gR s4 v25 0 7).bind fun v26 =>
      (lI s4 v26 x1).bind fun v27 =>
      some (Sum.inl v27, s4)
  | (Sum.inr e3, s4) => some (Sum.inr e3, s4)
set_option maxRecDepth 100000 in
set_option maxHeartbeats 4000000 in
theorem lk_X8_rule_20 {G : mG} {x0 : Nat} {x1 : Int} {x2 : Int} {y0 : Int} {y1 : Nat} {σ : mS} {R : ((Int ⊕ Nat) × mS)} (hD : D_X8_rule_20 x0 x1 x2 y0 y1 σ = some R) : Ev G M_X8_rule 20 [(0, vr x0), (1, vi x1), (2, vi x2)] [vi y0, vr y1] σ (mRsI R.1) R.2 := by
  unfold D_X8_rule_20 at hD
  obtain ⟨_, g0, hD⟩ := bd hD
  obtain ⟨r1, g, hD⟩ := bd hD
  obtain ⟨v2 | e3, s4⟩ := r1
  · refine ew_callV0 (as := [vi y0]) (a := y1) (rest := []) dX8_rule_20 v_X8_needArgument w_714 rfl (Nat.le_of_ble_eq_true rfl) rfl rfl g0 (Nat.le_of_ble_eq_true rfl) (Nat.le_of_ble_eq_true rfl) (ct_X8_needArgument g) ?_
    dsimp only at hD
    refine ev_iload_n dX8_rule_23 2 rfl rfl ?_
    by_cases c0 : x2 = 0
    · rw [if_pos c0] at hD
      refine ev_tableIn (off := 36) (tgt := 60) dX8_rule_24 (by omega) (by omega) (by rw [c0]; rfl) (by decide) ?_
      refine ev_aload_n dX8_rule_60 0 rfl rfl ?_
      obtain ⟨v5, g, hD⟩ := bd hD
      refine ew_getR 7 1 dX8_rule_61 rfl (Nat.le_of_ble_eq_true rfl) w_591 in_X8 rfl g ?_
      obtain ⟨v6, g, hD⟩ := bd hD
      refine ew_getR 5 10 dX8_rule_64 rfl (Nat.le_of_ble_eq_true rfl) w_306 in_X5 rfl g ?_
      refine ev_iload_n dX8_rule_67 1 rfl rfl ?_
      obtain ⟨v7, g, hD⟩ := bd hD
      refine ew_aald dX8_rule_68 g ?_
      obtain ⟨v8, g, hD⟩ := bd hD
      refine ew_getI 3 0 dX8_rule_69 rfl (Nat.le_of_ble_eq_true rfl) w_233 in_X3 rfl g ?_
      cases hD
      exact ev_ret (some (vi _)) dX8_rule_72 True.intro
    rw [if_neg c0] at hD
    by_cases c1 : x2 = 1
    · rw [if_pos c1] at hD
      refine ev_tableIn (off := 49) (tgt := 73) dX8_rule_24 (by omega) (by omega) (by rw [c1]; rfl) (by decide) ?_
      refine ev_aload_n dX8_rule_73 0 rfl rfl ?_
      obtain ⟨v9, g, hD⟩ := bd hD
      refine ew_getR 7 1 dX8_rule_74 rfl (Nat.le_of_ble_eq_true rfl) w_591 in_X8 rfl g ?_
      obtain ⟨v10, g, hD⟩ := bd hD
      refine ew_getR 5 10 dX8_rule_77 rfl (Nat.le_of_ble_eq_true rfl) w_306 in_X5 rfl g ?_
      refine ev_iload_n dX8_rule_80 1 rfl rfl ?_
      obtain ⟨v11, g, hD⟩ := bd hD
      refine ew_aald dX8_rule_81 g ?_
      obtain ⟨v12, g, hD⟩ := bd hD
      refine ew_getI 3 1 dX8_rule_82 rfl (Nat.le_of_ble_eq_true rfl) w_238 in_X3 rfl g ?_
      cases hD
      exact ev_ret (some (vi _)) dX8_rule_85 True.intro
    rw [if_neg c1] at hD
    by_cases c2 : x2 = 2
    · rw [if_pos c2] at hD
      refine ev_tableIn (off := 62) (tgt := 86) dX8_rule_24 (by omega) (by omega) (by rw [c2]; rfl) (by decide) ?_
      refine ev_aload_n dX8_rule_86 0 rfl rfl ?_
      obtain ⟨v13, g, hD⟩ := bd hD
      refine ew_getR 7 1 dX8_rule_87 rfl (Nat.le_of_ble_eq_true rfl) w_591 in_X8 rfl g ?_
      obtain ⟨v14, g, hD⟩ := bd hD
      refine ew_getR 5 10 dX8_rule_90 rfl (Nat.le_of_ble_eq_true rfl) w_306 in_X5 rfl g ?_
      refine ev_iload_n dX8_rule_93 1 rfl rfl ?_
      obtain ⟨v15, g, hD⟩ := bd hD
      refine ew_aald dX8_rule_94 g ?_
      obtain ⟨v16, g, hD⟩ := bd hD
      refine ew_getI 3 2 dX8_rule_95 rfl (Nat.le_of_ble_eq_true rfl) w_243 in_X3 rfl g ?_
      cases hD
      exact ev_ret (some (vi _)) dX8_rule_98 True.intro
    rw [if_neg c2] at hD
    by_cases c3 : x2 = 3
    · rw [if_pos c3] at hD
      refine ev_tableIn (off := 75) (tgt := 99) dX8_rule_24 (by omega) (by omega) (by rw [c3]; rfl) (by decide) ?_
      refine ev_aload_n dX8_rule_99 0 rfl rfl ?_
      obtain ⟨v17, g, hD⟩ := bd hD
      refine ew_getR 7 1 dX8_rule_100 rfl (Nat.le_of_ble_eq_true rfl) w_591 in_X8 rfl g ?_
      obtain ⟨v18, g, hD⟩ := bd hD
      refine ew_getR 5 10 dX8_rule_103 rfl (Nat.le_of_ble_eq_true rfl) w_306 in_X5 rfl g ?_
      refine ev_iload_n dX8_rule_106 1 rfl rfl ?_
      obtain ⟨v19, g, hD⟩ := bd hD
      refine ew_aald dX8_rule_107 g ?_
      obtain ⟨v20, g, hD⟩ := bd hD
      refine ew_getI 3 3 dX8_rule_108 rfl (Nat.le_of_ble_eq_true rfl) w_248 in_X3 rfl g ?_
      cases hD
      exact ev_ret (some (vi _)) dX8_rule_111 True.intro
    rw [if_neg c3] at hD
    by_cases c4 : x2 = 4
    · rw [if_pos c4] at hD
      refine ev_tableIn (off := 88) (tgt := 112) dX8_rule_24 (by omega) (by omega) (by rw [c4]; rfl) (by decide) ?_
      refine ev_aload_n dX8_rule_112 0 rfl rfl ?_
      obtain ⟨v21, g, hD⟩ := bd hD
      refine ew_getR 7 1 dX8_rule_113 rfl (Nat.le_of_ble_eq_true rfl) w_591 in_X8 rfl g ?_
      obtain ⟨v22, g, hD⟩ := bd hD
      refine ew_getR 5 10 dX8_rule_116 rfl (Nat.le_of_ble_eq_true rfl) w_306 in_X5 rfl g ?_
      refine ev_iload_n dX8_rule_119 1 rfl rfl ?_
      obtain ⟨v23, g, hD⟩ := bd hD
      refine ew_aald dX8_rule_120 g ?_
      obtain ⟨v24, g, hD⟩ := bd hD
      refine ew_getI 3 4 dX8_rule_121 rfl (Nat.le_of_ble_eq_true rfl) w_253 in_X3 rfl g ?_
      cases hD
      exact ev_ret (some (vi _)) dX8_rule_124 True.intro
    rw [if_neg c4] at hD
    refine ev_tableOut (tgt := 125) dX8_rule_24 (by omega) (by decide) ?_
    refine ev_aload_n dX8_rule_125 0 rfl rfl ?_
    obtain ⟨v25, g, hD⟩ := bd hD
    refine ew_getR 7 9 dX8_rule_126 rfl (Nat.le_of_ble_eq_true rfl) w_599 in_X8 rfl g ?_
    obtain ⟨v26, g, hD⟩ := bd hD
    refine ew_getR 0 7 dX8_rule_129 rfl (Nat.le_of_ble_eq_true rfl) w_401 in_X0 rfl g ?_
    refine ev_iload_n dX8_rule_132 1 rfl rfl ?_
    obtain ⟨v27, g, hD⟩ := bd hD
    refine ew_iald dX8_rule_133 g ?_
    cases hD
    exact ev_ret (some (vi _)) dX8_rule_134 True.intro
  · cases hD
    exact ev_thrV (as := [vi y0]) (a := y1) (rest := []) dX8_rule_20 v_X8_needArgument w_714 rfl (Nat.le_of_ble_eq_true rfl) rfl rfl (tgO_s g0) (Nat.le_of_ble_eq_true rfl) (Nat.le_of_ble_eq_true rfl) rfl (ct_X8_needArgument g)
def D_X8_rule_19 (x0 : Nat) (x1 : Int) (x2 : Int) (y0 : Nat) (σ : mS) : Option ((Int ⊕ Nat) × mS) :=
  D_X8_rule_20 x0 x1 x2 0 y0 σ
set_option maxRecDepth 100000 in
set_option maxHeartbeats 4000000 in
theorem lk_X8_rule_19 {G : mG} {x0 : Nat} {x1 : Int} {x2 : Int} {y0 : Nat} {σ : mS} {R : ((Int ⊕ Nat) × mS)} (hD : D_X8_rule_19 x0 x1 x2 y0 σ = some R) : Ev G M_X8_rule 19 [(0, vr x0), (1, vi x1), (2, vi x2)] [vr y0] σ (mRsI R.1) R.2 := by
  unfold D_X8_rule_19 at hD
  refine ev_iconst dX8_rule_19 (mi_c rfl) ?_
  exact lk_X8_rule_20 hD
def D_X8_rule (x0 : Nat) (x1 : Int) (x2 : Int) (σ : mS) : Option ((Int ⊕ Nat) × mS) :=
  (tgO σ x0 7).bind fun _ =>
  (D_X8_needRule x0 x1 σ).bind fun r1 =>
  match r1 with
  | (Sum.inl _, s4) =>
    if x2 < 0 then
      D_X8_rule_19 x0 x1 x2 x0 s4
    else
      if 5 < x2 then
        D_X8_rule_19 x0 x1 x2 x0 s4
      else
        D_X8_rule_20 x0 x1 x2 1 x0 s4
  | (Sum.inr e3, s4) => some (Sum.inr e3, s4)
set_option maxRecDepth 100000 in
set_option maxHeartbeats 4000000 in
theorem lk_X8_rule {G : mG} {x0 : Nat} {x1 : Int} {x2 : Int} {σ : mS} {R : ((Int ⊕ Nat) × mS)} (hD : D_X8_rule x0 x1 x2 σ = some R) : Ev G M_X8_rule 0 [(0, vr x0), (1, vi x1), (2, vi x2)] [] σ (mRsI R.1) R.2 := by
  unfold D_X8_rule at hD
  refine ev_aload_n dX8_rule_0 0 rfl rfl ?_
  refine ev_iload_n dX8_rule_1 1 rfl rfl ?_
  obtain ⟨_, g0, hD⟩ := bd hD
  obtain ⟨r1, g, hD⟩ := bd hD
  obtain ⟨v2 | e3, s4⟩ := r1
  · refine ew_callV0 (as := [vi x1]) (a := x0) (rest := []) dX8_rule_2 v_X8_needRule w_1036 rfl (Nat.le_of_ble_eq_true rfl) rfl rfl g0 (Nat.le_of_ble_eq_true rfl) (Nat.le_of_ble_eq_true rfl) (ct_X8_needRule g) ?_
    dsimp only at hD
    refine ev_aload_n dX8_rule_5 0 rfl rfl ?_
    refine ev_iload_n dX8_rule_6 2 rfl rfl ?_
    by_cases c : x2 < 0
    · rw [if_pos c] at hD
      refine ev_if_lt_t (tgt := 19) dX8_rule_7 (by decide) c ?_
      exact lk_X8_rule_19 hD
    · rw [if_neg c] at hD
      refine ev_if_lt_f 19 dX8_rule_7 (by decide) c ?_
      refine ev_iload_n dX8_rule_10 2 rfl rfl ?_
      refine ev_iconst dX8_rule_11 (mi_c rfl) ?_
      by_cases c : 5 < x2
      · rw [if_pos c] at hD
        refine ev_icmp_gt_t (tgt := 19) dX8_rule_12 (by decide) c ?_
        exact lk_X8_rule_19 hD
      · rw [if_neg c] at hD
        refine ev_icmp_gt_f 19 dX8_rule_12 (by decide) c ?_
        refine ev_iconst dX8_rule_15 (mi_c rfl) ?_
        refine ev_goto (tgt := 20) dX8_rule_16 (by decide) ?_
        exact lk_X8_rule_20 hD
  · cases hD
    exact ev_thrV (as := [vi x1]) (a := x0) (rest := []) dX8_rule_2 v_X8_needRule w_1036 rfl (Nat.le_of_ble_eq_true rfl) rfl rfl (tgO_s g0) (Nat.le_of_ble_eq_true rfl) (Nat.le_of_ble_eq_true rfl) rfl (ct_X8_needRule g)
theorem ct_X8_rule {G : mG} {x0 : Nat} {x1 : Int} {x2 : Int} {σ : mS} {R : ((Int ⊕ Nat) × mS)} (hD : D_X8_rule x0 x1 x2 σ = some R) : Ct G M_X8_rule [vr x0, vi x1, vi x2] σ (mRsI R.1) R.2 := ct_of rfl (by decide +kernel) rfl (Nat.le_of_ble_eq_true rfl) rfl (lk_X8_rule hD)
def D_X8_clash_39 (y0 : Int) (σ : mS) : Option ((Int ⊕ Nat) × mS) :=
  some (Sum.inl y0, σ)
set_option maxRecDepth 100000 in
set_option maxHeartbeats 4000000 in
theorem lk_X8_clash_39 {G : mG} {y0 : Int} {σ : mS} {R : ((Int ⊕ Nat) × mS)} (hD : D_X8_clash_39 y0 σ = some R) : Ev G M_X8_clash 39 [] [vi y0] σ (mRsI R.1) R.2 := by
  unfold D_X8_clash_39 at hD
  cases hD
  exact ev_ret (some (vi _)) dX8_clash_39 True.intro
def D_X8_clash_15 (x0 : Nat) (x1 : Int) (y0 : Int) (y1 : Nat) (σ : mS) : Option ((Int ⊕ Nat) × mS) :=
  (tgO σ y1 7).bind fun _ =>
  (D_X8_needArgument y1 y0 σ).bind fun r1 =>
  match r1 with
  | (Sum.inl _, s4) =>
    if x1 ≠ 0 then
      (gR s4 x0 7 9).bind fun v5 =>
      (gI s4 v5 0 10).bind fun v6 =>
      D_X8_clash_39 v6 s4
    else
      (gR s4 x0 7 9).bind fun v7 =>
      (gI s4 v7 0 9).bind fun v8 =>
      D_X8_clash_39 v8 s4
  | (Sum.inr e3, s4) => some (Sum.inr e3, s4)
set_option maxRecDepth 100000 in
set_option maxHeartbeats 4000000 in
theorem lk_X8_clash_15 {G : mG} {x0 : Nat} {x1 : Int} {y0 : Int} {y1 : Nat} {σ : mS} {R : ((Int ⊕ Nat) × mS)} (hD : D_X8_clash_15 x0 x1 y0 y1 σ = some R) : Ev G M_X8_clash 15 [(0, vr x0), (1, vi x1)] [vi y0, vr y1] σ (mRsI R.1) R.2 := by
  unfold D_X8_clash_15 at hD
  obtain ⟨_, g0, hD⟩ := bd hD
  obtain ⟨r1, g, hD⟩ := bd hD
  obtain ⟨v2 | e3, s4⟩ := r1
  · refine ew_callV0 (as := [vi y0]) (a := y1) (rest := []) dX8_clash_15 v_X8_needArgument w_714 rfl (Nat.le_of_ble_eq_true rfl) rfl rfl g0 (Nat.le_of_ble_eq_true rfl) (Nat.le_of_ble_eq_true rfl) (ct_X8_needArgument g) ?_
    dsimp only at hD
    refine ev_iload_n dX8_clash_18 1 rfl rfl ?_
    by_cases c : x1 ≠ 0
    · rw [if_pos c] at hD
      refine ev_if_ne_t (tgt := 32) dX8_clash_19 (by decide) c ?_
      refine ev_aload_n dX8_clash_32 0 rfl rfl ?_
      obtain ⟨v5, g, hD⟩ := bd hD
      refine ew_getR 7 9 dX8_clash_33 rfl (Nat.le_of_ble_eq_true rfl) w_599 in_X8 rfl g ?_
      obtain ⟨v6, g, hD⟩ := bd hD
      refine ew_getI 0 10 dX8_clash_36 rfl (Nat.le_of_ble_eq_true rfl) w_407 in_X0 rfl g ?_
      refine Ev.pick [] rfl ?_
      exact lk_X8_clash_39 hD
    · rw [if_neg c] at hD
      refine ev_if_ne_f 32 dX8_clash_19 (by decide) c ?_
      refine ev_aload_n dX8_clash_22 0 rfl rfl ?_
      obtain ⟨v7, g, hD⟩ := bd hD
      refine ew_getR 7 9 dX8_clash_23 rfl (Nat.le_of_ble_eq_true rfl) w_599 in_X8 rfl g ?_
      obtain ⟨v8, g, hD⟩ := bd hD
      refine ew_getI 0 9 dX8_clash_26 rfl (Nat.le_of_ble_eq_true rfl) w_405 in_X0 rfl g ?_
      refine ev_goto (tgt := 39) dX8_clash_29 (by decide) ?_
      refine Ev.pick [] rfl ?_
      exact lk_X8_clash_39 hD
  · cases hD
    exact ev_thrV (as := [vi y0]) (a := y1) (rest := []) dX8_clash_15 v_X8_needArgument w_714 rfl (Nat.le_of_ble_eq_true rfl) rfl rfl (tgO_s g0) (Nat.le_of_ble_eq_true rfl) (Nat.le_of_ble_eq_true rfl) rfl (ct_X8_needArgument g)
def D_X8_clash_10 (x0 : Nat) (x1 : Int) (y0 : Nat) (σ : mS) : Option ((Int ⊕ Nat) × mS) :=
  D_X8_clash_15 x0 x1 1 y0 σ
set_option maxRecDepth 100000 in
set_option maxHeartbeats 4000000 in
theorem lk_X8_clash_10 {G : mG} {x0 : Nat} {x1 : Int} {y0 : Nat} {σ : mS} {R : ((Int ⊕ Nat) × mS)} (hD : D_X8_clash_10 x0 x1 y0 σ = some R) : Ev G M_X8_clash 10 [(0, vr x0), (1, vi x1)] [vr y0] σ (mRsI R.1) R.2 := by
  unfold D_X8_clash_10 at hD
  refine ev_iconst dX8_clash_10 (mi_c rfl) ?_
  refine ev_goto (tgt := 15) dX8_clash_11 (by decide) ?_
  exact lk_X8_clash_15 hD
def D_X8_clash (x0 : Nat) (x1 : Int) (σ : mS) : Option ((Int ⊕ Nat) × mS) :=
  if x1 = 0 then
    D_X8_clash_10 x0 x1 x0 σ
  else
    if x1 ≠ 1 then
      D_X8_clash_15 x0 x1 0 x0 σ
    else
      D_X8_clash_10 x0 x1 x0 σ
set_option maxRecDepth 100000 in
set_option maxHeartbeats 4000000 in
theorem lk_X8_clash {G : mG} {x0 : Nat} {x1 : Int} {σ : mS} {R : ((Int ⊕ Nat) × mS)} (hD : D_X8_clash x0 x1 σ = some R) : Ev G M_X8_clash 0 [(0, vr x0), (1, vi x1)] [] σ (mRsI R.1) R.2 := by
  unfold D_X8_clash at hD
  refine ev_aload_n dX8_clash_0 0 rfl rfl ?_
  refine ev_iload_n dX8_clash_1 1 rfl rfl ?_
  by_cases c : x1 = 0
  · rw [if_pos c] at hD
    refine ev_if_eq_t (tgt := 10) dX8_clash_2 (by decide) c ?_
    exact lk_X8_clash_10 hD
  · rw [if_neg c] at hD
    refine ev_if_eq_f 10 dX8_clash_2 (by decide) c ?_
    refine ev_iload_n dX8_clash_5 1 rfl rfl ?_
    refine ev_iconst dX8_clash_6 (mi_c rfl) ?_
    by_cases c : x1 ≠ 1
    · rw [if_pos c] at hD
      refine ev_icmp_ne_t (tgt := 14) dX8_clash_7 (by decide) c ?_
      refine ev_iconst dX8_clash_14 (mi_c rfl) ?_
      exact lk_X8_clash_15 hD
    · rw [if_neg c] at hD
      refine ev_icmp_ne_f 14 dX8_clash_7 (by decide) c ?_
      exact lk_X8_clash_10 hD
theorem ct_X8_clash {G : mG} {x0 : Nat} {x1 : Int} {σ : mS} {R : ((Int ⊕ Nat) × mS)} (hD : D_X8_clash x0 x1 σ = some R) : Ct G M_X8_clash [vr x0, vi x1] σ (mRsI R.1) R.2 := ct_of rfl (by decide +kernel) rfl (Nat.le_of_ble_eq_true rfl) rfl (lk_X8_clash hD)
def D_X8_blame_71 (x1 : Int) (σ : mS) : Option (Int × mS) :=
  some (x1, σ)
set_option maxRecDepth 100000 in
set_option maxHeartbeats 4000000 in
theorem lk_X8_blame_71 {G : mG} {x1 : Int} {σ : mS} {R : (Int × mS)} (hD : D_X8_blame_71 x1 σ = some R) : Ev G M_X8_blame 71 [(1, vi x1)] [] σ (.inl (some (vi R.1))) R.2 := by
  unfold D_X8_blame_71 at hD
  refine ev_iload_n dX8_blame_71 0 rfl rfl ?_
  cases hD
  exact ev_ret (some (vi _)) dX8_blame_72 True.intro
def D_X8_blame_63 (rec : Nat → Int → Int → mS → Option (Int × mS)) (x0 : Nat) (x2 : Int) (y0 : Int) (y1 : Int) (σ : mS) : Option (Int × mS) :=
  rec x0 (mor y1 y0) (mw (x2 + 1)) σ
set_option maxRecDepth 100000 in
set_option maxHeartbeats 4000000 in
theorem lk_X8_blame_63 {G : mG} {rec : Nat → Int → Int → mS → Option (Int × mS)} {x0 : Nat} {x2 : Int} {y0 : Int} {y1 : Int} {σ : mS} {R : (Int × mS)} {r : mX} {τ : mS} (hD : D_X8_blame_63 rec x0 x2 y0 y1 σ = some R) (hrec : ∀ {x0 : Nat} {x1 : Int} {x2 : Int} {σ : mS} {R : (Int × mS)}, rec x0 x1 x2 σ = some R → ∀ {r : mX} {τ : mS}, Ev G M_X8_blame 71 [(1, vi (R.1))] [] R.2 r τ → Ev G M_X8_blame 25 [(0, vr x0), (1, vi x1), (2, vi x2)] [] σ r τ) (hk : Ev G M_X8_blame 71 [(1, vi (R.1))] [] R.2 r τ) : Ev G M_X8_blame 63 [(0, vr x0), (2, vi x2)] [vi y0, vi y1] σ r τ := by
  unfold D_X8_blame_63 at hD
  refine ev_ior dX8_blame_63 ?_
  refine ev_istore_n dX8_blame_64 rfl (Nat.le_of_ble_eq_true rfl) rfl ?_
  refine ev_iinc dX8_blame_65 2 rfl (Nat.le_of_ble_eq_true rfl) rfl ?_
  refine ev_goto (tgt := 25) dX8_blame_68 (by decide) ?_
  refine Ev.pick [2, 1, 0] rfl ?_
  exact hrec hD hk
def D_X8_blame_25 : Nat → Nat → Int → Int → mS → Option (Int × mS)
  | 0, _, _, _, _ => none
  | f + 1, x0, x1, x2, σ =>
    (gR σ x0 7 1).bind fun v1 =>
    (gI σ v1 5 5).bind fun v2 =>
    if v2 ≤ x2 then
      some (x1, σ)
    else
      (gR σ x0 7 10).bind fun v3 =>
      (tgO σ v3 0).bind fun _ =>
      (D_X0_run v3 x2 1 σ).bind fun r4 =>
      (gR r4 x0 7 10).bind fun v5 =>
      (tgO r4 v5 0).bind fun _ =>
      (D_X0_hasClash v5 r4).bind fun r6 =>
      if r6 = 0 then
        D_X8_blame_63 (D_X8_blame_25 f) x0 x2 (mshl 1 x2) x1 r4
      else
        D_X8_blame_63 (D_X8_blame_25 f) x0 x2 0 x1 r4
set_option maxRecDepth 100000 in
set_option maxHeartbeats 4000000 in
theorem lk_X8_blame_25 {G : mG} (f : Nat) : ∀ {x0 : Nat} {x1 : Int} {x2 : Int} {σ : mS} {R : (Int × mS)}, D_X8_blame_25 f x0 x1 x2 σ = some R → ∀ {r : mX} {τ : mS}, Ev G M_X8_blame 71 [(1, vi (R.1))] [] R.2 r τ → Ev G M_X8_blame 25 [(0, vr x0), (1, vi x1), (2, vi x2)] [] σ r τ := by
  induction f with
  | zero =>
    intros
    rename_i hD _ _ _
    cases hD
  | succ f ih =>
    intro x0 x1 x2 σ R hD r τ hk
    have hrec := @ih
    rw [D_X8_blame_25] at hD
    refine ev_iload_n dX8_blame_25 2 rfl rfl ?_
    refine ev_aload_n dX8_blame_26 0 rfl rfl ?_
    obtain ⟨v1, g, hD⟩ := bd hD
    refine ew_getR 7 1 dX8_blame_27 rfl (Nat.le_of_ble_eq_true rfl) w_591 in_X8 rfl g ?_
    obtain ⟨v2, g, hD⟩ := bd hD
    refine ew_getI 5 5 dX8_blame_30 rfl (Nat.le_of_ble_eq_true rfl) w_285 in_X5 rfl g ?_
    by_cases c : v2 ≤ x2
    · rw [if_pos c] at hD
      refine ev_icmp_ge_t (tgt := 71) dX8_blame_33 (by decide) c ?_
      cases hD
      refine Ev.pick [1] rfl ?_
      exact hk
    · rw [if_neg c] at hD
      refine ev_icmp_ge_f 71 dX8_blame_33 (by decide) c ?_
      refine ev_aload_n dX8_blame_36 0 rfl rfl ?_
      obtain ⟨v3, g, hD⟩ := bd hD
      refine ew_getR 7 10 dX8_blame_37 rfl (Nat.le_of_ble_eq_true rfl) w_600 in_X8 rfl g ?_
      refine ev_iload_n dX8_blame_40 2 rfl rfl ?_
      refine ev_iconst dX8_blame_41 (mi_c rfl) ?_
      obtain ⟨_, g0, hD⟩ := bd hD
      obtain ⟨r4, g, hD⟩ := bd hD
      refine ew_callV0 (as := [vi x2, vi 1]) (a := v3) (rest := []) dX8_blame_42 v_X0_run w_515 rfl (Nat.le_of_ble_eq_true rfl) rfl rfl g0 (Nat.le_of_ble_eq_true rfl) (Nat.le_of_ble_eq_true rfl) (ct_X0_run g) ?_
      refine ev_iload_n dX8_blame_45 1 rfl rfl ?_
      refine ev_aload_n dX8_blame_46 0 rfl rfl ?_
      obtain ⟨v5, g, hD⟩ := bd hD
      refine ew_getR 7 10 dX8_blame_47 rfl (Nat.le_of_ble_eq_true rfl) w_600 in_X8 rfl g ?_
      obtain ⟨_, g0, hD⟩ := bd hD
      obtain ⟨r6, g, hD⟩ := bd hD
      refine ew_callVv (as := []) (a := v5) (rest := [vi x1]) dX8_blame_50 v_X0_hasClash w_666 rfl (Nat.le_of_ble_eq_true rfl) rfl rfl g0 (Nat.le_of_ble_eq_true rfl) (Nat.le_of_ble_eq_true rfl) (ct_X0_hasClash g) ?_
      by_cases c : r6 = 0
      · rw [if_pos c] at hD
        refine ev_if_eq_t (tgt := 60) dX8_blame_53 (by decide) c ?_
        refine ev_iconst dX8_blame_60 (mi_c rfl) ?_
        refine ev_iload_n dX8_blame_61 2 rfl rfl ?_
        refine ev_ishl dX8_blame_62 ?_
        refine Ev.pick [0, 2] rfl ?_
        exact lk_X8_blame_63 hD hrec hk
      · rw [if_neg c] at hD
        refine ev_if_eq_f 60 dX8_blame_53 (by decide) c ?_
        refine ev_iconst dX8_blame_56 (mi_c rfl) ?_
        refine ev_goto (tgt := 63) dX8_blame_57 (by decide) ?_
        refine Ev.pick [0, 2] rfl ?_
        exact lk_X8_blame_63 hD hrec hk
def D_X8_blame (x0 : Nat) (σ : mS) : Option (Int × mS) :=
  (gR σ x0 7 9).bind fun v1 =>
  (tgO σ v1 0).bind fun _ =>
  (D_X0_hasClash v1 σ).bind fun r2 =>
  if r2 = 0 then
    D_X8_blame_71 0 σ
  else
    (gR σ x0 7 10).bind fun v3 =>
    (gR σ x0 7 9).bind fun v4 =>
    (tgO σ v3 0).bind fun _ =>
    (D_X0_takeFirst v3 v4 σ).bind fun r5 =>
    (D_X8_blame_25 mFU x0 0 0 r5).bind fun r6 =>
    D_X8_blame_71 r6.1 r6.2
set_option maxRecDepth 100000 in
set_option maxHeartbeats 4000000 in
theorem lk_X8_blame {G : mG} {x0 : Nat} {σ : mS} {R : (Int × mS)} (hD : D_X8_blame x0 σ = some R) : Ev G M_X8_blame 0 [(0, vr x0)] [] σ (.inl (some (vi R.1))) R.2 := by
  unfold D_X8_blame at hD
  refine ev_iconst dX8_blame_0 (mi_c rfl) ?_
  refine ev_istore_n dX8_blame_1 rfl (Nat.le_of_ble_eq_true rfl) rfl ?_
  refine ev_aload_n dX8_blame_2 1 rfl rfl ?_
  obtain ⟨v1, g, hD⟩ := bd hD
  refine ew_getR 7 9 dX8_blame_3 rfl (Nat.le_of_ble_eq_true rfl) w_599 in_X8 rfl g ?_
  obtain ⟨_, g0, hD⟩ := bd hD
  obtain ⟨r2, g, hD⟩ := bd hD
  refine ew_callVv (as := []) (a := v1) (rest := []) dX8_blame_6 v_X0_hasClash w_666 rfl (Nat.le_of_ble_eq_true rfl) rfl rfl g0 (Nat.le_of_ble_eq_true rfl) (Nat.le_of_ble_eq_true rfl) (ct_X0_hasClash g) ?_
  by_cases c : r2 = 0
  · rw [if_pos c] at hD
    refine ev_if_eq_t (tgt := 71) dX8_blame_9 (by decide) c ?_
    refine Ev.pick [0] rfl ?_
    exact lk_X8_blame_71 hD
  · rw [if_neg c] at hD
    refine ev_if_eq_f 71 dX8_blame_9 (by decide) c ?_
    refine ev_aload_n dX8_blame_12 1 rfl rfl ?_
    obtain ⟨v3, g, hD⟩ := bd hD
    refine ew_getR 7 10 dX8_blame_13 rfl (Nat.le_of_ble_eq_true rfl) w_600 in_X8 rfl g ?_
    refine ev_aload_n dX8_blame_16 1 rfl rfl ?_
    obtain ⟨v4, g, hD⟩ := bd hD
    refine ew_getR 7 9 dX8_blame_17 rfl (Nat.le_of_ble_eq_true rfl) w_599 in_X8 rfl g ?_
    obtain ⟨_, g0, hD⟩ := bd hD
    obtain ⟨r5, g, hD⟩ := bd hD
    refine ew_callV0 (as := [vr v4]) (a := v3) (rest := []) dX8_blame_20 v_X0_takeFirst w_667 rfl (Nat.le_of_ble_eq_true rfl) rfl rfl g0 (Nat.le_of_ble_eq_true rfl) (Nat.le_of_ble_eq_true rfl) (ct_X0_takeFirst g) ?_
    refine ev_iconst dX8_blame_23 (mi_c rfl) ?_
    refine ev_istore_n dX8_blame_24 rfl (Nat.le_of_ble_eq_true rfl) rfl ?_
    obtain ⟨r6, g, hD⟩ := bd hD
    refine Ev.pick [2, 1, 0] rfl ?_
    refine lk_X8_blame_25 mFU g ?_
    exact lk_X8_blame_71 hD
theorem ct_X8_blame {G : mG} {x0 : Nat} {σ : mS} {R : (Int × mS)} (hD : D_X8_blame x0 σ = some R) : Ct G M_X8_blame [vr x0] σ (.inl (some (vi R.1))) R.2 := ct_of rfl (by decide +kernel) rfl (Nat.le_of_ble_eq_true rfl) rfl (lk_X8_blame hD)
def D_X8_needless_57 (rec : Nat → Int → Int → mS → Option (Int × mS)) (x0 : Nat) (x2 : Int) (y0 : Int) (y1 : Int) (σ : mS) : Option (Int × mS) :=
  rec x0 (mor y1 y0) (mw (x2 + 1)) σ
set_option maxRecDepth 100000 in
set_option maxHeartbeats 4000000 in
theorem lk_X8_needless_57 {G : mG} {rec : Nat → Int → Int → mS → Option (Int × mS)} {x0 : Nat} {x2 : Int} {y0 : Int} {y1 : Int} {σ : mS} {R : (Int × mS)} {r : mX} {τ : mS} (hD : D_X8_needless_57 rec x0 x2 y0 y1 σ = some R) (hrec : ∀ {x0 : Nat} {x1 : Int} {x2 : Int} {σ : mS} {R : (Int × mS)}, rec x0 x1 x2 σ = some R → ∀ {r : mX} {τ : mS}, Ev G M_X8_needless 65 [(1, vi (R.1))] [] R.2 r τ → Ev G M_X8_needless 15 [(0, vr x0), (1, vi x1), (2, vi x2)] [] σ r τ) (hk : Ev G M_X8_needless 65 [(1, vi (R.1))] [] R.2 r τ) : Ev G M_X8_needless 57 [(0, vr x0), (2, vi x2)] [vi y0, vi y1] σ r τ := by
  unfold D_X8_needless_57 at hD
  refine ev_ior dX8_needless_57 ?_
  refine ev_istore_n dX8_needless_58 rfl (Nat.le_of_ble_eq_true rfl) rfl ?_
  refine ev_iinc dX8_needless_59 2 rfl (Nat.le_of_ble_eq_true rfl) rfl ?_
  refine ev_goto (tgt := 15) dX8_needless_62 (by decide) ?_
  refine Ev.pick [2, 1, 0] rfl ?_
  exact hrec hD hk
def D_X8_needless_15 : Nat → Nat → Int → Int → mS → Option (Int × mS)
  | 0, _, _, _, _ => none
  | f + 1, x0, x1, x2, σ =>
    (gR σ x0 7 1).bind fun v1 =>
    (gI σ v1 5 5).bind fun v2 =>
    if v2 ≤ x2 then
      some (x1, σ)
    else
      (gR σ x0 7 10).bind fun v3 =>
      (tgO σ v3 0).bind fun _ =>
      (D_X0_run v3 x2 0 σ).bind fun r4 =>
      (gR r4 x0 7 10).bind fun v5 =>
      (gR r4 x0 7 9).bind fun v6 =>
      (tgO r4 v5 0).bind fun _ =>
      (D_X0_sameSpans v5 v6 r4).bind fun r7 =>
      if r7 = 0 then
        D_X8_needless_57 (D_X8_needless_15 f) x0 x2 0 x1 r4
      else
        D_X8_needless_57 (D_X8_needless_15 f) x0 x2 (mshl 1 x2) x1 r4
set_option maxRecDepth 100000 in
set_option maxHeartbeats 4000000 in
theorem lk_X8_needless_15 {G : mG} (f : Nat) : ∀ {x0 : Nat} {x1 : Int} {x2 : Int} {σ : mS} {R : (Int × mS)}, D_X8_needless_15 f x0 x1 x2 σ = some R → ∀ {r : mX} {τ : mS}, Ev G M_X8_needless 65 [(1, vi (R.1))] [] R.2 r τ → Ev G M_X8_needless 15 [(0, vr x0), (1, vi x1), (2, vi x2)] [] σ r τ := by
  induction f with
  | zero =>
    intros
    rename_i hD _ _ _
    cases hD
  | succ f ih =>
    intro x0 x1 x2 σ R hD r τ hk
    have hrec := @ih
    rw [D_X8_needless_15] at hD
    refine ev_iload_n dX8_needless_15 2 rfl rfl ?_
    refine ev_aload_n dX8_needless_16 0 rfl rfl ?_
    obtain ⟨v1, g, hD⟩ := bd hD
    refine ew_getR 7 1 dX8_needless_17 rfl (Nat.le_of_ble_eq_true rfl) w_591 in_X8 rfl g ?_
    obtain ⟨v2, g, hD⟩ := bd hD
    refine ew_getI 5 5 dX8_needless_20 rfl (Nat.le_of_ble_eq_true rfl) w_285 in_X5 rfl g ?_
    by_cases c : v2 ≤ x2
    · rw [if_pos c] at hD
      refine ev_icmp_ge_t (tgt := 65) dX8_needless_23 (by decide) c ?_
      cases hD
      refine Ev.pick [1] rfl ?_
      exact hk
    · rw [if_neg c] at hD
      refine ev_icmp_ge_f 65 dX8_needless_23 (by decide) c ?_
      refine ev_aload_n dX8_needless_26 0 rfl rfl ?_
      obtain ⟨v3, g, hD⟩ := bd hD
      refine ew_getR 7 10 dX8_needless_27 rfl (Nat.le_of_ble_eq_true rfl) w_600 in_X8 rfl g ?_
      refine ev_iload_n dX8_needless_30 2 rfl rfl ?_
      refine ev_iconst dX8_needless_31 (mi_c rfl) ?_
      obtain ⟨_, g0, hD⟩ := bd hD
      obtain ⟨r4, g, hD⟩ := bd hD
      refine ew_callV0 (as := [vi x2, vi 0]) (a := v3) (rest := []) dX8_needless_32 v_X0_run w_515 rfl (Nat.le_of_ble_eq_true rfl) rfl rfl g0 (Nat.le_of_ble_eq_true rfl) (Nat.le_of_ble_eq_true rfl) (ct_X0_run g) ?_
      refine ev_iload_n dX8_needless_35 1 rfl rfl ?_
      refine ev_aload_n dX8_needless_36 0 rfl rfl ?_
      obtain ⟨v5, g, hD⟩ := bd hD
      refine ew_getR 7 10 dX8_needless_37 rfl (Nat.le_of_ble_eq_true rfl) w_600 in_X8 rfl g ?_
      refine ev_aload_n dX8_needless_40 0 rfl rfl ?_
      obtain ⟨v6, g, hD⟩ := bd hD
      refine ew_getR 7 9 dX8_needless_41 rfl (Nat.le_of_ble_eq_true rfl) w_599 in_X8 rfl g ?_
      obtain ⟨_, g0, hD⟩ := bd hD
      obtain ⟨r7, g, hD⟩ := bd hD
      refine ew_callVv (as := [vr v6]) (a := v5) (rest := [vi x1]) dX8_needless_44 v_X0_sameSpans w_675 rfl (Nat.le_of_ble_eq_true rfl) rfl rfl g0 (Nat.le_of_ble_eq_true rfl) (Nat.le_of_ble_eq_true rfl) (ct_X0_sameSpans g) ?_
      by_cases c : r7 = 0
      · rw [if_pos c] at hD
        refine ev_if_eq_t (tgt := 56) dX8_needless_47 (by decide) c ?_
        refine ev_iconst dX8_needless_56 (mi_c rfl) ?_
        refine Ev.pick [0, 2] rfl ?_
        exact lk_X8_needless_57 hD hrec hk
      · rw [if_neg c] at hD
        refine ev_if_eq_f 56 dX8_needless_47 (by decide) c ?_
        refine ev_iconst dX8_needless_50 (mi_c rfl) ?_
        refine ev_iload_n dX8_needless_51 2 rfl rfl ?_
        refine ev_ishl dX8_needless_52 ?_
        refine ev_goto (tgt := 57) dX8_needless_53 (by decide) ?_
        refine Ev.pick [0, 2] rfl ?_
        exact lk_X8_needless_57 hD hrec hk
def D_X8_needless (x0 : Nat) (σ : mS) : Option (Int × mS) :=
  (gR σ x0 7 10).bind fun v1 =>
  (gR σ x0 7 9).bind fun v2 =>
  (tgO σ v1 0).bind fun _ =>
  (D_X0_takeFirst v1 v2 σ).bind fun r3 =>
  (D_X8_needless_15 mFU x0 0 0 r3).bind fun r4 =>
  some (r4.1, r4.2)
set_option maxRecDepth 100000 in
set_option maxHeartbeats 4000000 in
theorem lk_X8_needless {G : mG} {x0 : Nat} {σ : mS} {R : (Int × mS)} (hD : D_X8_needless x0 σ = some R) : Ev G M_X8_needless 0 [(0, vr x0)] [] σ (.inl (some (vi R.1))) R.2 := by
  unfold D_X8_needless at hD
  refine ev_iconst dX8_needless_0 (mi_c rfl) ?_
  refine ev_istore_n dX8_needless_1 rfl (Nat.le_of_ble_eq_true rfl) rfl ?_
  refine ev_aload_n dX8_needless_2 1 rfl rfl ?_
  obtain ⟨v1, g, hD⟩ := bd hD
  refine ew_getR 7 10 dX8_needless_3 rfl (Nat.le_of_ble_eq_true rfl) w_600 in_X8 rfl g ?_
  refine ev_aload_n dX8_needless_6 1 rfl rfl ?_
  obtain ⟨v2, g, hD⟩ := bd hD
  refine ew_getR 7 9 dX8_needless_7 rfl (Nat.le_of_ble_eq_true rfl) w_599 in_X8 rfl g ?_
  obtain ⟨_, g0, hD⟩ := bd hD
  obtain ⟨r3, g, hD⟩ := bd hD
  refine ew_callV0 (as := [vr v2]) (a := v1) (rest := []) dX8_needless_10 v_X0_takeFirst w_667 rfl (Nat.le_of_ble_eq_true rfl) rfl rfl g0 (Nat.le_of_ble_eq_true rfl) (Nat.le_of_ble_eq_true rfl) (ct_X0_takeFirst g) ?_
  refine ev_iconst dX8_needless_13 (mi_c rfl) ?_
  refine ev_istore_n dX8_needless_14 rfl (Nat.le_of_ble_eq_true rfl) rfl ?_
  obtain ⟨r4, g, hD⟩ := bd hD
  refine Ev.pick [2, 1, 0] rfl ?_
  refine lk_X8_needless_15 mFU g ?_
  refine ev_iload_n dX8_needless_65 0 rfl rfl ?_
  cases hD
  exact ev_ret (some (vi _)) dX8_needless_66 True.intro
theorem ct_X8_needless {G : mG} {x0 : Nat} {σ : mS} {R : (Int × mS)} (hD : D_X8_needless x0 σ = some R) : Ct G M_X8_needless [vr x0] σ (.inl (some (vi R.1))) R.2 := ct_of rfl (by decide +kernel) rfl (Nat.le_of_ble_eq_true rfl) rfl (lk_X8_needless hD)
def D_X8_ofSupposed_36 (y0 : Int) (σ : mS) : Option Int :=
  some y0
set_option maxRecDepth 100000 in
set_option maxHeartbeats 4000000 in
theorem lk_X8_ofSupposed_36 {G : mG} {y0 : Int} {σ : mS} {R : Int} (hD : D_X8_ofSupposed_36 y0 σ = some R) : Ev G M_X8_ofSupposed 36 [] [vi y0] σ (.inl (some (vi R))) σ := by
  unfold D_X8_ofSupposed_36 at hD
  cases hD
  exact ev_ret (some (vi _)) dX8_ofSupposed_36 True.intro
def D_X8_ofSupposed (x0 : Nat) (x1 : Int) (σ : mS) : Option Int :=
  if x1 ≠ 0 then
    if x1 ≠ 1 then
      (gR σ x0 7 10).bind fun v1 =>
      (gI σ v1 0 8).bind fun v2 =>
      D_X8_ofSupposed_36 v2 σ
    else
      (gR σ x0 7 10).bind fun v3 =>
      (tgO σ v3 0).bind fun _ =>
      (D_X0_emptySpans v3 σ).bind fun r4 =>
      D_X8_ofSupposed_36 r4 σ
  else
    (gR σ x0 7 10).bind fun v5 =>
    (tgO σ v5 0).bind fun _ =>
    (D_X0_yearsOfAll v5 σ).bind fun r6 =>
    D_X8_ofSupposed_36 r6 σ
set_option maxRecDepth 100000 in
set_option maxHeartbeats 4000000 in
theorem lk_X8_ofSupposed {G : mG} {x0 : Nat} {x1 : Int} {σ : mS} {R : Int} (hD : D_X8_ofSupposed x0 x1 σ = some R) : Ev G M_X8_ofSupposed 0 [(0, vr x0), (1, vi x1)] [] σ (.inl (some (vi R))) σ := by
  unfold D_X8_ofSupposed at hD
  refine ev_iload_n dX8_ofSupposed_0 1 rfl rfl ?_
  by_cases c : x1 ≠ 0
  · rw [if_pos c] at hD
    refine ev_if_ne_t (tgt := 14) dX8_ofSupposed_1 (by decide) c ?_
    refine ev_iload_n dX8_ofSupposed_14 1 rfl rfl ?_
    refine ev_iconst dX8_ofSupposed_15 (mi_c rfl) ?_
    by_cases c : x1 ≠ 1
    · rw [if_pos c] at hD
      refine ev_icmp_ne_t (tgt := 29) dX8_ofSupposed_16 (by decide) c ?_
      refine ev_aload_n dX8_ofSupposed_29 0 rfl rfl ?_
      obtain ⟨v1, g, hD⟩ := bd hD
      refine ew_getR 7 10 dX8_ofSupposed_30 rfl (Nat.le_of_ble_eq_true rfl) w_600 in_X8 rfl g ?_
      obtain ⟨v2, g, hD⟩ := bd hD
      refine ew_getI 0 8 dX8_ofSupposed_33 rfl (Nat.le_of_ble_eq_true rfl) w_403 in_X0 rfl g ?_
      refine Ev.pick [] rfl ?_
      exact lk_X8_ofSupposed_36 hD
    · rw [if_neg c] at hD
      refine ev_icmp_ne_f 29 dX8_ofSupposed_16 (by decide) c ?_
      refine ev_aload_n dX8_ofSupposed_19 0 rfl rfl ?_
      obtain ⟨v3, g, hD⟩ := bd hD
      refine ew_getR 7 10 dX8_ofSupposed_20 rfl (Nat.le_of_ble_eq_true rfl) w_600 in_X8 rfl g ?_
      obtain ⟨_, g0, hD⟩ := bd hD
      obtain ⟨r4, g, hD⟩ := bd hD
      refine ew_callVv (as := []) (a := v3) (rest := []) dX8_ofSupposed_23 v_X0_emptySpans w_1055 rfl (Nat.le_of_ble_eq_true rfl) rfl rfl g0 (Nat.le_of_ble_eq_true rfl) (Nat.le_of_ble_eq_true rfl) (ct_X0_emptySpans g) ?_
      refine ev_goto (tgt := 36) dX8_ofSupposed_26 (by decide) ?_
      refine Ev.pick [] rfl ?_
      exact lk_X8_ofSupposed_36 hD
  · rw [if_neg c] at hD
    refine ev_if_ne_f 14 dX8_ofSupposed_1 (by decide) c ?_
    refine ev_aload_n dX8_ofSupposed_4 0 rfl rfl ?_
    obtain ⟨v5, g, hD⟩ := bd hD
    refine ew_getR 7 10 dX8_ofSupposed_5 rfl (Nat.le_of_ble_eq_true rfl) w_600 in_X8 rfl g ?_
    obtain ⟨_, g0, hD⟩ := bd hD
    obtain ⟨r6, g, hD⟩ := bd hD
    refine ew_callVv (as := []) (a := v5) (rest := []) dX8_ofSupposed_8 v_X0_yearsOfAll w_1051 rfl (Nat.le_of_ble_eq_true rfl) rfl rfl g0 (Nat.le_of_ble_eq_true rfl) (Nat.le_of_ble_eq_true rfl) (ct_X0_yearsOfAll g) ?_
    refine ev_goto (tgt := 36) dX8_ofSupposed_11 (by decide) ?_
    refine Ev.pick [] rfl ?_
    exact lk_X8_ofSupposed_36 hD
theorem ct_X8_ofSupposed {G : mG} {x0 : Nat} {x1 : Int} {σ : mS} {R : Int} (hD : D_X8_ofSupposed x0 x1 σ = some R) : Ct G M_X8_ofSupposed [vr x0, vi x1] σ (.inl (some (vi R))) σ := ct_of rfl (by decide +kernel) rfl (Nat.le_of_ble_eq_true rfl) rfl (lk_X8_ofSupposed hD)
def D_X8_without_20 (x0 : Nat) (x1 : Int) (x2 : Int) (y0 : Int) (y1 : Nat) (σ : mS) : Option ((Int ⊕ Nat) × mS) :=
  (tgO σ y1 7).bind fun _ =>
  (D_X8_needArgument y1 y0 σ).bind fun r1 =>
  match r1 with
  | (Sum.inl _, s4) =>
    (gR s4 x0 7 10).bind fun v5 =>
    (gR s4 x0 7 9).bind fun v6 =>
    (tgO s4 v5 0).bind fun _ =>
    (D_X0_takeFirst v5 v6 s4).bind fun r7 =>
    (gR r7 x0 7 10).bind fun v8 =>
    (tgO r7 v8 0).bind fun _ =>
    (D_X0_run v8 x1 0 r7).bind fun r9 =>
    (tgO r9 x0 7).bind fun _ =>
    (D_X8_ofSupposed x0 x2 r9).bind fun r10 =>
    some (Sum.inl r10, r9)
  | (Sum.inr e3, s4) => some (Sum.inr e3, s4)
set_option maxRecDepth 100000 in
set_option maxHeartbeats 4000000 in
theorem lk_X8_without_20 {G : mG} {x0 : Nat} {x1 : Int} {x2 : Int} {y0 : Int} {y1 : Nat} {σ : mS} {R : ((Int ⊕ Nat) × mS)} (hD : D_X8_without_20 x0 x1 x2 y0 y1 σ = some R) : Ev G M_X8_without 20 [(0, vr x0), (1, vi x1), (2, vi x2)] [vi y0, vr y1] σ (mRsI R.1) R.2 := by
  unfold D_X8_without_20 at hD
  obtain ⟨_, g0, hD⟩ := bd hD
  obtain ⟨r1, g, hD⟩ := bd hD
  obtain ⟨v2 | e3, s4⟩ := r1
  · refine ew_callV0 (as := [vi y0]) (a := y1) (rest := []) dX8_without_20 v_X8_needArgument w_714 rfl (Nat.le_of_ble_eq_true rfl) rfl rfl g0 (Nat.le_of_ble_eq_true rfl) (Nat.le_of_ble_eq_true rfl) (ct_X8_needArgument g) ?_
    dsimp only at hD
    refine ev_aload_n dX8_without_23 0 rfl rfl ?_
    obtain ⟨v5, g, hD⟩ := bd hD
    refine ew_getR 7 10 dX8_without_24 rfl (Nat.le_of_ble_eq_true rfl) w_600 in_X8 rfl g ?_
    refine ev_aload_n dX8_without_27 0 rfl rfl ?_
    obtain ⟨v6, g, hD⟩ := bd hD
    refine ew_getR 7 9 dX8_without_28 rfl (Nat.le_of_ble_eq_true rfl) w_599 in_X8 rfl g ?_
    obtain ⟨_, g0, hD⟩ := bd hD
    obtain ⟨r7, g, hD⟩ := bd hD
    refine ew_callV0 (as := [vr v6]) (a := v5) (rest := []) dX8_without_31 v_X0_takeFirst w_667 rfl (Nat.le_of_ble_eq_true rfl) rfl rfl g0 (Nat.le_of_ble_eq_true rfl) (Nat.le_of_ble_eq_true rfl) (ct_X0_takeFirst g) ?_
    refine ev_aload_n dX8_without_34 0 rfl rfl ?_
    obtain ⟨v8, g, hD⟩ := bd hD
    refine ew_getR 7 10 dX8_without_35 rfl (Nat.le_of_ble_eq_true rfl) w_600 in_X8 rfl g ?_
    refine ev_iload_n dX8_without_38 1 rfl rfl ?_
    refine ev_iconst dX8_without_39 (mi_c rfl) ?_
    obtain ⟨_, g0, hD⟩ := bd hD
    obtain ⟨r9, g, hD⟩ := bd hD
    refine ew_callV0 (as := [vi x1, vi 0]) (a := v8) (rest := []) dX8_without_40 v_X0_run w_515 rfl (Nat.le_of_ble_eq_true rfl) rfl rfl g0 (Nat.le_of_ble_eq_true rfl) (Nat.le_of_ble_eq_true rfl) (ct_X0_run g) ?_
    refine ev_aload_n dX8_without_43 0 rfl rfl ?_
    refine ev_iload_n dX8_without_44 2 rfl rfl ?_
    obtain ⟨_, g0, hD⟩ := bd hD
    obtain ⟨r10, g, hD⟩ := bd hD
    refine ew_callVv (as := [vi x2]) (a := x0) (rest := []) dX8_without_45 v_X8_ofSupposed w_1161 rfl (Nat.le_of_ble_eq_true rfl) rfl rfl g0 (Nat.le_of_ble_eq_true rfl) (Nat.le_of_ble_eq_true rfl) (ct_X8_ofSupposed g) ?_
    cases hD
    exact ev_ret (some (vi _)) dX8_without_48 True.intro
  · cases hD
    exact ev_thrV (as := [vi y0]) (a := y1) (rest := []) dX8_without_20 v_X8_needArgument w_714 rfl (Nat.le_of_ble_eq_true rfl) rfl rfl (tgO_s g0) (Nat.le_of_ble_eq_true rfl) (Nat.le_of_ble_eq_true rfl) rfl (ct_X8_needArgument g)
def D_X8_without_19 (x0 : Nat) (x1 : Int) (x2 : Int) (y0 : Nat) (σ : mS) : Option ((Int ⊕ Nat) × mS) :=
  D_X8_without_20 x0 x1 x2 0 y0 σ
set_option maxRecDepth 100000 in
set_option maxHeartbeats 4000000 in
theorem lk_X8_without_19 {G : mG} {x0 : Nat} {x1 : Int} {x2 : Int} {y0 : Nat} {σ : mS} {R : ((Int ⊕ Nat) × mS)} (hD : D_X8_without_19 x0 x1 x2 y0 σ = some R) : Ev G M_X8_without 19 [(0, vr x0), (1, vi x1), (2, vi x2)] [vr y0] σ (mRsI R.1) R.2 := by
  unfold D_X8_without_19 at hD
  refine ev_iconst dX8_without_19 (mi_c rfl) ?_
  exact lk_X8_without_20 hD
def D_X8_without (x0 : Nat) (x1 : Int) (x2 : Int) (σ : mS) : Option ((Int ⊕ Nat) × mS) :=
  (tgO σ x0 7).bind fun _ =>
  (D_X8_needRule x0 x1 σ).bind fun r1 =>
  match r1 with
  | (Sum.inl _, s4) =>
    if x2 < 0 then
      D_X8_without_19 x0 x1 x2 x0 s4
    else
      if 2 < x2 then
        D_X8_without_19 x0 x1 x2 x0 s4
      else
        D_X8_without_20 x0 x1 x2 1 x0 s4
  | (Sum.inr e3, s4) => some (Sum.inr e3, s4)
set_option maxRecDepth 100000 in
set_option maxHeartbeats 4000000 in
theorem lk_X8_without {G : mG} {x0 : Nat} {x1 : Int} {x2 : Int} {σ : mS} {R : ((Int ⊕ Nat) × mS)} (hD : D_X8_without x0 x1 x2 σ = some R) : Ev G M_X8_without 0 [(0, vr x0), (1, vi x1), (2, vi x2)] [] σ (mRsI R.1) R.2 := by
  unfold D_X8_without at hD
  refine ev_aload_n dX8_without_0 0 rfl rfl ?_
  refine ev_iload_n dX8_without_1 1 rfl rfl ?_
  obtain ⟨_, g0, hD⟩ := bd hD
  obtain ⟨r1, g, hD⟩ := bd hD
  obtain ⟨v2 | e3, s4⟩ := r1
  · refine ew_callV0 (as := [vi x1]) (a := x0) (rest := []) dX8_without_2 v_X8_needRule w_1036 rfl (Nat.le_of_ble_eq_true rfl) rfl rfl g0 (Nat.le_of_ble_eq_true rfl) (Nat.le_of_ble_eq_true rfl) (ct_X8_needRule g) ?_
    dsimp only at hD
    refine ev_aload_n dX8_without_5 0 rfl rfl ?_
    refine ev_iload_n dX8_without_6 2 rfl rfl ?_
    by_cases c : x2 < 0
    · rw [if_pos c] at hD
      refine ev_if_lt_t (tgt := 19) dX8_without_7 (by decide) c ?_
      exact lk_X8_without_19 hD
    · rw [if_neg c] at hD
      refine ev_if_lt_f 19 dX8_without_7 (by decide) c ?_
      refine ev_iload_n dX8_without_10 2 rfl rfl ?_
      refine ev_iconst dX8_without_11 (mi_c rfl) ?_
      by_cases c : 2 < x2
      · rw [if_pos c] at hD
        refine ev_icmp_gt_t (tgt := 19) dX8_without_12 (by decide) c ?_
        exact lk_X8_without_19 hD
      · rw [if_neg c] at hD
        refine ev_icmp_gt_f 19 dX8_without_12 (by decide) c ?_
        refine ev_iconst dX8_without_15 (mi_c rfl) ?_
        refine ev_goto (tgt := 20) dX8_without_16 (by decide) ?_
        exact lk_X8_without_20 hD
  · cases hD
    exact ev_thrV (as := [vi x1]) (a := x0) (rest := []) dX8_without_2 v_X8_needRule w_1036 rfl (Nat.le_of_ble_eq_true rfl) rfl rfl (tgO_s g0) (Nat.le_of_ble_eq_true rfl) (Nat.le_of_ble_eq_true rfl) rfl (ct_X8_needRule g)
theorem ct_X8_without {G : mG} {x0 : Nat} {x1 : Int} {x2 : Int} {σ : mS} {R : ((Int ⊕ Nat) × mS)} (hD : D_X8_without x0 x1 x2 σ = some R) : Ct G M_X8_without [vr x0, vi x1, vi x2] σ (mRsI R.1) R.2 := ct_of rfl (by decide +kernel) rfl (Nat.le_of_ble_eq_true rfl) rfl (lk_X8_without hD)
def D_X8_pinned_25 (x0 : Nat) (x1 : Int) (x2 : Int) (x3 : Int) (y0 : Int) (y1 : Nat) (σ : mS) : Option ((Int ⊕ Nat) × mS) :=
  (tgO σ y1 7).bind fun _ =>
  (D_X8_needArgument y1 y0 σ).bind fun r1 =>
  match r1 with
  | (Sum.inl _, s4) =>
    (gR s4 x0 7 10).bind fun v5 =>
    (gR s4 x0 7 9).bind fun v6 =>
    (tgO s4 v5 0).bind fun _ =>
    (D_X0_takeFirst v5 v6 s4).bind fun r7 =>
    (gR r7 x0 7 10).bind fun v8 =>
    (tgO r7 v8 0).bind fun _ =>
    (D_X0_pin v8 x1 x2 r7).bind fun r9 =>
    (gR r9 x0 7 10).bind fun v10 =>
    (tgO r9 v10 0).bind fun _ =>
    (D_X0_run v10 ((-1)) 0 r9).bind fun r11 =>
    (tgO r11 x0 7).bind fun _ =>
    (D_X8_ofSupposed x0 x3 r11).bind fun r12 =>
    some (Sum.inl r12, r11)
  | (Sum.inr e3, s4) => some (Sum.inr e3, s4)
set_option maxRecDepth 100000 in
set_option maxHeartbeats 4000000 in
theorem lk_X8_pinned_25 {G : mG} {x0 : Nat} {x1 : Int} {x2 : Int} {x3 : Int} {y0 : Int} {y1 : Nat} {σ : mS} {R : ((Int ⊕ Nat) × mS)} (hD : D_X8_pinned_25 x0 x1 x2 x3 y0 y1 σ = some R) : Ev G M_X8_pinned 25 [(0, vr x0), (1, vi x1), (2, vi x2), (3, vi x3)] [vi y0, vr y1] σ (mRsI R.1) R.2 := by
  unfold D_X8_pinned_25 at hD
  obtain ⟨_, g0, hD⟩ := bd hD
  obtain ⟨r1, g, hD⟩ := bd hD
  obtain ⟨v2 | e3, s4⟩ := r1
  · refine ew_callV0 (as := [vi y0]) (a := y1) (rest := []) dX8_pinned_25 v_X8_needArgument w_714 rfl (Nat.le_of_ble_eq_true rfl) rfl rfl g0 (Nat.le_of_ble_eq_true rfl) (Nat.le_of_ble_eq_true rfl) (ct_X8_needArgument g) ?_
    dsimp only at hD
    refine ev_aload_n dX8_pinned_28 0 rfl rfl ?_
    obtain ⟨v5, g, hD⟩ := bd hD
    refine ew_getR 7 10 dX8_pinned_29 rfl (Nat.le_of_ble_eq_true rfl) w_600 in_X8 rfl g ?_
    refine ev_aload_n dX8_pinned_32 0 rfl rfl ?_
    obtain ⟨v6, g, hD⟩ := bd hD
    refine ew_getR 7 9 dX8_pinned_33 rfl (Nat.le_of_ble_eq_true rfl) w_599 in_X8 rfl g ?_
    obtain ⟨_, g0, hD⟩ := bd hD
    obtain ⟨r7, g, hD⟩ := bd hD
    refine ew_callV0 (as := [vr v6]) (a := v5) (rest := []) dX8_pinned_36 v_X0_takeFirst w_667 rfl (Nat.le_of_ble_eq_true rfl) rfl rfl g0 (Nat.le_of_ble_eq_true rfl) (Nat.le_of_ble_eq_true rfl) (ct_X0_takeFirst g) ?_
    refine ev_aload_n dX8_pinned_39 0 rfl rfl ?_
    obtain ⟨v8, g, hD⟩ := bd hD
    refine ew_getR 7 10 dX8_pinned_40 rfl (Nat.le_of_ble_eq_true rfl) w_600 in_X8 rfl g ?_
    refine ev_iload_n dX8_pinned_43 1 rfl rfl ?_
    refine ev_iload_n dX8_pinned_44 2 rfl rfl ?_
    obtain ⟨_, g0, hD⟩ := bd hD
    obtain ⟨r9, g, hD⟩ := bd hD
    refine ew_callV0 (as := [vi x1, vi x2]) (a := v8) (rest := []) dX8_pinned_45 v_X0_pin w_1172 rfl (Nat.le_of_ble_eq_true rfl) rfl rfl g0 (Nat.le_of_ble_eq_true rfl) (Nat.le_of_ble_eq_true rfl) (ct_X0_pin g) ?_
    refine ev_aload_n dX8_pinned_48 0 rfl rfl ?_
    obtain ⟨v10, g, hD⟩ := bd hD
    refine ew_getR 7 10 dX8_pinned_49 rfl (Nat.le_of_ble_eq_true rfl) w_600 in_X8 rfl g ?_
    refine ev_iconst dX8_pinned_52 (mi_c rfl) ?_
    refine ev_iconst dX8_pinned_53 (mi_c rfl) ?_
    obtain ⟨_, g0, hD⟩ := bd hD
    obtain ⟨r11, g, hD⟩ := bd hD
    refine ew_callV0 (as := [vi ((-1)), vi 0]) (a := v10) (rest := []) dX8_pinned_54 v_X0_run w_515 rfl (Nat.le_of_ble_eq_true rfl) rfl rfl g0 (Nat.le_of_ble_eq_true rfl) (Nat.le_of_ble_eq_true rfl) (ct_X0_run g) ?_
    refine ev_aload_n dX8_pinned_57 0 rfl rfl ?_
    refine ev_iload_n dX8_pinned_58 3 rfl rfl ?_
    obtain ⟨_, g0, hD⟩ := bd hD
    obtain ⟨r12, g, hD⟩ := bd hD
    refine ew_callVv (as := [vi x3]) (a := x0) (rest := []) dX8_pinned_59 v_X8_ofSupposed w_1161 rfl (Nat.le_of_ble_eq_true rfl) rfl rfl g0 (Nat.le_of_ble_eq_true rfl) (Nat.le_of_ble_eq_true rfl) (ct_X8_ofSupposed g) ?_
    cases hD
    exact ev_ret (some (vi _)) dX8_pinned_62 True.intro
  · cases hD
    exact ev_thrV (as := [vi y0]) (a := y1) (rest := []) dX8_pinned_25 v_X8_needArgument w_714 rfl (Nat.le_of_ble_eq_true rfl) rfl rfl (tgO_s g0) (Nat.le_of_ble_eq_true rfl) (Nat.le_of_ble_eq_true rfl) rfl (ct_X8_needArgument g)
def D_X8_pinned_24 (x0 : Nat) (x1 : Int) (x2 : Int) (x3 : Int) (y0 : Nat) (σ : mS) : Option ((Int ⊕ Nat) × mS) :=
  D_X8_pinned_25 x0 x1 x2 x3 0 y0 σ
set_option maxRecDepth 100000 in
set_option maxHeartbeats 4000000 in
theorem lk_X8_pinned_24 {G : mG} {x0 : Nat} {x1 : Int} {x2 : Int} {x3 : Int} {y0 : Nat} {σ : mS} {R : ((Int ⊕ Nat) × mS)} (hD : D_X8_pinned_24 x0 x1 x2 x3 y0 σ = some R) : Ev G M_X8_pinned 24 [(0, vr x0), (1, vi x1), (2, vi x2), (3, vi x3)] [vr y0] σ (mRsI R.1) R.2 := by
  unfold D_X8_pinned_24 at hD
  refine ev_iconst dX8_pinned_24 (mi_c rfl) ?_
  exact lk_X8_pinned_25 hD
def D_X8_pinned (x0 : Nat) (x1 : Int) (x2 : Int) (x3 : Int) (σ : mS) : Option ((Int ⊕ Nat) × mS) :=
  (tgO σ x0 7).bind fun _ =>
  (D_X8_needSample x0 x1 σ).bind fun r1 =>
  match r1 with
  | (Sum.inl _, s4) =>
    (tgO s4 x0 7).bind fun _ =>
    (D_X8_needYear x0 x2 s4).bind fun r5 =>
    match r5 with
    | (Sum.inl _, s8) =>
      if x3 < 0 then
        D_X8_pinned_24 x0 x1 x2 x3 x0 s8
      else
        if 2 < x3 then
          D_X8_pinned_24 x0 x1 x2 x3 x0 s8
        else
          D_X8_pinned_25 x0 x1 x2 x3 1 x0 s8
    | (Sum.inr e7, s8) => some (Sum.inr e7, s8)
  | (Sum.inr e3, s4) => some (Sum.inr e3, s4)
set_option maxRecDepth 100000 in
set_option maxHeartbeats 4000000 in
theorem lk_X8_pinned {G : mG} {x0 : Nat} {x1 : Int} {x2 : Int} {x3 : Int} {σ : mS} {R : ((Int ⊕ Nat) × mS)} (hD : D_X8_pinned x0 x1 x2 x3 σ = some R) : Ev G M_X8_pinned 0 [(0, vr x0), (1, vi x1), (2, vi x2), (3, vi x3)] [] σ (mRsI R.1) R.2 := by
  unfold D_X8_pinned at hD
  refine ev_aload_n dX8_pinned_0 0 rfl rfl ?_
  refine ev_iload_n dX8_pinned_1 1 rfl rfl ?_
  obtain ⟨_, g0, hD⟩ := bd hD
  obtain ⟨r1, g, hD⟩ := bd hD
  obtain ⟨v2 | e3, s4⟩ := r1
  · refine ew_callV0 (as := [vi x1]) (a := x0) (rest := []) dX8_pinned_2 v_X8_needSample w_968 rfl (Nat.le_of_ble_eq_true rfl) rfl rfl g0 (Nat.le_of_ble_eq_true rfl) (Nat.le_of_ble_eq_true rfl) (ct_X8_needSample g) ?_
    dsimp only at hD
    refine ev_aload_n dX8_pinned_5 0 rfl rfl ?_
    refine ev_iload_n dX8_pinned_6 2 rfl rfl ?_
    obtain ⟨_, g0, hD⟩ := bd hD
    obtain ⟨r5, g, hD⟩ := bd hD
    obtain ⟨v6 | e7, s8⟩ := r5
    · refine ew_callV0 (as := [vi x2]) (a := x0) (rest := []) dX8_pinned_7 v_X8_needYear w_1070 rfl (Nat.le_of_ble_eq_true rfl) rfl rfl g0 (Nat.le_of_ble_eq_true rfl) (Nat.le_of_ble_eq_true rfl) (ct_X8_needYear g) ?_
      dsimp only at hD
      refine ev_aload_n dX8_pinned_10 0 rfl rfl ?_
      refine ev_iload_n dX8_pinned_11 3 rfl rfl ?_
      by_cases c : x3 < 0
      · rw [if_pos c] at hD
        refine ev_if_lt_t (tgt := 24) dX8_pinned_12 (by decide) c ?_
        exact lk_X8_pinned_24 hD
      · rw [if_neg c] at hD
        refine ev_if_lt_f 24 dX8_pinned_12 (by decide) c ?_
        refine ev_iload_n dX8_pinned_15 3 rfl rfl ?_
        refine ev_iconst dX8_pinned_16 (mi_c rfl) ?_
        by_cases c : 2 < x3
        · rw [if_pos c] at hD
          refine ev_icmp_gt_t (tgt := 24) dX8_pinned_17 (by decide) c ?_
          exact lk_X8_pinned_24 hD
        · rw [if_neg c] at hD
          refine ev_icmp_gt_f 24 dX8_pinned_17 (by decide) c ?_
          refine ev_iconst dX8_pinned_20 (mi_c rfl) ?_
          refine ev_goto (tgt := 25) dX8_pinned_21 (by decide) ?_
          exact lk_X8_pinned_25 hD
    · cases hD
      exact ev_thrV (as := [vi x2]) (a := x0) (rest := []) dX8_pinned_7 v_X8_needYear w_1070 rfl (Nat.le_of_ble_eq_true rfl) rfl rfl (tgO_s g0) (Nat.le_of_ble_eq_true rfl) (Nat.le_of_ble_eq_true rfl) rfl (ct_X8_needYear g)
  · cases hD
    exact ev_thrV (as := [vi x1]) (a := x0) (rest := []) dX8_pinned_2 v_X8_needSample w_968 rfl (Nat.le_of_ble_eq_true rfl) rfl rfl (tgO_s g0) (Nat.le_of_ble_eq_true rfl) (Nat.le_of_ble_eq_true rfl) rfl (ct_X8_needSample g)
theorem ct_X8_pinned {G : mG} {x0 : Nat} {x1 : Int} {x2 : Int} {x3 : Int} {σ : mS} {R : ((Int ⊕ Nat) × mS)} (hD : D_X8_pinned x0 x1 x2 x3 σ = some R) : Ct G M_X8_pinned [vr x0, vi x1, vi x2, vi x3] σ (mRsI R.1) R.2 := ct_of rfl (by decide +kernel) rfl (Nat.le_of_ble_eq_true rfl) rfl (lk_X8_pinned hD)
def D_X8_doomed_79 (rec : Nat → Int → Int → Int → mS → Option (Int × mS)) (x0 : Nat) (x1 : Int) (x2 : Int) (x3 : Int) (σ : mS) : Option (Int × mS) :=
  rec x0 x1 x2 (mw (x3 + 1)) σ
set_option maxRecDepth 100000 in
set_option maxHeartbeats 4000000 in
theorem lk_X8_doomed_79 {G : mG} {rec : Nat → Int → Int → Int → mS → Option (Int × mS)} {x0 : Nat} {x1 : Int} {x2 : Int} {x3 : Int} {σ : mS} {R : (Int × mS)} {r : mX} {τ : mS} (hD : D_X8_doomed_79 rec x0 x1 x2 x3 σ = some R) (hrec : ∀ {x0 : Nat} {x1 : Int} {x2 : Int} {x3 : Int} {σ : mS} {R : (Int × mS)}, rec x0 x1 x2 x3 σ = some R → ∀ {r : mX} {τ : mS}, Ev G M_X8_doomed 85 [(2, vi (R.1))] [] R.2 r τ → Ev G M_X8_doomed 20 [(0, vr x0), (1, vi x1), (2, vi x2), (3, vi x3)] [] σ r τ) (hk : Ev G M_X8_doomed 85 [(2, vi (R.1))] [] R.2 r τ) : Ev G M_X8_doomed 79 [(0, vr x0), (1, vi x1), (2, vi x2), (3, vi x3)] [] σ r τ := by
  unfold D_X8_doomed_79 at hD
  refine ev_iinc dX8_doomed_79 3 rfl (Nat.le_of_ble_eq_true rfl) rfl ?_
  refine ev_goto (tgt := 20) dX8_doomed_82 (by decide) ?_
  refine Ev.pick [1, 2, 3, 0] rfl ?_
  exact hrec hD hk
def D_X8_doomed_77 (rec : Nat → Int → Int → Int → mS → Option (Int × mS)) (x0 : Nat) (x1 : Int) (x3 : Int) (y0 : Int) (y1 : Int) (σ : mS) : Option (Int × mS) :=
  D_X8_doomed_79 rec x0 x1 (mw (y1 + y0)) x3 σ
set_option maxRecDepth 100000 in
set_option maxHeartbeats 4000000 in
theorem lk_X8_doomed_77 {G : mG} {rec : Nat → Int → Int → Int → mS → Option (Int × mS)} {x0 : Nat} {x1 : Int} {x3 : Int} {y0 : Int} {y1 : Int} {σ : mS} {R : (Int × mS)} {r : mX} {τ : mS} (hD : D_X8_doomed_77 rec x0 x1 x3 y0 y1 σ = some R) (hrec : ∀ {x0 : Nat} {x1 : Int} {x2 : Int} {x3 : Int} {σ : mS} {R : (Int × mS)}, rec x0 x1 x2 x3 σ = some R → ∀ {r : mX} {τ : mS}, Ev G M_X8_doomed 85 [(2, vi (R.1))] [] R.2 r τ → Ev G M_X8_doomed 20 [(0, vr x0), (1, vi x1), (2, vi x2), (3, vi x3)] [] σ r τ) (hk : Ev G M_X8_doomed 85 [(2, vi (R.1))] [] R.2 r τ) : Ev G M_X8_doomed 77 [(0, vr x0), (1, vi x1), (3, vi x3)] [vi y0, vi y1] σ r τ := by
  unfold D_X8_doomed_77 at hD
  refine ev_iadd dX8_doomed_77 ?_
  refine ev_istore_n dX8_doomed_78 rfl (Nat.le_of_ble_eq_true rfl) rfl ?_
  refine Ev.pick [1, 2, 0, 3] rfl ?_
  exact lk_X8_doomed_79 hD hrec hk
def D_X8_doomed_20 : Nat → Nat → Int → Int → Int → mS → Option (Int × mS)
  | 0, _, _, _, _, _ => none
  | f + 1, x0, x1, x2, x3, σ =>
    if 1000 ≤ x3 then
      some (x2, σ)
    else
      (gR σ x0 7 9).bind fun v1 =>
      (gR σ v1 0 3).bind fun v2 =>
      (lR σ v2 x1).bind fun v3 =>
      (D_X7_has v3 x3 σ).bind fun r4 =>
      if r4 = 0 then
        D_X8_doomed_79 (D_X8_doomed_20 f) x0 x1 x2 x3 σ
      else
        (gR σ x0 7 10).bind fun v5 =>
        (tgO σ v5 0).bind fun _ =>
        (D_X0_pin v5 x1 x3 σ).bind fun r6 =>
        (gR r6 x0 7 10).bind fun v7 =>
        (tgO r6 v7 0).bind fun _ =>
        (D_X0_run v7 ((-1)) 1 r6).bind fun r8 =>
        (gR r8 x0 7 10).bind fun v9 =>
        (tgO r8 v9 0).bind fun _ =>
        (D_X0_hasClash v9 r8).bind fun r10 =>
        if r10 = 0 then
          D_X8_doomed_77 (D_X8_doomed_20 f) x0 x1 x3 0 x2 r8
        else
          D_X8_doomed_77 (D_X8_doomed_20 f) x0 x1 x3 1 x2 r8
set_option maxRecDepth 100000 in
set_option maxHeartbeats 4000000 in
theorem lk_X8_doomed_20 {G : mG} (f : Nat) : ∀ {x0 : Nat} {x1 : Int} {x2 : Int} {x3 : Int} {σ : mS} {R : (Int × mS)}, D_X8_doomed_20 f x0 x1 x2 x3 σ = some R → ∀ {r : mX} {τ : mS}, Ev G M_X8_doomed 85 [(2, vi (R.1))] [] R.2 r τ → Ev G M_X8_doomed 20 [(0, vr x0), (1, vi x1), (2, vi x2), (3, vi x3)] [] σ r τ := by
  induction f with
  | zero =>
    intros
    rename_i hD _ _ _
    cases hD
  | succ f ih =>
    intro x0 x1 x2 x3 σ R hD r τ hk
    have hrec := @ih
    rw [D_X8_doomed_20] at hD
    refine ev_iload_n dX8_doomed_20 3 rfl rfl ?_
    refine ev_sp dX8_doomed_21 rfl ?_
    by_cases c : 1000 ≤ x3
    · rw [if_pos c] at hD
      refine ev_icmp_ge_t (tgt := 85) dX8_doomed_24 (by decide) c ?_
      cases hD
      refine Ev.pick [2] rfl ?_
      exact hk
    · rw [if_neg c] at hD
      refine ev_icmp_ge_f 85 dX8_doomed_24 (by decide) c ?_
      refine ev_aload_n dX8_doomed_27 0 rfl rfl ?_
      obtain ⟨v1, g, hD⟩ := bd hD
      refine ew_getR 7 9 dX8_doomed_28 rfl (Nat.le_of_ble_eq_true rfl) w_599 in_X8 rfl g ?_
      obtain ⟨v2, g, hD⟩ := bd hD
      refine ew_getR 0 3 dX8_doomed_31 rfl (Nat.le_of_ble_eq_true rfl) w_393 in_X0 rfl g ?_
      refine ev_iload_n dX8_doomed_34 1 rfl rfl ?_
      obtain ⟨v3, g, hD⟩ := bd hD
      refine ew_aald dX8_doomed_35 g ?_
      refine ev_iload_n dX8_doomed_36 3 rfl rfl ?_
      obtain ⟨r4, g, hD⟩ := bd hD
      refine ew_callSv (as := [vr v3, vi x3]) (rest := []) dX8_doomed_37 v_X7_has w_1137 rfl (Nat.le_of_ble_eq_true rfl) (Nat.le_of_ble_eq_true rfl) (Nat.le_of_ble_eq_true rfl) (ct_X7_has g) ?_
      by_cases c : r4 = 0
      · rw [if_pos c] at hD
        refine ev_if_eq_t (tgt := 79) dX8_doomed_40 (by decide) c ?_
        exact lk_X8_doomed_79 hD hrec hk
      · rw [if_neg c] at hD
        refine ev_if_eq_f 79 dX8_doomed_40 (by decide) c ?_
        refine ev_aload_n dX8_doomed_43 0 rfl rfl ?_
        obtain ⟨v5, g, hD⟩ := bd hD
        refine ew_getR 7 10 dX8_doomed_44 rfl (Nat.le_of_ble_eq_true rfl) w_600 in_X8 rfl g ?_
        refine ev_iload_n dX8_doomed_47 1 rfl rfl ?_
        refine ev_iload_n dX8_doomed_48 3 rfl rfl ?_
        obtain ⟨_, g0, hD⟩ := bd hD
        obtain ⟨r6, g, hD⟩ := bd hD
        refine ew_callV0 (as := [vi x1, vi x3]) (a := v5) (rest := []) dX8_doomed_49 v_X0_pin w_1172 rfl (Nat.le_of_ble_eq_true rfl) rfl rfl g0 (Nat.le_of_ble_eq_true rfl) (Nat.le_of_ble_eq_true rfl) (ct_X0_pin g) ?_
        refine ev_aload_n dX8_doomed_52 0 rfl rfl ?_
        obtain ⟨v7, g, hD⟩ := bd hD
        refine ew_getR 7 10 dX8_doomed_53 rfl (Nat.le_of_ble_eq_true rfl) w_600 in_X8 rfl g ?_
        refine ev_iconst dX8_doomed_56 (mi_c rfl) ?_
        refine ev_iconst dX8_doomed_57 (mi_c rfl) ?_
        obtain ⟨_, g0, hD⟩ := bd hD
        obtain ⟨r8, g, hD⟩ := bd hD
        refine ew_callV0 (as := [vi ((-1)), vi 1]) (a := v7) (rest := []) dX8_doomed_58 v_X0_run w_515 rfl (Nat.le_of_ble_eq_true rfl) rfl rfl g0 (Nat.le_of_ble_eq_true rfl) (Nat.le_of_ble_eq_true rfl) (ct_X0_run g) ?_
        refine ev_iload_n dX8_doomed_61 2 rfl rfl ?_
        refine ev_aload_n dX8_doomed_62 0 rfl rfl ?_
        obtain ⟨v9, g, hD⟩ := bd hD
        refine ew_getR 7 10 dX8_doomed_63 rfl (Nat.le_of_ble_eq_true rfl) w_600 in_X8 rfl g ?_
        obtain ⟨_, g0, hD⟩ := bd hD
        obtain ⟨r10, g, hD⟩ := bd hD
        refine ew_callVv (as := []) (a := v9) (rest := [vi x2]) dX8_doomed_66 v_X0_hasClash w_666 rfl (Nat.le_of_ble_eq_true rfl) rfl rfl g0 (Nat.le_of_ble_eq_true rfl) (Nat.le_of_ble_eq_true rfl) (ct_X0_hasClash g) ?_
        by_cases c : r10 = 0
        · rw [if_pos c] at hD
          refine ev_if_eq_t (tgt := 76) dX8_doomed_69 (by decide) c ?_
          refine ev_iconst dX8_doomed_76 (mi_c rfl) ?_
          refine Ev.pick [0, 1, 3] rfl ?_
          exact lk_X8_doomed_77 hD hrec hk
        · rw [if_neg c] at hD
          refine ev_if_eq_f 76 dX8_doomed_69 (by decide) c ?_
          refine ev_iconst dX8_doomed_72 (mi_c rfl) ?_
          refine ev_goto (tgt := 77) dX8_doomed_73 (by decide) ?_
          refine Ev.pick [0, 1, 3] rfl ?_
          exact lk_X8_doomed_77 hD hrec hk
def D_X8_doomed (x0 : Nat) (x1 : Int) (σ : mS) : Option ((Int ⊕ Nat) × mS) :=
  (tgO σ x0 7).bind fun _ =>
  (D_X8_needSample x0 x1 σ).bind fun r1 =>
  match r1 with
  | (Sum.inl _, s4) =>
    (gR s4 x0 7 10).bind fun v5 =>
    (gR s4 x0 7 9).bind fun v6 =>
    (tgO s4 v5 0).bind fun _ =>
    (D_X0_takeSpans v5 v6 s4).bind fun r7 =>
    (D_X8_doomed_20 mFU x0 x1 0 0 r7).bind fun r8 =>
    some (Sum.inl r8.1, r8.2)
  | (Sum.inr e3, s4) => some (Sum.inr e3, s4)
set_option maxRecDepth 100000 in
set_option maxHeartbeats 4000000 in
theorem lk_X8_doomed {G : mG} {x0 : Nat} {x1 : Int} {σ : mS} {R : ((Int ⊕ Nat) × mS)} (hD : D_X8_doomed x0 x1 σ = some R) : Ev G M_X8_doomed 0 [(0, vr x0), (1, vi x1)] [] σ (mRsI R.1) R.2 := by
  unfold D_X8_doomed at hD
  refine ev_aload_n dX8_doomed_0 0 rfl rfl ?_
  refine ev_iload_n dX8_doomed_1 1 rfl rfl ?_
  obtain ⟨_, g0, hD⟩ := bd hD
  obtain ⟨r1, g, hD⟩ := bd hD
  obtain ⟨v2 | e3, s4⟩ := r1
  · refine ew_callV0 (as := [vi x1]) (a := x0) (rest := []) dX8_doomed_2 v_X8_needSample w_968 rfl (Nat.le_of_ble_eq_true rfl) rfl rfl g0 (Nat.le_of_ble_eq_true rfl) (Nat.le_of_ble_eq_true rfl) (ct_X8_needSample g) ?_
    dsimp only at hD
    refine ev_iconst dX8_doomed_5 (mi_c rfl) ?_
    refine ev_istore_n dX8_doomed_6 rfl (Nat.le_of_ble_eq_true rfl) rfl ?_
    refine ev_aload_n dX8_doomed_7 1 rfl rfl ?_
    obtain ⟨v5, g, hD⟩ := bd hD
    refine ew_getR 7 10 dX8_doomed_8 rfl (Nat.le_of_ble_eq_true rfl) w_600 in_X8 rfl g ?_
    refine ev_aload_n dX8_doomed_11 1 rfl rfl ?_
    obtain ⟨v6, g, hD⟩ := bd hD
    refine ew_getR 7 9 dX8_doomed_12 rfl (Nat.le_of_ble_eq_true rfl) w_599 in_X8 rfl g ?_
    obtain ⟨_, g0, hD⟩ := bd hD
    obtain ⟨r7, g, hD⟩ := bd hD
    refine ew_callV0 (as := [vr v6]) (a := v5) (rest := []) dX8_doomed_15 v_X0_takeSpans w_1183 rfl (Nat.le_of_ble_eq_true rfl) rfl rfl g0 (Nat.le_of_ble_eq_true rfl) (Nat.le_of_ble_eq_true rfl) (ct_X0_takeSpans g) ?_
    refine ev_iconst dX8_doomed_18 (mi_c rfl) ?_
    refine ev_istore_n dX8_doomed_19 rfl (Nat.le_of_ble_eq_true rfl) rfl ?_
    obtain ⟨r8, g, hD⟩ := bd hD
    refine Ev.pick [2, 3, 1, 0] rfl ?_
    refine lk_X8_doomed_20 mFU g ?_
    refine ev_iload_n dX8_doomed_85 0 rfl rfl ?_
    cases hD
    exact ev_ret (some (vi _)) dX8_doomed_86 True.intro
  · cases hD
    exact ev_thrV (as := [vi x1]) (a := x0) (rest := []) dX8_doomed_2 v_X8_needSample w_968 rfl (Nat.le_of_ble_eq_true rfl) rfl rfl (tgO_s g0) (Nat.le_of_ble_eq_true rfl) (Nat.le_of_ble_eq_true rfl) rfl (ct_X8_needSample g)
theorem ct_X8_doomed {G : mG} {x0 : Nat} {x1 : Int} {σ : mS} {R : ((Int ⊕ Nat) × mS)} (hD : D_X8_doomed x0 x1 σ = some R) : Ct G M_X8_doomed [vr x0, vi x1] σ (mRsI R.1) R.2 := ct_of rfl (by decide +kernel) rfl (Nat.le_of_ble_eq_true rfl) rfl (lk_X8_doomed hD)
def D_X8_needPhase_21 (y0 : Int) (y1 : Nat) (σ : mS) : Option ((Unit ⊕ Nat) × mS) :=
  (tgO σ y1 7).bind fun _ =>
  (D_X8_needThere y1 y0 σ).bind fun r1 =>
  match r1 with
  | (Sum.inl _, s4) =>
    some (Sum.inl (), s4)
  | (Sum.inr e3, s4) => some (Sum.inr e3, s4)
set_option maxRecDepth 100000 in
set_option maxHeartbeats 4000000 in
theorem lk_X8_needPhase_21 {G : mG} {y0 : Int} {y1 : Nat} {σ : mS} {R : ((Unit ⊕ Nat) × mS)} (hD : D_X8_needPhase_21 y0 y1 σ = some R) : Ev G M_X8_needPhase 21 [] [vi y0, vr y1] σ (mRsU R.1) R.2 := by
  unfold D_X8_needPhase_21 at hD
  obtain ⟨_, g0, hD⟩ := bd hD
  obtain ⟨r1, g, hD⟩ := bd hD
  obtain ⟨v2 | e3, s4⟩ := r1
  · refine ew_callV0 (as := [vi y0]) (a := y1) (rest := []) dX8_needPhase_21 v_X8_needThere w_972 rfl (Nat.le_of_ble_eq_true rfl) rfl rfl g0 (Nat.le_of_ble_eq_true rfl) (Nat.le_of_ble_eq_true rfl) (ct_X8_needThere g) ?_
    dsimp only at hD
    cases hD
    exact ev_ret none dX8_needPhase_24 True.intro
  · cases hD
    exact ev_thrV (as := [vi y0]) (a := y1) (rest := []) dX8_needPhase_21 v_X8_needThere w_972 rfl (Nat.le_of_ble_eq_true rfl) rfl rfl (tgO_s g0) (Nat.le_of_ble_eq_true rfl) (Nat.le_of_ble_eq_true rfl) rfl (ct_X8_needThere g)
def D_X8_needPhase_20 (y0 : Nat) (σ : mS) : Option ((Unit ⊕ Nat) × mS) :=
  D_X8_needPhase_21 0 y0 σ
set_option maxRecDepth 100000 in
set_option maxHeartbeats 4000000 in
theorem lk_X8_needPhase_20 {G : mG} {y0 : Nat} {σ : mS} {R : ((Unit ⊕ Nat) × mS)} (hD : D_X8_needPhase_20 y0 σ = some R) : Ev G M_X8_needPhase 20 [] [vr y0] σ (mRsU R.1) R.2 := by
  unfold D_X8_needPhase_20 at hD
  refine ev_iconst dX8_needPhase_20 (mi_c rfl) ?_
  exact lk_X8_needPhase_21 hD
def D_X8_needPhase (x0 : Nat) (x1 : Int) (σ : mS) : Option ((Unit ⊕ Nat) × mS) :=
  if x1 < 0 then
    D_X8_needPhase_20 x0 σ
  else
    (gR σ x0 7 1).bind fun v1 =>
    (gI σ v1 5 4).bind fun v2 =>
    if v2 ≤ x1 then
      D_X8_needPhase_20 x0 σ
    else
      D_X8_needPhase_21 1 x0 σ
set_option maxRecDepth 100000 in
set_option maxHeartbeats 4000000 in
theorem lk_X8_needPhase {G : mG} {x0 : Nat} {x1 : Int} {σ : mS} {R : ((Unit ⊕ Nat) × mS)} (hD : D_X8_needPhase x0 x1 σ = some R) : Ev G M_X8_needPhase 0 [(0, vr x0), (1, vi x1)] [] σ (mRsU R.1) R.2 := by
  unfold D_X8_needPhase at hD
  refine ev_aload_n dX8_needPhase_0 0 rfl rfl ?_
  refine ev_iload_n dX8_needPhase_1 1 rfl rfl ?_
  by_cases c : x1 < 0
  · rw [if_pos c] at hD
    refine ev_if_lt_t (tgt := 20) dX8_needPhase_2 (by decide) c ?_
    refine Ev.pick [] rfl ?_
    exact lk_X8_needPhase_20 hD
  · rw [if_neg c] at hD
    refine ev_if_lt_f 20 dX8_needPhase_2 (by decide) c ?_
    refine ev_iload_n dX8_needPhase_5 1 rfl rfl ?_
    refine ev_aload_n dX8_needPhase_6 0 rfl rfl ?_
    obtain ⟨v1, g, hD⟩ := bd hD
    refine ew_getR 7 1 dX8_needPhase_7 rfl (Nat.le_of_ble_eq_true rfl) w_591 in_X8 rfl g ?_
    obtain ⟨v2, g, hD⟩ := bd hD
    refine ew_getI 5 4 dX8_needPhase_10 rfl (Nat.le_of_ble_eq_true rfl) w_282 in_X5 rfl g ?_
    by_cases c : v2 ≤ x1
    · rw [if_pos c] at hD
      refine ev_icmp_ge_t (tgt := 20) dX8_needPhase_13 (by decide) c ?_
      refine Ev.pick [] rfl ?_
      exact lk_X8_needPhase_20 hD
    · rw [if_neg c] at hD
      refine ev_icmp_ge_f 20 dX8_needPhase_13 (by decide) c ?_
      refine ev_iconst dX8_needPhase_16 (mi_c rfl) ?_
      refine ev_goto (tgt := 21) dX8_needPhase_17 (by decide) ?_
      refine Ev.pick [] rfl ?_
      exact lk_X8_needPhase_21 hD
theorem ct_X8_needPhase {G : mG} {x0 : Nat} {x1 : Int} {σ : mS} {R : ((Unit ⊕ Nat) × mS)} (hD : D_X8_needPhase x0 x1 σ = some R) : Ct G M_X8_needPhase [vr x0, vi x1] σ (mRsU R.1) R.2 := ct_of rfl (by decide +kernel) rfl (Nat.le_of_ble_eq_true rfl) rfl (lk_X8_needPhase hD)
def D_X8_phase_59 (y0 : Int) (σ : mS) : Option ((Int ⊕ Nat) × mS) :=
  some (Sum.inl y0, σ)
set_option maxRecDepth 100000 in
set_option maxHeartbeats 4000000 in
theorem lk_X8_phase_59 {G : mG} {y0 : Int} {σ : mS} {R : ((Int ⊕ Nat) × mS)} (hD : D_X8_phase_59 y0 σ = some R) : Ev G M_X8_phase 59 [] [vi y0] σ (mRsI R.1) R.2 := by
  unfold D_X8_phase_59 at hD
  cases hD
  exact ev_ret (some (vi _)) dX8_phase_59 True.intro
def D_X8_phase_20 (x0 : Nat) (x1 : Int) (x2 : Int) (y0 : Int) (y1 : Nat) (σ : mS) : Option ((Int ⊕ Nat) × mS) :=
  (tgO σ y1 7).bind fun _ =>
  (D_X8_needArgument y1 y0 σ).bind fun r1 =>
  match r1 with
  | (Sum.inl _, s4) =>
    if x2 ≠ 0 then
      (gR s4 x0 7 9).bind fun v5 =>
      (gR s4 x0 7 1).bind fun v6 =>
      (gR s4 v6 5 9).bind fun v7 =>
      (lR s4 v7 x1).bind fun v8 =>
      (tgO s4 v5 0).bind fun _ =>
      (D_X0_ofPhase v5 v8 x2 s4).bind fun r9 =>
      D_X8_phase_59 r9 s4
    else
      (gR s4 x0 7 1).bind fun v10 =>
      (gR s4 v10 5 9).bind fun v11 =>
      (lR s4 v11 x1).bind fun v12 =>
      (gI s4 v12 1 0).bind fun v13 =>
      D_X8_phase_59 v13 s4
  | (Sum.inr e3, s4) => some (Sum.inr e3, s4)
set_option maxRecDepth 100000 in
set_option maxHeartbeats 4000000 in
theorem lk_X8_phase_20 {G : mG} {x0 : Nat} {x1 : Int} {x2 : Int} {y0 : Int} {y1 : Nat} {σ : mS} {R : ((Int ⊕ Nat) × mS)} (hD : D_X8_phase_20 x0 x1 x2 y0 y1 σ = some R) : Ev G M_X8_phase 20 [(0, vr x0), (1, vi x1), (2, vi x2)] [vi y0, vr y1] σ (mRsI R.1) R.2 := by
  unfold D_X8_phase_20 at hD
  obtain ⟨_, g0, hD⟩ := bd hD
  obtain ⟨r1, g, hD⟩ := bd hD
  obtain ⟨v2 | e3, s4⟩ := r1
  · refine ew_callV0 (as := [vi y0]) (a := y1) (rest := []) dX8_phase_20 v_X8_needArgument w_714 rfl (Nat.le_of_ble_eq_true rfl) rfl rfl g0 (Nat.le_of_ble_eq_true rfl) (Nat.le_of_ble_eq_true rfl) (ct_X8_needArgument g) ?_
    dsimp only at hD
    refine ev_iload_n dX8_phase_23 2 rfl rfl ?_
    by_cases c : x2 ≠ 0
    · rw [if_pos c] at hD
      refine ev_if_ne_t (tgt := 42) dX8_phase_24 (by decide) c ?_
      refine ev_aload_n dX8_phase_42 0 rfl rfl ?_
      obtain ⟨v5, g, hD⟩ := bd hD
      refine ew_getR 7 9 dX8_phase_43 rfl (Nat.le_of_ble_eq_true rfl) w_599 in_X8 rfl g ?_
      refine ev_aload_n dX8_phase_46 0 rfl rfl ?_
      obtain ⟨v6, g, hD⟩ := bd hD
      refine ew_getR 7 1 dX8_phase_47 rfl (Nat.le_of_ble_eq_true rfl) w_591 in_X8 rfl g ?_
      obtain ⟨v7, g, hD⟩ := bd hD
      refine ew_getR 5 9 dX8_phase_50 rfl (Nat.le_of_ble_eq_true rfl) w_302 in_X5 rfl g ?_
      refine ev_iload_n dX8_phase_53 1 rfl rfl ?_
      obtain ⟨v8, g, hD⟩ := bd hD
      refine ew_aald dX8_phase_54 g ?_
      refine ev_iload_n dX8_phase_55 2 rfl rfl ?_
      obtain ⟨_, g0, hD⟩ := bd hD
      obtain ⟨r9, g, hD⟩ := bd hD
      refine ew_callVv (as := [vr v8, vi x2]) (a := v5) (rest := []) dX8_phase_56 v_X0_ofPhase w_1198 rfl (Nat.le_of_ble_eq_true rfl) rfl rfl g0 (Nat.le_of_ble_eq_true rfl) (Nat.le_of_ble_eq_true rfl) (ct_X0_ofPhase g) ?_
      refine Ev.pick [] rfl ?_
      exact lk_X8_phase_59 hD
    · rw [if_neg c] at hD
      refine ev_if_ne_f 42 dX8_phase_24 (by decide) c ?_
      refine ev_aload_n dX8_phase_27 0 rfl rfl ?_
      obtain ⟨v10, g, hD⟩ := bd hD
      refine ew_getR 7 1 dX8_phase_28 rfl (Nat.le_of_ble_eq_true rfl) w_591 in_X8 rfl g ?_
      obtain ⟨v11, g, hD⟩ := bd hD
      refine ew_getR 5 9 dX8_phase_31 rfl (Nat.le_of_ble_eq_true rfl) w_302 in_X5 rfl g ?_
      refine ev_iload_n dX8_phase_34 1 rfl rfl ?_
      obtain ⟨v12, g, hD⟩ := bd hD
      refine ew_aald dX8_phase_35 g ?_
      obtain ⟨v13, g, hD⟩ := bd hD
      refine ew_getI 1 0 dX8_phase_36 rfl (Nat.le_of_ble_eq_true rfl) w_213 in_X1 rfl g ?_
      refine ev_goto (tgt := 59) dX8_phase_39 (by decide) ?_
      refine Ev.pick [] rfl ?_
      exact lk_X8_phase_59 hD
  · cases hD
    exact ev_thrV (as := [vi y0]) (a := y1) (rest := []) dX8_phase_20 v_X8_needArgument w_714 rfl (Nat.le_of_ble_eq_true rfl) rfl rfl (tgO_s g0) (Nat.le_of_ble_eq_true rfl) (Nat.le_of_ble_eq_true rfl) rfl (ct_X8_needArgument g)
def D_X8_phase_19 (x0 : Nat) (x1 : Int) (x2 : Int) (y0 : Nat) (σ : mS) : Option ((Int ⊕ Nat) × mS) :=
  D_X8_phase_20 x0 x1 x2 0 y0 σ
set_option maxRecDepth 100000 in
set_option maxHeartbeats 4000000 in
theorem lk_X8_phase_19 {G : mG} {x0 : Nat} {x1 : Int} {x2 : Int} {y0 : Nat} {σ : mS} {R : ((Int ⊕ Nat) × mS)} (hD : D_X8_phase_19 x0 x1 x2 y0 σ = some R) : Ev G M_X8_phase 19 [(0, vr x0), (1, vi x1), (2, vi x2)] [vr y0] σ (mRsI R.1) R.2 := by
  unfold D_X8_phase_19 at hD
  refine ev_iconst dX8_phase_19 (mi_c rfl) ?_
  exact lk_X8_phase_20 hD
def D_X8_phase (x0 : Nat) (x1 : Int) (x2 : Int) (σ : mS) : Option ((Int ⊕ Nat) × mS) :=
  (tgO σ x0 7).bind fun _ =>
  (D_X8_needPhase x0 x1 σ).bind fun r1 =>
  match r1 with
  | (Sum.inl _, s4) =>
    if x2 < 0 then
      D_X8_phase_19 x0 x1 x2 x0 s4
    else
      if 4 < x2 then
        D_X8_phase_19 x0 x1 x2 x0 s4
      else
        D_X8_phase_20 x0 x1 x2 1 x0 s4
  | (Sum.inr e3, s4) => some (Sum.inr e3, s4)
set_option maxRecDepth 100000 in
set_option maxHeartbeats 4000000 in
theorem lk_X8_phase {G : mG} {x0 : Nat} {x1 : Int} {x2 : Int} {σ : mS} {R : ((Int ⊕ Nat) × mS)} (hD : D_X8_phase x0 x1 x2 σ = some R) : Ev G M_X8_phase 0 [(0, vr x0), (1, vi x1), (2, vi x2)] [] σ (mRsI R.1) R.2 := by
  unfold D_X8_phase at hD
  refine ev_aload_n dX8_phase_0 0 rfl rfl ?_
  refine ev_iload_n dX8_phase_1 1 rfl rfl ?_
  obtain ⟨_, g0, hD⟩ := bd hD
  obtain ⟨r1, g, hD⟩ := bd hD
  obtain ⟨v2 | e3, s4⟩ := r1
  · refine ew_callV0 (as := [vi x1]) (a := x0) (rest := []) dX8_phase_2 v_X8_needPhase w_1194 rfl (Nat.le_of_ble_eq_true rfl) rfl rfl g0 (Nat.le_of_ble_eq_true rfl) (Nat.le_of_ble_eq_true rfl) (ct_X8_needPhase g) ?_
    dsimp only at hD
    refine ev_aload_n dX8_phase_5 0 rfl rfl ?_
    refine ev_iload_n dX8_phase_6 2 rfl rfl ?_
    by_cases c : x2 < 0
    · rw [if_pos c] at hD
      refine ev_if_lt_t (tgt := 19) dX8_phase_7 (by decide) c ?_
      exact lk_X8_phase_19 hD
    · rw [if_neg c] at hD
      refine ev_if_lt_f 19 dX8_phase_7 (by decide) c ?_
      refine ev_iload_n dX8_phase_10 2 rfl rfl ?_
      refine ev_iconst dX8_phase_11 (mi_c rfl) ?_
      by_cases c : 4 < x2
      · rw [if_pos c] at hD
        refine ev_icmp_gt_t (tgt := 19) dX8_phase_12 (by decide) c ?_
        exact lk_X8_phase_19 hD
      · rw [if_neg c] at hD
        refine ev_icmp_gt_f 19 dX8_phase_12 (by decide) c ?_
        refine ev_iconst dX8_phase_15 (mi_c rfl) ?_
        refine ev_goto (tgt := 20) dX8_phase_16 (by decide) ?_
        exact lk_X8_phase_20 hD
  · cases hD
    exact ev_thrV (as := [vi x1]) (a := x0) (rest := []) dX8_phase_2 v_X8_needPhase w_1194 rfl (Nat.le_of_ble_eq_true rfl) rfl rfl (tgO_s g0) (Nat.le_of_ble_eq_true rfl) (Nat.le_of_ble_eq_true rfl) rfl (ct_X8_needPhase g)
theorem ct_X8_phase {G : mG} {x0 : Nat} {x1 : Int} {x2 : Int} {σ : mS} {R : ((Int ⊕ Nat) × mS)} (hD : D_X8_phase x0 x1 x2 σ = some R) : Ct G M_X8_phase [vr x0, vi x1, vi x2] σ (mRsI R.1) R.2 := ct_of rfl (by decide +kernel) rfl (Nat.le_of_ble_eq_true rfl) rfl (lk_X8_phase hD)
def D_X8_member_43 (y0 : Int) (σ : mS) : Option ((Int ⊕ Nat) × mS) :=
  some (Sum.inl y0, σ)
set_option maxRecDepth 100000 in
set_option maxHeartbeats 4000000 in
theorem lk_X8_member_43 {G : mG} {y0 : Int} {σ : mS} {R : ((Int ⊕ Nat) × mS)} (hD : D_X8_member_43 y0 σ = some R) : Ev G M_X8_member 43 [] [vi y0] σ (mRsI R.1) R.2 := by
  unfold D_X8_member_43 at hD
  cases hD
  exact ev_ret (some (vi _)) dX8_member_43 True.intro
def D_X8_member_42 (σ : mS) : Option ((Int ⊕ Nat) × mS) :=
  D_X8_member_43 ((-1)) σ
set_option maxRecDepth 100000 in
set_option maxHeartbeats 4000000 in
theorem lk_X8_member_42 {G : mG} {σ : mS} {R : ((Int ⊕ Nat) × mS)} (hD : D_X8_member_42  σ = some R) : Ev G M_X8_member 42 [] [] σ (mRsI R.1) R.2 := by
  unfold D_X8_member_42 at hD
  refine ev_iconst dX8_member_42 (mi_c rfl) ?_
  exact lk_X8_member_43 hD
def D_X8_member (x0 : Nat) (x1 : Int) (x2 : Int) (σ : mS) : Option ((Int ⊕ Nat) × mS) :=
  (tgO σ x0 7).bind fun _ =>
  (D_X8_needPhase x0 x1 σ).bind fun r1 =>
  match r1 with
  | (Sum.inl _, s4) =>
    if x2 < 0 then
      D_X8_member_42  s4
    else
      (gR s4 x0 7 1).bind fun v5 =>
      (gR s4 v5 5 9).bind fun v6 =>
      (lR s4 v6 x1).bind fun v7 =>
      (gI s4 v7 1 0).bind fun v8 =>
      if v8 ≤ x2 then
        D_X8_member_42  s4
      else
        (gR s4 x0 7 1).bind fun v9 =>
        (gR s4 v9 5 9).bind fun v10 =>
        (lR s4 v10 x1).bind fun v11 =>
        (gR s4 v11 1 1).bind fun v12 =>
        (lI s4 v12 x2).bind fun v13 =>
        D_X8_member_43 v13 s4
  | (Sum.inr e3, s4) => some (Sum.inr e3, s4)
set_option maxRecDepth 100000 in
set_option maxHeartbeats 4000000 in
theorem lk_X8_member {G : mG} {x0 : Nat} {x1 : Int} {x2 : Int} {σ : mS} {R : ((Int ⊕ Nat) × mS)} (hD : D_X8_member x0 x1 x2 σ = some R) : Ev G M_X8_member 0 [(0, vr x0), (1, vi x1), (2, vi x2)] [] σ (mRsI R.1) R.2 := by
  unfold D_X8_member at hD
  refine ev_aload_n dX8_member_0 0 rfl rfl ?_
  refine ev_iload_n dX8_member_1 1 rfl rfl ?_
  obtain ⟨_, g0, hD⟩ := bd hD
  obtain ⟨r1, g, hD⟩ := bd hD
  obtain ⟨v2 | e3, s4⟩ := r1
  · refine ew_callV0 (as := [vi x1]) (a := x0) (rest := []) dX8_member_2 v_X8_needPhase w_1194 rfl (Nat.le_of_ble_eq_true rfl) rfl rfl g0 (Nat.le_of_ble_eq_true rfl) (Nat.le_of_ble_eq_true rfl) (ct_X8_needPhase g) ?_
    dsimp only at hD
    refine ev_iload_n dX8_member_5 2 rfl rfl ?_
    by_cases c : x2 < 0
    · rw [if_pos c] at hD
      refine ev_if_lt_t (tgt := 42) dX8_member_6 (by decide) c ?_
      refine Ev.pick [] rfl ?_
      exact lk_X8_member_42 hD
    · rw [if_neg c] at hD
      refine ev_if_lt_f 42 dX8_member_6 (by decide) c ?_
      refine ev_iload_n dX8_member_9 2 rfl rfl ?_
      refine ev_aload_n dX8_member_10 0 rfl rfl ?_
      obtain ⟨v5, g, hD⟩ := bd hD
      refine ew_getR 7 1 dX8_member_11 rfl (Nat.le_of_ble_eq_true rfl) w_591 in_X8 rfl g ?_
      obtain ⟨v6, g, hD⟩ := bd hD
      refine ew_getR 5 9 dX8_member_14 rfl (Nat.le_of_ble_eq_true rfl) w_302 in_X5 rfl g ?_
      refine ev_iload_n dX8_member_17 1 rfl rfl ?_
      obtain ⟨v7, g, hD⟩ := bd hD
      refine ew_aald dX8_member_18 g ?_
      obtain ⟨v8, g, hD⟩ := bd hD
      refine ew_getI 1 0 dX8_member_19 rfl (Nat.le_of_ble_eq_true rfl) w_213 in_X1 rfl g ?_
      by_cases c : v8 ≤ x2
      · rw [if_pos c] at hD
        refine ev_icmp_ge_t (tgt := 42) dX8_member_22 (by decide) c ?_
        refine Ev.pick [] rfl ?_
        exact lk_X8_member_42 hD
      · rw [if_neg c] at hD
        refine ev_icmp_ge_f 42 dX8_member_22 (by decide) c ?_
        refine ev_aload_n dX8_member_25 0 rfl rfl ?_
        obtain ⟨v9, g, hD⟩ := bd hD
        refine ew_getR 7 1 dX8_member_26 rfl (Nat.le_of_ble_eq_true rfl) w_591 in_X8 rfl g ?_
        obtain ⟨v10, g, hD⟩ := bd hD
        refine ew_getR 5 9 dX8_member_29 rfl (Nat.le_of_ble_eq_true rfl) w_302 in_X5 rfl g ?_
        refine ev_iload_n dX8_member_32 1 rfl rfl ?_
        obtain ⟨v11, g, hD⟩ := bd hD
        refine ew_aald dX8_member_33 g ?_
        obtain ⟨v12, g, hD⟩ := bd hD
        refine ew_getR 1 1 dX8_member_34 rfl (Nat.le_of_ble_eq_true rfl) w_218 in_X1 rfl g ?_
        refine ev_iload_n dX8_member_37 2 rfl rfl ?_
        obtain ⟨v13, g, hD⟩ := bd hD
        refine ew_iald dX8_member_38 g ?_
        refine ev_goto (tgt := 43) dX8_member_39 (by decide) ?_
        refine Ev.pick [] rfl ?_
        exact lk_X8_member_43 hD
  · cases hD
    exact ev_thrV (as := [vi x1]) (a := x0) (rest := []) dX8_member_2 v_X8_needPhase w_1194 rfl (Nat.le_of_ble_eq_true rfl) rfl rfl (tgO_s g0) (Nat.le_of_ble_eq_true rfl) (Nat.le_of_ble_eq_true rfl) rfl (ct_X8_needPhase g)
theorem ct_X8_member {G : mG} {x0 : Nat} {x1 : Int} {x2 : Int} {σ : mS} {R : ((Int ⊕ Nat) × mS)} (hD : D_X8_member x0 x1 x2 σ = some R) : Ct G M_X8_member [vr x0, vi x1, vi x2] σ (mRsI R.1) R.2 := ct_of rfl (by decide +kernel) rfl (Nat.le_of_ble_eq_true rfl) rfl (lk_X8_member hD)
def D_X8_trial_46 (y0 : Int) (σ : mS) : Option ((Int ⊕ Nat) × mS) :=
  some (Sum.inl y0, σ)
set_option maxRecDepth 100000 in
set_option maxHeartbeats 4000000 in
theorem lk_X8_trial_46 {G : mG} {y0 : Int} {σ : mS} {R : ((Int ⊕ Nat) × mS)} (hD : D_X8_trial_46 y0 σ = some R) : Ev G M_X8_trial 46 [] [vi y0] σ (mRsI R.1) R.2 := by
  unfold D_X8_trial_46 at hD
  cases hD
  exact ev_ret (some (vi _)) dX8_trial_46 True.intro
def D_X8_trial_15 (x0 : Nat) (x1 : Int) (y0 : Int) (y1 : Nat) (σ : mS) : Option ((Int ⊕ Nat) × mS) :=
  (tgO σ y1 7).bind fun _ =>
  (D_X8_needArgument y1 y0 σ).bind fun r1 =>
  match r1 with
  | (Sum.inl _, s4) =>
    (gR s4 x0 7 11).bind fun v5 =>
    (tgO s4 v5 6).bind fun _ =>
    (D_X6_seek v5 s4).bind fun r6 =>
    if x1 ≠ 0 then
      (gR r6 x0 7 11).bind fun v7 =>
      (gI r6 v7 6 3).bind fun v8 =>
      D_X8_trial_46 v8 r6
    else
      (gR r6 x0 7 11).bind fun v9 =>
      (gI r6 v9 6 2).bind fun v10 =>
      D_X8_trial_46 v10 r6
  | (Sum.inr e3, s4) => some (Sum.inr e3, s4)
set_option maxRecDepth 100000 in
set_option maxHeartbeats 4000000 in
theorem lk_X8_trial_15 {G : mG} {x0 : Nat} {x1 : Int} {y0 : Int} {y1 : Nat} {σ : mS} {R : ((Int ⊕ Nat) × mS)} (hD : D_X8_trial_15 x0 x1 y0 y1 σ = some R) : Ev G M_X8_trial 15 [(0, vr x0), (1, vi x1)] [vi y0, vr y1] σ (mRsI R.1) R.2 := by
  unfold D_X8_trial_15 at hD
  obtain ⟨_, g0, hD⟩ := bd hD
  obtain ⟨r1, g, hD⟩ := bd hD
  obtain ⟨v2 | e3, s4⟩ := r1
  · refine ew_callV0 (as := [vi y0]) (a := y1) (rest := []) dX8_trial_15 v_X8_needArgument w_714 rfl (Nat.le_of_ble_eq_true rfl) rfl rfl g0 (Nat.le_of_ble_eq_true rfl) (Nat.le_of_ble_eq_true rfl) (ct_X8_needArgument g) ?_
    dsimp only at hD
    refine ev_aload_n dX8_trial_18 0 rfl rfl ?_
    obtain ⟨v5, g, hD⟩ := bd hD
    refine ew_getR 7 11 dX8_trial_19 rfl (Nat.le_of_ble_eq_true rfl) w_601 in_X8 rfl g ?_
    obtain ⟨_, g0, hD⟩ := bd hD
    obtain ⟨r6, g, hD⟩ := bd hD
    refine ew_callV0 (as := []) (a := v5) (rest := []) dX8_trial_22 v_X6_seek w_1218 rfl (Nat.le_of_ble_eq_true rfl) rfl rfl g0 (Nat.le_of_ble_eq_true rfl) (Nat.le_of_ble_eq_true rfl) (ct_X6_seek g) ?_
    refine ev_iload_n dX8_trial_25 1 rfl rfl ?_
    by_cases c : x1 ≠ 0
    · rw [if_pos c] at hD
      refine ev_if_ne_t (tgt := 39) dX8_trial_26 (by decide) c ?_
      refine ev_aload_n dX8_trial_39 0 rfl rfl ?_
      obtain ⟨v7, g, hD⟩ := bd hD
      refine ew_getR 7 11 dX8_trial_40 rfl (Nat.le_of_ble_eq_true rfl) w_601 in_X8 rfl g ?_
      obtain ⟨v8, g, hD⟩ := bd hD
      refine ew_getI 6 3 dX8_trial_43 rfl (Nat.le_of_ble_eq_true rfl) w_459 in_X6 rfl g ?_
      refine Ev.pick [] rfl ?_
      exact lk_X8_trial_46 hD
    · rw [if_neg c] at hD
      refine ev_if_ne_f 39 dX8_trial_26 (by decide) c ?_
      refine ev_aload_n dX8_trial_29 0 rfl rfl ?_
      obtain ⟨v9, g, hD⟩ := bd hD
      refine ew_getR 7 11 dX8_trial_30 rfl (Nat.le_of_ble_eq_true rfl) w_601 in_X8 rfl g ?_
      obtain ⟨v10, g, hD⟩ := bd hD
      refine ew_getI 6 2 dX8_trial_33 rfl (Nat.le_of_ble_eq_true rfl) w_457 in_X6 rfl g ?_
      refine ev_goto (tgt := 46) dX8_trial_36 (by decide) ?_
      refine Ev.pick [] rfl ?_
      exact lk_X8_trial_46 hD
  · cases hD
    exact ev_thrV (as := [vi y0]) (a := y1) (rest := []) dX8_trial_15 v_X8_needArgument w_714 rfl (Nat.le_of_ble_eq_true rfl) rfl rfl (tgO_s g0) (Nat.le_of_ble_eq_true rfl) (Nat.le_of_ble_eq_true rfl) rfl (ct_X8_needArgument g)
def D_X8_trial_10 (x0 : Nat) (x1 : Int) (y0 : Nat) (σ : mS) : Option ((Int ⊕ Nat) × mS) :=
  D_X8_trial_15 x0 x1 1 y0 σ
set_option maxRecDepth 100000 in
set_option maxHeartbeats 4000000 in
theorem lk_X8_trial_10 {G : mG} {x0 : Nat} {x1 : Int} {y0 : Nat} {σ : mS} {R : ((Int ⊕ Nat) × mS)} (hD : D_X8_trial_10 x0 x1 y0 σ = some R) : Ev G M_X8_trial 10 [(0, vr x0), (1, vi x1)] [vr y0] σ (mRsI R.1) R.2 := by
  unfold D_X8_trial_10 at hD
  refine ev_iconst dX8_trial_10 (mi_c rfl) ?_
  refine ev_goto (tgt := 15) dX8_trial_11 (by decide) ?_
  exact lk_X8_trial_15 hD
def D_X8_trial (x0 : Nat) (x1 : Int) (σ : mS) : Option ((Int ⊕ Nat) × mS) :=
  if x1 = 0 then
    D_X8_trial_10 x0 x1 x0 σ
  else
    if x1 ≠ 1 then
      D_X8_trial_15 x0 x1 0 x0 σ
    else
      D_X8_trial_10 x0 x1 x0 σ
set_option maxRecDepth 100000 in
set_option maxHeartbeats 4000000 in
theorem lk_X8_trial {G : mG} {x0 : Nat} {x1 : Int} {σ : mS} {R : ((Int ⊕ Nat) × mS)} (hD : D_X8_trial x0 x1 σ = some R) : Ev G M_X8_trial 0 [(0, vr x0), (1, vi x1)] [] σ (mRsI R.1) R.2 := by
  unfold D_X8_trial at hD
  refine ev_aload_n dX8_trial_0 0 rfl rfl ?_
  refine ev_iload_n dX8_trial_1 1 rfl rfl ?_
  by_cases c : x1 = 0
  · rw [if_pos c] at hD
    refine ev_if_eq_t (tgt := 10) dX8_trial_2 (by decide) c ?_
    exact lk_X8_trial_10 hD
  · rw [if_neg c] at hD
    refine ev_if_eq_f 10 dX8_trial_2 (by decide) c ?_
    refine ev_iload_n dX8_trial_5 1 rfl rfl ?_
    refine ev_iconst dX8_trial_6 (mi_c rfl) ?_
    by_cases c : x1 ≠ 1
    · rw [if_pos c] at hD
      refine ev_icmp_ne_t (tgt := 14) dX8_trial_7 (by decide) c ?_
      refine ev_iconst dX8_trial_14 (mi_c rfl) ?_
      exact lk_X8_trial_15 hD
    · rw [if_neg c] at hD
      refine ev_icmp_ne_f 14 dX8_trial_7 (by decide) c ?_
      exact lk_X8_trial_10 hD
theorem ct_X8_trial {G : mG} {x0 : Nat} {x1 : Int} {σ : mS} {R : ((Int ⊕ Nat) × mS)} (hD : D_X8_trial x0 x1 σ = some R) : Ct G M_X8_trial [vr x0, vi x1] σ (mRsI R.1) R.2 := ct_of rfl (by decide +kernel) rfl (Nat.le_of_ble_eq_true rfl) rfl (lk_X8_trial hD)
def D_X8_tried_36 (y0 : Int) (σ : mS) : Option ((Int ⊕ Nat) × mS) :=
  some (Sum.inl y0, σ)
set_option maxRecDepth 100000 in
set_option maxHeartbeats 4000000 in
theorem lk_X8_tried_36 {G : mG} {y0 : Int} {σ : mS} {R : ((Int ⊕ Nat) × mS)} (hD : D_X8_tried_36 y0 σ = some R) : Ev G M_X8_tried 36 [] [vi y0] σ (mRsI R.1) R.2 := by
  unfold D_X8_tried_36 at hD
  cases hD
  exact ev_ret (some (vi _)) dX8_tried_36 True.intro
def D_X8_tried (x0 : Nat) (x1 : Int) (σ : mS) : Option ((Int ⊕ Nat) × mS) :=
  (tgO σ x0 7).bind fun _ =>
  (D_X8_needSample x0 x1 σ).bind fun r1 =>
  match r1 with
  | (Sum.inl _, s4) =>
    (gR s4 x0 7 11).bind fun v5 =>
    (tgO s4 v5 6).bind fun _ =>
    (D_X6_seek v5 s4).bind fun r6 =>
    (gR r6 x0 7 11).bind fun v7 =>
    (gI r6 v7 6 2).bind fun v8 =>
    if v8 ≠ 1 then
      D_X8_tried_36 ((-1)) r6
    else
      (gR r6 x0 7 11).bind fun v9 =>
      (gR r6 v9 6 0).bind fun v10 =>
      (lI r6 v10 x1).bind fun v11 =>
      D_X8_tried_36 v11 r6
  | (Sum.inr e3, s4) => some (Sum.inr e3, s4)
set_option maxRecDepth 100000 in
set_option maxHeartbeats 4000000 in
theorem lk_X8_tried {G : mG} {x0 : Nat} {x1 : Int} {σ : mS} {R : ((Int ⊕ Nat) × mS)} (hD : D_X8_tried x0 x1 σ = some R) : Ev G M_X8_tried 0 [(0, vr x0), (1, vi x1)] [] σ (mRsI R.1) R.2 := by
  unfold D_X8_tried at hD
  refine ev_aload_n dX8_tried_0 0 rfl rfl ?_
  refine ev_iload_n dX8_tried_1 1 rfl rfl ?_
  obtain ⟨_, g0, hD⟩ := bd hD
  obtain ⟨r1, g, hD⟩ := bd hD
  obtain ⟨v2 | e3, s4⟩ := r1
  · refine ew_callV0 (as := [vi x1]) (a := x0) (rest := []) dX8_tried_2 v_X8_needSample w_968 rfl (Nat.le_of_ble_eq_true rfl) rfl rfl g0 (Nat.le_of_ble_eq_true rfl) (Nat.le_of_ble_eq_true rfl) (ct_X8_needSample g) ?_
    dsimp only at hD
    refine ev_aload_n dX8_tried_5 0 rfl rfl ?_
    obtain ⟨v5, g, hD⟩ := bd hD
    refine ew_getR 7 11 dX8_tried_6 rfl (Nat.le_of_ble_eq_true rfl) w_601 in_X8 rfl g ?_
    obtain ⟨_, g0, hD⟩ := bd hD
    obtain ⟨r6, g, hD⟩ := bd hD
    refine ew_callV0 (as := []) (a := v5) (rest := []) dX8_tried_9 v_X6_seek w_1218 rfl (Nat.le_of_ble_eq_true rfl) rfl rfl g0 (Nat.le_of_ble_eq_true rfl) (Nat.le_of_ble_eq_true rfl) (ct_X6_seek g) ?_
    refine ev_aload_n dX8_tried_12 0 rfl rfl ?_
    obtain ⟨v7, g, hD⟩ := bd hD
    refine ew_getR 7 11 dX8_tried_13 rfl (Nat.le_of_ble_eq_true rfl) w_601 in_X8 rfl g ?_
    obtain ⟨v8, g, hD⟩ := bd hD
    refine ew_getI 6 2 dX8_tried_16 rfl (Nat.le_of_ble_eq_true rfl) w_457 in_X6 rfl g ?_
    refine ev_iconst dX8_tried_19 (mi_c rfl) ?_
    by_cases c : v8 ≠ 1
    · rw [if_pos c] at hD
      refine ev_icmp_ne_t (tgt := 35) dX8_tried_20 (by decide) c ?_
      refine ev_iconst dX8_tried_35 (mi_c rfl) ?_
      refine Ev.pick [] rfl ?_
      exact lk_X8_tried_36 hD
    · rw [if_neg c] at hD
      refine ev_icmp_ne_f 35 dX8_tried_20 (by decide) c ?_
      refine ev_aload_n dX8_tried_23 0 rfl rfl ?_
      obtain ⟨v9, g, hD⟩ := bd hD
      refine ew_getR 7 11 dX8_tried_24 rfl (Nat.le_of_ble_eq_true rfl) w_601 in_X8 rfl g ?_
      obtain ⟨v10, g, hD⟩ := bd hD
      refine ew_getR 6 0 dX8_tried_27 rfl (Nat.le_of_ble_eq_true rfl) w_453 in_X6 rfl g ?_
      refine ev_iload_n dX8_tried_30 1 rfl rfl ?_
      obtain ⟨v11, g, hD⟩ := bd hD
      refine ew_iald dX8_tried_31 g ?_
      refine ev_goto (tgt := 36) dX8_tried_32 (by decide) ?_
      refine Ev.pick [] rfl ?_
      exact lk_X8_tried_36 hD
  · cases hD
    exact ev_thrV (as := [vi x1]) (a := x0) (rest := []) dX8_tried_2 v_X8_needSample w_968 rfl (Nat.le_of_ble_eq_true rfl) rfl rfl (tgO_s g0) (Nat.le_of_ble_eq_true rfl) (Nat.le_of_ble_eq_true rfl) rfl (ct_X8_needSample g)
theorem ct_X8_tried {G : mG} {x0 : Nat} {x1 : Int} {σ : mS} {R : ((Int ⊕ Nat) × mS)} (hD : D_X8_tried x0 x1 σ = some R) : Ct G M_X8_tried [vr x0, vi x1] σ (mRsI R.1) R.2 := ct_of rfl (by decide +kernel) rfl (Nat.le_of_ble_eq_true rfl) rfl (lk_X8_tried hD)
def D_X8_goesBy_33 (y0 : Int) (σ : mS) : Option (Int × mS) :=
  (bO y0).bind fun v1 =>
  some (v1, σ)
set_option maxRecDepth 100000 in
set_option maxHeartbeats 4000000 in
theorem lk_X8_goesBy_33 {G : mG} {y0 : Int} {σ : mS} {R : (Int × mS)} (hD : D_X8_goesBy_33 y0 σ = some R) : Ev G M_X8_goesBy 33 [] [vi y0] σ (.inl (some (vi R.1))) R.2 := by
  unfold D_X8_goesBy_33 at hD
  obtain ⟨v1, gb, hD⟩ := bd hD
  cases hD
  exact ew_retb dX8_goesBy_33 rfl gb
def D_X8_goesBy (x0 : Nat) (x1 : Int) (x2 : Int) (σ : mS) : Option (Int × mS) :=
  (gR σ x0 7 10).bind fun v1 =>
  (tgO σ v1 0).bind fun _ =>
  (D_X0_layFirst v1 x1 x2 σ).bind fun r2 =>
  (gR r2 x0 7 10).bind fun v3 =>
  (tgO r2 v3 0).bind fun _ =>
  (D_X0_run v3 ((-1)) 1 r2).bind fun r4 =>
  (gR r4 x0 7 10).bind fun v5 =>
  (tgO r4 v5 0).bind fun _ =>
  (D_X0_hasClash v5 r4).bind fun r6 =>
  if r6 ≠ 0 then
    D_X8_goesBy_33 0 r4
  else
    D_X8_goesBy_33 1 r4
set_option maxRecDepth 100000 in
set_option maxHeartbeats 4000000 in
theorem lk_X8_goesBy {G : mG} {x0 : Nat} {x1 : Int} {x2 : Int} {σ : mS} {R : (Int × mS)} (hD : D_X8_goesBy x0 x1 x2 σ = some R) : Ev G M_X8_goesBy 0 [(0, vr x0), (1, vi x1), (2, vi x2)] [] σ (.inl (some (vi R.1))) R.2 := by
  unfold D_X8_goesBy at hD
  refine ev_aload_n dX8_goesBy_0 0 rfl rfl ?_
  obtain ⟨v1, g, hD⟩ := bd hD
  refine ew_getR 7 10 dX8_goesBy_1 rfl (Nat.le_of_ble_eq_true rfl) w_600 in_X8 rfl g ?_
  refine ev_iload_n dX8_goesBy_4 1 rfl rfl ?_
  refine ev_iload_n dX8_goesBy_5 2 rfl rfl ?_
  obtain ⟨_, g0, hD⟩ := bd hD
  obtain ⟨r2, g, hD⟩ := bd hD
  refine ew_callV0 (as := [vi x1, vi x2]) (a := v1) (rest := []) dX8_goesBy_6 v_X0_layFirst w_489 rfl (Nat.le_of_ble_eq_true rfl) rfl rfl g0 (Nat.le_of_ble_eq_true rfl) (Nat.le_of_ble_eq_true rfl) (ct_X0_layFirst g) ?_
  refine ev_aload_n dX8_goesBy_9 0 rfl rfl ?_
  obtain ⟨v3, g, hD⟩ := bd hD
  refine ew_getR 7 10 dX8_goesBy_10 rfl (Nat.le_of_ble_eq_true rfl) w_600 in_X8 rfl g ?_
  refine ev_iconst dX8_goesBy_13 (mi_c rfl) ?_
  refine ev_iconst dX8_goesBy_14 (mi_c rfl) ?_
  obtain ⟨_, g0, hD⟩ := bd hD
  obtain ⟨r4, g, hD⟩ := bd hD
  refine ew_callV0 (as := [vi ((-1)), vi 1]) (a := v3) (rest := []) dX8_goesBy_15 v_X0_run w_515 rfl (Nat.le_of_ble_eq_true rfl) rfl rfl g0 (Nat.le_of_ble_eq_true rfl) (Nat.le_of_ble_eq_true rfl) (ct_X0_run g) ?_
  refine ev_aload_n dX8_goesBy_18 0 rfl rfl ?_
  obtain ⟨v5, g, hD⟩ := bd hD
  refine ew_getR 7 10 dX8_goesBy_19 rfl (Nat.le_of_ble_eq_true rfl) w_600 in_X8 rfl g ?_
  obtain ⟨_, g0, hD⟩ := bd hD
  obtain ⟨r6, g, hD⟩ := bd hD
  refine ew_callVv (as := []) (a := v5) (rest := []) dX8_goesBy_22 v_X0_hasClash w_666 rfl (Nat.le_of_ble_eq_true rfl) rfl rfl g0 (Nat.le_of_ble_eq_true rfl) (Nat.le_of_ble_eq_true rfl) (ct_X0_hasClash g) ?_
  by_cases c : r6 ≠ 0
  · rw [if_pos c] at hD
    refine ev_if_ne_t (tgt := 32) dX8_goesBy_25 (by decide) c ?_
    refine ev_iconst dX8_goesBy_32 (mi_c rfl) ?_
    refine Ev.pick [] rfl ?_
    exact lk_X8_goesBy_33 hD
  · rw [if_neg c] at hD
    refine ev_if_ne_f 32 dX8_goesBy_25 (by decide) c ?_
    refine ev_iconst dX8_goesBy_28 (mi_c rfl) ?_
    refine ev_goto (tgt := 33) dX8_goesBy_29 (by decide) ?_
    refine Ev.pick [] rfl ?_
    exact lk_X8_goesBy_33 hD
theorem ct_X8_goesBy {G : mG} {x0 : Nat} {x1 : Int} {x2 : Int} {σ : mS} {R : (Int × mS)} (hD : D_X8_goesBy x0 x1 x2 σ = some R) : Ct G M_X8_goesBy [vr x0, vi x1, vi x2] σ (.inl (some (vi R.1))) R.2 := ct_of rfl (by decide +kernel) rfl (Nat.le_of_ble_eq_true rfl) rfl (lk_X8_goesBy hD)
def D_X8_loosened_2 : Nat → Nat → Int → mS → Option (mS ⊕ (Int × mS))
  | 0, _, _, _ => none
  | f + 1, x0, x1, σ =>
    if 3 < x1 then
      some (Sum.inl σ)
    else
      (gR σ x0 7 1).bind fun v1 =>
      (gI σ v1 5 1).bind fun v2 =>
      (tgO σ x0 7).bind fun _ =>
      (D_X8_goesBy x0 x1 v2 σ).bind fun r3 =>
      if r3.1 = 0 then
        (D_X8_loosened_2 f) x0 (mw (x1 + 1)) r3.2
      else
        some (Sum.inr (x1, r3.2))
set_option maxRecDepth 100000 in
set_option maxHeartbeats 4000000 in
theorem lk_X8_loosened_2 {G : mG} (f : Nat) : ∀ {x0 : Nat} {x1 : Int} {σ : mS} {R : (mS ⊕ (Int × mS))}, D_X8_loosened_2 f x0 x1 σ = some R → ∀ {r : mX} {τ : mS}, (∀ z, R = (Sum.inl z) → Ev G M_X8_loosened 30 [] [] z r τ) ∧ (∀ z, R = (Sum.inr z) → r = .inl (some (vi z.1)) ∧ τ = z.2) → Ev G M_X8_loosened 2 [(0, vr x0), (1, vi x1)] [] σ r τ := by
  induction f with
  | zero =>
    intros
    rename_i hD _ _ _
    cases hD
  | succ f ih =>
    intro x0 x1 σ R hD r τ hk
    have hrec := @ih
    rw [D_X8_loosened_2] at hD
    refine ev_iload_n dX8_loosened_2 1 rfl rfl ?_
    refine ev_iconst dX8_loosened_3 (mi_c rfl) ?_
    by_cases c : 3 < x1
    · rw [if_pos c] at hD
      refine ev_icmp_gt_t (tgt := 30) dX8_loosened_4 (by decide) c ?_
      cases hD
      refine Ev.pick [] rfl ?_
      exact hk.1 _ rfl
    · rw [if_neg c] at hD
      refine ev_icmp_gt_f 30 dX8_loosened_4 (by decide) c ?_
      refine ev_aload_n dX8_loosened_7 0 rfl rfl ?_
      refine ev_iload_n dX8_loosened_8 1 rfl rfl ?_
      refine ev_aload_n dX8_loosened_9 0 rfl rfl ?_
      obtain ⟨v1, g, hD⟩ := bd hD
      refine ew_getR 7 1 dX8_loosened_10 rfl (Nat.le_of_ble_eq_true rfl) w_591 in_X8 rfl g ?_
      obtain ⟨v2, g, hD⟩ := bd hD
      refine ew_getI 5 1 dX8_loosened_13 rfl (Nat.le_of_ble_eq_true rfl) w_269 in_X5 rfl g ?_
      obtain ⟨_, g0, hD⟩ := bd hD
      obtain ⟨r3, g, hD⟩ := bd hD
      refine ew_callVv (as := [vi x1, vi v2]) (a := x0) (rest := []) dX8_loosened_16 v_X8_goesBy w_683 rfl (Nat.le_of_ble_eq_true rfl) rfl rfl g0 (Nat.le_of_ble_eq_true rfl) (Nat.le_of_ble_eq_true rfl) (ct_X8_goesBy g) ?_
      by_cases c : r3.1 = 0
      · rw [if_pos c] at hD
        refine ev_if_eq_t (tgt := 24) dX8_loosened_19 (by decide) c ?_
        refine ev_iinc dX8_loosened_24 1 rfl (Nat.le_of_ble_eq_true rfl) rfl ?_
        refine ev_goto (tgt := 2) dX8_loosened_27 (by decide) ?_
        refine Ev.pick [1, 0] rfl ?_
        exact hrec hD hk
      · rw [if_neg c] at hD
        refine ev_if_eq_f 24 dX8_loosened_19 (by decide) c ?_
        refine ev_iload_n dX8_loosened_22 1 rfl rfl ?_
        cases hD
        obtain ⟨rfl, rfl⟩ := hk.2 _ rfl
        exact ev_ret (some (vi _)) dX8_loosened_23 True.intro
def D_X8_loosened (x0 : Nat) (σ : mS) : Option (Int × mS) :=
  (D_X8_loosened_2 mFU x0 1 σ).bind fun r1 =>
  match r1 with
  | (Sum.inl z2) =>
    some (((-1)), z2)
  | (Sum.inr z3) =>
    some (z3.1, z3.2)
set_option maxRecDepth 100000 in
set_option maxHeartbeats 4000000 in
theorem lk_X8_loosened {G : mG} {x0 : Nat} {σ : mS} {R : (Int × mS)} (hD : D_X8_loosened x0 σ = some R) : Ev G M_X8_loosened 0 [(0, vr x0)] [] σ (.inl (some (vi R.1))) R.2 := by
  unfold D_X8_loosened at hD
  refine ev_iconst dX8_loosened_0 (mi_c rfl) ?_
  refine ev_istore_n dX8_loosened_1 rfl (Nat.le_of_ble_eq_true rfl) rfl ?_
  obtain ⟨r1, g, hD⟩ := bd hD
  refine Ev.pick [1, 0] rfl ?_
  rcases r1 with z2 | z3
  · refine lk_X8_loosened_2 mFU g ⟨(fun _ hz => ?_), (fun _ hz => nomatch hz)⟩
    cases hz
    refine ev_iconst dX8_loosened_30 (mi_c rfl) ?_
    cases hD
    exact ev_ret (some (vi _)) dX8_loosened_31 True.intro
  · refine lk_X8_loosened_2 mFU g ⟨(fun _ hz => nomatch hz), (fun _ hz => ?_)⟩
    cases hz
    cases hD
    exact ⟨rfl, rfl⟩
theorem ct_X8_loosened {G : mG} {x0 : Nat} {σ : mS} {R : (Int × mS)} (hD : D_X8_loosened x0 σ = some R) : Ct G M_X8_loosened [vr x0] σ (.inl (some (vi R.1))) R.2 := ct_of rfl (by decide +kernel) rfl (Nat.le_of_ble_eq_true rfl) rfl (lk_X8_loosened hD)
def D_X8_shifted_79 (rec : Nat → Int → mS → Option (mS ⊕ (Int × mS))) (x0 : Nat) (x1 : Int) (σ : mS) : Option (mS ⊕ (Int × mS)) :=
  rec x0 (mw (x1 + 1)) σ
set_option maxRecDepth 100000 in
set_option maxHeartbeats 4000000 in
theorem lk_X8_shifted_79 {G : mG} {rec : Nat → Int → mS → Option (mS ⊕ (Int × mS))} {x0 : Nat} {x1 : Int} {σ : mS} {R : (mS ⊕ (Int × mS))} {r : mX} {τ : mS} (hD : D_X8_shifted_79 rec x0 x1 σ = some R) (hrec : ∀ {x0 : Nat} {x1 : Int} {σ : mS} {R : (mS ⊕ (Int × mS))}, rec x0 x1 σ = some R → ∀ {r : mX} {τ : mS}, (∀ z, R = (Sum.inl z) → Ev G M_X8_shifted 85 [] [] z r τ) ∧ (∀ z, R = (Sum.inr z) → r = .inl (some (vi z.1)) ∧ τ = z.2) → Ev G M_X8_shifted 32 [(0, vr x0), (1, vi x1)] [] σ r τ) (hk : (∀ z, R = (Sum.inl z) → Ev G M_X8_shifted 85 [] [] z r τ) ∧ (∀ z, R = (Sum.inr z) → r = .inl (some (vi z.1)) ∧ τ = z.2)) : Ev G M_X8_shifted 79 [(0, vr x0), (1, vi x1)] [] σ r τ := by
  unfold D_X8_shifted_79 at hD
  refine ev_iinc dX8_shifted_79 1 rfl (Nat.le_of_ble_eq_true rfl) rfl ?_
  refine ev_goto (tgt := 32) dX8_shifted_82 (by decide) ?_
  refine Ev.pick [1, 0] rfl ?_
  exact hrec hD hk
def D_X8_shifted_32 : Nat → Nat → Int → mS → Option (mS ⊕ (Int × mS))
  | 0, _, _, _ => none
  | f + 1, x0, x1, σ =>
    if 500 < x1 then
      some (Sum.inl σ)
    else
      (gR σ x0 7 1).bind fun v1 =>
      (gI σ v1 5 0).bind fun v2 =>
      (tgO σ x0 7).bind fun _ =>
      (D_X8_goesBy x0 v2 (mw (-x1)) σ).bind fun r3 =>
      if r3.1 = 0 then
        if x1 ≤ 0 then
          D_X8_shifted_79 (D_X8_shifted_32 f) x0 x1 r3.2
        else
          (gR r3.2 x0 7 1).bind fun v4 =>
          (gI r3.2 v4 5 0).bind fun v5 =>
          (tgO r3.2 x0 7).bind fun _ =>
          (D_X8_goesBy x0 v5 x1 r3.2).bind fun r6 =>
          if r6.1 = 0 then
            D_X8_shifted_79 (D_X8_shifted_32 f) x0 x1 r6.2
          else
            some (Sum.inr (x1, r6.2))
      else
        some (Sum.inr ((mw (-x1)), r3.2))
set_option maxRecDepth 100000 in
set_option maxHeartbeats 4000000 in
theorem lk_X8_shifted_32 {G : mG} (f : Nat) : ∀ {x0 : Nat} {x1 : Int} {σ : mS} {R : (mS ⊕ (Int × mS))}, D_X8_shifted_32 f x0 x1 σ = some R → ∀ {r : mX} {τ : mS}, (∀ z, R = (Sum.inl z) → Ev G M_X8_shifted 85 [] [] z r τ) ∧ (∀ z, R = (Sum.inr z) → r = .inl (some (vi z.1)) ∧ τ = z.2) → Ev G M_X8_shifted 32 [(0, vr x0), (1, vi x1)] [] σ r τ := by
  induction f with
  | zero =>
    intros
    rename_i hD _ _ _
    cases hD
  | succ f ih =>
    intro x0 x1 σ R hD r τ hk
    have hrec := @ih
    rw [D_X8_shifted_32] at hD
    refine ev_iload_n dX8_shifted_32 1 rfl rfl ?_
    refine ev_sp dX8_shifted_33 rfl ?_
    by_cases c : 500 < x1
    · rw [if_pos c] at hD
      refine ev_icmp_gt_t (tgt := 85) dX8_shifted_36 (by decide) c ?_
      cases hD
      refine Ev.pick [] rfl ?_
      exact hk.1 _ rfl
    · rw [if_neg c] at hD
      refine ev_icmp_gt_f 85 dX8_shifted_36 (by decide) c ?_
      refine ev_aload_n dX8_shifted_39 0 rfl rfl ?_
      refine ev_aload_n dX8_shifted_40 0 rfl rfl ?_
      obtain ⟨v1, g, hD⟩ := bd hD
      refine ew_getR 7 1 dX8_shifted_41 rfl (Nat.le_of_ble_eq_true rfl) w_591 in_X8 rfl g ?_
      obtain ⟨v2, g, hD⟩ := bd hD
      refine ew_getI 5 0 dX8_shifted_44 rfl (Nat.le_of_ble_eq_true rfl) w_266 in_X5 rfl g ?_
      refine ev_iload_n dX8_shifted_47 1 rfl rfl ?_
      refine ev_ineg dX8_shifted_48 ?_
      obtain ⟨_, g0, hD⟩ := bd hD
      obtain ⟨r3, g, hD⟩ := bd hD
      refine ew_callVv (as := [vi v2, vi (mw (-x1))]) (a := x0) (rest := []) dX8_shifted_49 v_X8_goesBy w_683 rfl (Nat.le_of_ble_eq_true rfl) rfl rfl g0 (Nat.le_of_ble_eq_true rfl) (Nat.le_of_ble_eq_true rfl) (ct_X8_goesBy g) ?_
      by_cases c : r3.1 = 0
      · rw [if_pos c] at hD
        refine ev_if_eq_t (tgt := 58) dX8_shifted_52 (by decide) c ?_
        refine ev_iload_n dX8_shifted_58 1 rfl rfl ?_
        by_cases c : x1 ≤ 0
        · rw [if_pos c] at hD
          refine ev_if_le_t (tgt := 79) dX8_shifted_59 (by decide) c ?_
          exact lk_X8_shifted_79 hD hrec hk
        · rw [if_neg c] at hD
          refine ev_if_le_f 79 dX8_shifted_59 (by decide) c ?_
          refine ev_aload_n dX8_shifted_62 0 rfl rfl ?_
          refine ev_aload_n dX8_shifted_63 0 rfl rfl ?_
          obtain ⟨v4, g, hD⟩ := bd hD
          refine ew_getR 7 1 dX8_shifted_64 rfl (Nat.le_of_ble_eq_true rfl) w_591 in_X8 rfl g ?_
          obtain ⟨v5, g, hD⟩ := bd hD
          refine ew_getI 5 0 dX8_shifted_67 rfl (Nat.le_of_ble_eq_true rfl) w_266 in_X5 rfl g ?_
          refine ev_iload_n dX8_shifted_70 1 rfl rfl ?_
          obtain ⟨_, g0, hD⟩ := bd hD
          obtain ⟨r6, g, hD⟩ := bd hD
          refine ew_callVv (as := [vi v5, vi x1]) (a := x0) (rest := []) dX8_shifted_71 v_X8_goesBy w_683 rfl (Nat.le_of_ble_eq_true rfl) rfl rfl g0 (Nat.le_of_ble_eq_true rfl) (Nat.le_of_ble_eq_true rfl) (ct_X8_goesBy g) ?_
          by_cases c : r6.1 = 0
          · rw [if_pos c] at hD
            refine ev_if_eq_t (tgt := 79) dX8_shifted_74 (by decide) c ?_
            exact lk_X8_shifted_79 hD hrec hk
          · rw [if_neg c] at hD
            refine ev_if_eq_f 79 dX8_shifted_74 (by decide) c ?_
            refine ev_iload_n dX8_shifted_77 1 rfl rfl ?_
            cases hD
            obtain ⟨rfl, rfl⟩ := hk.2 _ rfl
            exact ev_ret (some (vi _)) dX8_shifted_78 True.intro
      · rw [if_neg c] at hD
        refine ev_if_eq_f 58 dX8_shifted_52 (by decide) c ?_
        refine ev_iload_n dX8_shifted_55 1 rfl rfl ?_
        refine ev_ineg dX8_shifted_56 ?_
        cases hD
        obtain ⟨rfl, rfl⟩ := hk.2 _ rfl
        exact ev_ret (some (vi _)) dX8_shifted_57 True.intro
def D_X8_shifted (x0 : Nat) (σ : mS) : Option (Int × mS) :=
  (gR σ x0 7 10).bind fun v1 =>
  (tgO σ v1 0).bind fun _ =>
  (D_X0_openAll v1 σ).bind fun r2 =>
  (gR r2 x0 7 10).bind fun v3 =>
  (tgO r2 v3 0).bind fun _ =>
  (D_X0_run v3 ((-1)) 1 r2).bind fun r4 =>
  (gR r4 x0 7 10).bind fun v5 =>
  (tgO r4 v5 0).bind fun _ =>
  (D_X0_hasClash v5 r4).bind fun r6 =>
  if r6 = 0 then
    (D_X8_shifted_32 mFU x0 0 r4).bind fun r7 =>
    match r7 with
    | (Sum.inl z8) =>
      some ((-9999), z8)
    | (Sum.inr z9) =>
      some (z9.1, z9.2)
  else
    some ((-9999), r4)
set_option maxRecDepth 100000 in
set_option maxHeartbeats 4000000 in
theorem lk_X8_shifted {G : mG} {x0 : Nat} {σ : mS} {R : (Int × mS)} (hD : D_X8_shifted x0 σ = some R) : Ev G M_X8_shifted 0 [(0, vr x0)] [] σ (.inl (some (vi R.1))) R.2 := by
  unfold D_X8_shifted at hD
  refine ev_aload_n dX8_shifted_0 0 rfl rfl ?_
  obtain ⟨v1, g, hD⟩ := bd hD
  refine ew_getR 7 10 dX8_shifted_1 rfl (Nat.le_of_ble_eq_true rfl) w_600 in_X8 rfl g ?_
  obtain ⟨_, g0, hD⟩ := bd hD
  obtain ⟨r2, g, hD⟩ := bd hD
  refine ew_callV0 (as := []) (a := v1) (rest := []) dX8_shifted_4 v_X0_openAll w_691 rfl (Nat.le_of_ble_eq_true rfl) rfl rfl g0 (Nat.le_of_ble_eq_true rfl) (Nat.le_of_ble_eq_true rfl) (ct_X0_openAll g) ?_
  refine ev_aload_n dX8_shifted_7 0 rfl rfl ?_
  obtain ⟨v3, g, hD⟩ := bd hD
  refine ew_getR 7 10 dX8_shifted_8 rfl (Nat.le_of_ble_eq_true rfl) w_600 in_X8 rfl g ?_
  refine ev_iconst dX8_shifted_11 (mi_c rfl) ?_
  refine ev_iconst dX8_shifted_12 (mi_c rfl) ?_
  obtain ⟨_, g0, hD⟩ := bd hD
  obtain ⟨r4, g, hD⟩ := bd hD
  refine ew_callV0 (as := [vi ((-1)), vi 1]) (a := v3) (rest := []) dX8_shifted_13 v_X0_run w_515 rfl (Nat.le_of_ble_eq_true rfl) rfl rfl g0 (Nat.le_of_ble_eq_true rfl) (Nat.le_of_ble_eq_true rfl) (ct_X0_run g) ?_
  refine ev_aload_n dX8_shifted_16 0 rfl rfl ?_
  obtain ⟨v5, g, hD⟩ := bd hD
  refine ew_getR 7 10 dX8_shifted_17 rfl (Nat.le_of_ble_eq_true rfl) w_600 in_X8 rfl g ?_
  obtain ⟨_, g0, hD⟩ := bd hD
  obtain ⟨r6, g, hD⟩ := bd hD
  refine ew_callVv (as := []) (a := v5) (rest := []) dX8_shifted_20 v_X0_hasClash w_666 rfl (Nat.le_of_ble_eq_true rfl) rfl rfl g0 (Nat.le_of_ble_eq_true rfl) (Nat.le_of_ble_eq_true rfl) (ct_X0_hasClash g) ?_
  by_cases c : r6 = 0
  · rw [if_pos c] at hD
    refine ev_if_eq_t (tgt := 30) dX8_shifted_23 (by decide) c ?_
    refine ev_iconst dX8_shifted_30 (mi_c rfl) ?_
    refine ev_istore_n dX8_shifted_31 rfl (Nat.le_of_ble_eq_true rfl) rfl ?_
    obtain ⟨r7, g, hD⟩ := bd hD
    refine Ev.pick [1, 0] rfl ?_
    rcases r7 with z8 | z9
    · refine lk_X8_shifted_32 mFU g ⟨(fun _ hz => ?_), (fun _ hz => nomatch hz)⟩
      cases hz
      refine ev_sp dX8_shifted_85 rfl ?_
      cases hD
      exact ev_ret (some (vi _)) dX8_shifted_88 True.intro
    · refine lk_X8_shifted_32 mFU g ⟨(fun _ hz => nomatch hz), (fun _ hz => ?_)⟩
      cases hz
      cases hD
      exact ⟨rfl, rfl⟩
  · rw [if_neg c] at hD
    refine ev_if_eq_f 30 dX8_shifted_23 (by decide) c ?_
    refine ev_sp dX8_shifted_26 rfl ?_
    cases hD
    exact ev_ret (some (vi _)) dX8_shifted_29 True.intro
theorem ct_X8_shifted {G : mG} {x0 : Nat} {σ : mS} {R : (Int × mS)} (hD : D_X8_shifted x0 σ = some R) : Ct G M_X8_shifted [vr x0] σ (.inl (some (vi R.1))) R.2 := ct_of rfl (by decide +kernel) rfl (Nat.le_of_ble_eq_true rfl) rfl (lk_X8_shifted hD)
def D_X8_print_37 : Nat → BitVec 64 → Nat → Int → Int → mS → Option (BitVec 64)
  | 0, _, _, _, _, _ => none
  | f + 1, x1, x4, x5, x6, σ =>
    if 1000 ≤ x6 then
      some x1
    else
      if 1000 ≤ x5 then
        some x1
      else
        (D_X7_nextOut x4 x5 σ).bind fun r1 =>
        (D_X7_nextIn x4 r1 σ).bind fun r2 =>
        (D_X8_print_37 f) ((((31 : BitVec 64) * (((31 : BitVec 64) * x1) + (mi2l x5))) + (mi2l r1)) - (1 : BitVec 64)) x4 r2 (mw (x6 + 1)) σ
set_option maxRecDepth 100000 in
set_option maxHeartbeats 4000000 in
theorem lk_X8_print_37 {G : mG} {x0 : Nat} {x3 : Int} (f : Nat) : ∀ {x1 : BitVec 64} {x4 : Nat} {x5 : Int} {x6 : Int} {σ : mS} {R : BitVec 64}, D_X8_print_37 f x1 x4 x5 x6 σ = some R → ∀ {r : mX} {τ : mS}, Ev G M_X8_print 99 [(0, vr x0), (1, vl (R)), (3, vi x3)] [] σ r τ → Ev G M_X8_print 37 [(0, vr x0), (1, vl x1), (3, vi x3), (4, vr x4), (5, vi x5), (6, vi x6)] [] σ r τ := by
  induction f with
  | zero =>
    intros
    rename_i hD _ _ _
    cases hD
  | succ f ih =>
    intro x1 x4 x5 x6 σ R hD r τ hk
    have hrec := @ih
    rw [D_X8_print_37] at hD
    refine ev_iload dX8_print_37 5 rfl ?_
    refine ev_sp dX8_print_39 rfl ?_
    by_cases c : 1000 ≤ x6
    · rw [if_pos c] at hD
      refine ev_icmp_ge_t (tgt := 99) dX8_print_42 (by decide) c ?_
      cases hD
      refine Ev.pick [0, 1, 2] rfl ?_
      exact hk
    · rw [if_neg c] at hD
      refine ev_icmp_ge_f 99 dX8_print_42 (by decide) c ?_
      refine ev_iload dX8_print_45 4 rfl ?_
      refine ev_sp dX8_print_47 rfl ?_
      by_cases c : 1000 ≤ x5
      · rw [if_pos c] at hD
        refine ev_icmp_ge_t (tgt := 99) dX8_print_50 (by decide) c ?_
        cases hD
        refine Ev.pick [0, 1, 2] rfl ?_
        exact hk
      · rw [if_neg c] at hD
        refine ev_icmp_ge_f 99 dX8_print_50 (by decide) c ?_
        refine ev_aload dX8_print_53 3 rfl ?_
        refine ev_iload dX8_print_55 4 rfl ?_
        obtain ⟨r1, g, hD⟩ := bd hD
        refine ew_callSv (as := [vr x4, vi x5]) (rest := []) dX8_print_57 v_X7_nextOut w_700 rfl (Nat.le_of_ble_eq_true rfl) (Nat.le_of_ble_eq_true rfl) (Nat.le_of_ble_eq_true rfl) (ct_X7_nextOut g) ?_
        refine ev_istore dX8_print_60 (Nat.le_of_ble_eq_true rfl) rfl ?_
        refine ev_ldc2 dX8_print_62 w_701 ?_
        refine ev_lload_n dX8_print_65 2 rfl rfl ?_
        refine ev_lmul dX8_print_66 ?_
        refine ev_iload dX8_print_67 5 rfl ?_
        refine ev_i2l dX8_print_69 ?_
        refine ev_ladd dX8_print_70 ?_
        refine ev_lstore_n dX8_print_71 rfl (Nat.le_of_ble_eq_true rfl) rfl ?_
        refine ev_ldc2 dX8_print_72 w_701 ?_
        refine ev_lload_n dX8_print_75 0 rfl rfl ?_
        refine ev_lmul dX8_print_76 ?_
        refine ev_iload dX8_print_77 1 rfl ?_
        refine ev_i2l dX8_print_79 ?_
        refine ev_ladd dX8_print_80 ?_
        refine ev_lconst (w := 1) dX8_print_81 rfl ?_
        refine ev_lsub dX8_print_82 ?_
        refine ev_lstore_n dX8_print_83 rfl (Nat.le_of_ble_eq_true rfl) rfl ?_
        refine ev_aload dX8_print_84 4 rfl ?_
        refine ev_iload dX8_print_86 1 rfl ?_
        obtain ⟨r2, g, hD⟩ := bd hD
        refine ew_callSv (as := [vr x4, vi r1]) (rest := []) dX8_print_88 v_X7_nextIn w_699 rfl (Nat.le_of_ble_eq_true rfl) (Nat.le_of_ble_eq_true rfl) (Nat.le_of_ble_eq_true rfl) (ct_X7_nextIn g) ?_
        refine ev_istore dX8_print_91 (Nat.le_of_ble_eq_true rfl) rfl ?_
        refine ev_iinc dX8_print_93 6 rfl (Nat.le_of_ble_eq_true rfl) rfl ?_
        refine ev_goto (tgt := 37) dX8_print_96 (by decide) ?_
        refine Ev.pick [4, 2, 5, 6, 1, 0] rfl ?_
        exact hrec hD hk
def D_X8_print_99 (rec : Nat → BitVec 64 → Int → mS → Option (BitVec 64)) (x0 : Nat) (x1 : BitVec 64) (x3 : Int) (σ : mS) : Option (BitVec 64) :=
  rec x0 ((31 : BitVec 64) * x1) (mw (x3 + 1)) σ
set_option maxRecDepth 100000 in
set_option maxHeartbeats 4000000 in
theorem lk_X8_print_99 {G : mG} {rec : Nat → BitVec 64 → Int → mS → Option (BitVec 64)} {x0 : Nat} {x1 : BitVec 64} {x3 : Int} {σ : mS} {R : BitVec 64} {r : mX} {τ : mS} (hD : D_X8_print_99 rec x0 x1 x3 σ = some R) (hrec : ∀ {x0 : Nat} {x1 : BitVec 64} {x3 : Int} {σ : mS} {R : BitVec 64}, rec x0 x1 x3 σ = some R → ∀ {r : mX} {τ : mS}, Ev G M_X8_print 111 [(1, vl (R))] [] σ r τ → Ev G M_X8_print 4 [(0, vr x0), (1, vl x1), (3, vi x3)] [] σ r τ) (hk : Ev G M_X8_print 111 [(1, vl (R))] [] σ r τ) : Ev G M_X8_print 99 [(0, vr x0), (1, vl x1), (3, vi x3)] [] σ r τ := by
  unfold D_X8_print_99 at hD
  refine ev_ldc2 dX8_print_99 w_701 ?_
  refine ev_lload_n dX8_print_102 1 rfl rfl ?_
  refine ev_lmul dX8_print_103 ?_
  refine ev_lstore_n dX8_print_104 rfl (Nat.le_of_ble_eq_true rfl) rfl ?_
  refine ev_iinc dX8_print_105 2 rfl (Nat.le_of_ble_eq_true rfl) rfl ?_
  refine ev_goto (tgt := 4) dX8_print_108 (by decide) ?_
  refine Ev.pick [2, 1, 0] rfl ?_
  exact hrec hD hk
def D_X8_print_4 : Nat → Nat → BitVec 64 → Int → mS → Option (BitVec 64)
  | 0, _, _, _, _ => none
  | f + 1, x0, x1, x3, σ =>
    (gR σ x0 7 1).bind fun v1 =>
    (gI σ v1 5 3).bind fun v2 =>
    if v2 ≤ x3 then
      some x1
    else
      (gR σ x0 7 9).bind fun v3 =>
      (gR σ v3 0 3).bind fun v4 =>
      (lR σ v4 x3).bind fun v5 =>
      (D_X7_nextIn v5 0 σ).bind fun r6 =>
      (D_X8_print_37 mFU x1 v5 r6 0 σ).bind fun r7 =>
      D_X8_print_99 (D_X8_print_4 f) x0 r7 x3 σ
set_option maxRecDepth 100000 in
set_option maxHeartbeats 4000000 in
theorem lk_X8_print_4 {G : mG} (f : Nat) : ∀ {x0 : Nat} {x1 : BitVec 64} {x3 : Int} {σ : mS} {R : BitVec 64}, D_X8_print_4 f x0 x1 x3 σ = some R → ∀ {r : mX} {τ : mS}, Ev G M_X8_print 111 [(1, vl (R))] [] σ r τ → Ev G M_X8_print 4 [(0, vr x0), (1, vl x1), (3, vi x3)] [] σ r τ := by
  induction f with
  | zero =>
    intros
    rename_i hD _ _ _
    cases hD
  | succ f ih =>
    intro x0 x1 x3 σ R hD r τ hk
    have hrec := @ih
    rw [D_X8_print_4] at hD
    refine ev_iload_n dX8_print_4 2 rfl rfl ?_
    refine ev_aload_n dX8_print_5 0 rfl rfl ?_
    obtain ⟨v1, g, hD⟩ := bd hD
    refine ew_getR 7 1 dX8_print_6 rfl (Nat.le_of_ble_eq_true rfl) w_591 in_X8 rfl g ?_
    obtain ⟨v2, g, hD⟩ := bd hD
    refine ew_getI 5 3 dX8_print_9 rfl (Nat.le_of_ble_eq_true rfl) w_278 in_X5 rfl g ?_
    by_cases c : v2 ≤ x3
    · rw [if_pos c] at hD
      refine ev_icmp_ge_t (tgt := 111) dX8_print_12 (by decide) c ?_
      cases hD
      refine Ev.pick [1] rfl ?_
      exact hk
    · rw [if_neg c] at hD
      refine ev_icmp_ge_f 111 dX8_print_12 (by decide) c ?_
      refine ev_aload_n dX8_print_15 0 rfl rfl ?_
      obtain ⟨v3, g, hD⟩ := bd hD
      refine ew_getR 7 9 dX8_print_16 rfl (Nat.le_of_ble_eq_true rfl) w_599 in_X8 rfl g ?_
      obtain ⟨v4, g, hD⟩ := bd hD
      refine ew_getR 0 3 dX8_print_19 rfl (Nat.le_of_ble_eq_true rfl) w_393 in_X0 rfl g ?_
      refine ev_iload_n dX8_print_22 2 rfl rfl ?_
      obtain ⟨v5, g, hD⟩ := bd hD
      refine ew_aald dX8_print_23 g ?_
      refine ev_astore dX8_print_24 (Nat.le_of_ble_eq_true rfl) rfl ?_
      refine ev_aload dX8_print_26 0 rfl ?_
      refine ev_iconst dX8_print_28 (mi_c rfl) ?_
      obtain ⟨r6, g, hD⟩ := bd hD
      refine ew_callSv (as := [vr v5, vi 0]) (rest := []) dX8_print_29 v_X7_nextIn w_699 rfl (Nat.le_of_ble_eq_true rfl) (Nat.le_of_ble_eq_true rfl) (Nat.le_of_ble_eq_true rfl) (ct_X7_nextIn g) ?_
      refine ev_istore dX8_print_32 (Nat.le_of_ble_eq_true rfl) rfl ?_
      refine ev_iconst dX8_print_34 (mi_c rfl) ?_
      refine ev_istore dX8_print_35 (Nat.le_of_ble_eq_true rfl) rfl ?_
      obtain ⟨r7, g, hD⟩ := bd hD
      refine Ev.pick [3, 4, 5, 2, 1, 0] rfl ?_
      refine lk_X8_print_37 mFU g ?_
      exact lk_X8_print_99 hD hrec hk
def D_X8_print (x0 : Nat) (σ : mS) : Option (BitVec 64) :=
  (D_X8_print_4 mFU x0 (0 : BitVec 64) 0 σ).bind fun r1 =>
  some r1
set_option maxRecDepth 100000 in
set_option maxHeartbeats 4000000 in
theorem lk_X8_print {G : mG} {x0 : Nat} {σ : mS} {R : BitVec 64} (hD : D_X8_print x0 σ = some R) : Ev G M_X8_print 0 [(0, vr x0)] [] σ (.inl (some (vl R))) σ := by
  unfold D_X8_print at hD
  refine ev_lconst (w := 0) dX8_print_0 rfl ?_
  refine ev_lstore_n dX8_print_1 rfl (Nat.le_of_ble_eq_true rfl) rfl ?_
  refine ev_iconst dX8_print_2 (mi_c rfl) ?_
  refine ev_istore_n dX8_print_3 rfl (Nat.le_of_ble_eq_true rfl) rfl ?_
  obtain ⟨r1, g, hD⟩ := bd hD
  refine Ev.pick [2, 1, 0] rfl ?_
  refine lk_X8_print_4 mFU g ?_
  refine ev_lload_n dX8_print_111 0 rfl rfl ?_
  cases hD
  exact ev_ret (some (vl _)) dX8_print_112 True.intro
theorem ct_X8_print {G : mG} {x0 : Nat} {σ : mS} {R : BitVec 64} (hD : D_X8_print x0 σ = some R) : Ct G M_X8_print [vr x0] σ (.inl (some (vl R))) σ := ct_of rfl (by decide +kernel) rfl (Nat.le_of_ble_eq_true rfl) rfl (lk_X8_print hD)
def D_X8_status_23 (y0 : Int) (σ : mS) : Option Int :=
  some y0
set_option maxRecDepth 100000 in
set_option maxHeartbeats 4000000 in
theorem lk_X8_status_23 {G : mG} {y0 : Int} {σ : mS} {R : Int} (hD : D_X8_status_23 y0 σ = some R) : Ev G M_X8_status 23 [] [vi y0] σ (.inl (some (vi R))) σ := by
  unfold D_X8_status_23 at hD
  cases hD
  exact ev_ret (some (vi _)) dX8_status_23 True.intro
def D_X8_status_22 (σ : mS) : Option Int :=
  D_X8_status_23 ((-1)) σ
set_option maxRecDepth 100000 in
set_option maxHeartbeats 4000000 in
theorem lk_X8_status_22 {G : mG} {σ : mS} {R : Int} (hD : D_X8_status_22  σ = some R) : Ev G M_X8_status 22 [] [] σ (.inl (some (vi R))) σ := by
  unfold D_X8_status_22 at hD
  refine ev_iconst dX8_status_22 (mi_c rfl) ?_
  exact lk_X8_status_23 hD
def D_X8_status (x0 : Nat) (x1 : Int) (σ : mS) : Option Int :=
  if x1 < 0 then
    D_X8_status_22  σ
  else
    (gR σ x0 7 7).bind fun v1 =>
    (aLn σ v1).bind fun v2 =>
    if v2 ≤ x1 then
      D_X8_status_22  σ
    else
      (gR σ x0 7 7).bind fun v3 =>
      (lI σ v3 x1).bind fun v4 =>
      D_X8_status_23 v4 σ
set_option maxRecDepth 100000 in
set_option maxHeartbeats 4000000 in
theorem lk_X8_status {G : mG} {x0 : Nat} {x1 : Int} {σ : mS} {R : Int} (hD : D_X8_status x0 x1 σ = some R) : Ev G M_X8_status 0 [(0, vr x0), (1, vi x1)] [] σ (.inl (some (vi R))) σ := by
  unfold D_X8_status at hD
  refine ev_iload_n dX8_status_0 1 rfl rfl ?_
  by_cases c : x1 < 0
  · rw [if_pos c] at hD
    refine ev_if_lt_t (tgt := 22) dX8_status_1 (by decide) c ?_
    refine Ev.pick [] rfl ?_
    exact lk_X8_status_22 hD
  · rw [if_neg c] at hD
    refine ev_if_lt_f 22 dX8_status_1 (by decide) c ?_
    refine ev_iload_n dX8_status_4 1 rfl rfl ?_
    refine ev_aload_n dX8_status_5 0 rfl rfl ?_
    obtain ⟨v1, g, hD⟩ := bd hD
    refine ew_getR 7 7 dX8_status_6 rfl (Nat.le_of_ble_eq_true rfl) w_597 in_X8 rfl g ?_
    obtain ⟨v2, g, hD⟩ := bd hD
    refine ew_alen dX8_status_9 g ?_
    by_cases c : v2 ≤ x1
    · rw [if_pos c] at hD
      refine ev_icmp_ge_t (tgt := 22) dX8_status_10 (by decide) c ?_
      refine Ev.pick [] rfl ?_
      exact lk_X8_status_22 hD
    · rw [if_neg c] at hD
      refine ev_icmp_ge_f 22 dX8_status_10 (by decide) c ?_
      refine ev_aload_n dX8_status_13 0 rfl rfl ?_
      obtain ⟨v3, g, hD⟩ := bd hD
      refine ew_getR 7 7 dX8_status_14 rfl (Nat.le_of_ble_eq_true rfl) w_597 in_X8 rfl g ?_
      refine ev_iload_n dX8_status_17 1 rfl rfl ?_
      obtain ⟨v4, g, hD⟩ := bd hD
      refine ew_iald dX8_status_18 g ?_
      refine ev_goto (tgt := 23) dX8_status_19 (by decide) ?_
      refine Ev.pick [] rfl ?_
      exact lk_X8_status_23 hD
theorem ct_X8_status {G : mG} {x0 : Nat} {x1 : Int} {σ : mS} {R : Int} (hD : D_X8_status x0 x1 σ = some R) : Ct G M_X8_status [vr x0, vi x1] σ (.inl (some (vi R))) σ := ct_of rfl (by decide +kernel) rfl (Nat.le_of_ble_eq_true rfl) rfl (lk_X8_status hD)
