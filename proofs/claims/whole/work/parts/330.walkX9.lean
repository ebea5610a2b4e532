def D_X9_sample_29 (σ : mS) : Option (Int × mS) :=
  some (0, σ)
set_option maxRecDepth 100000 in
set_option maxHeartbeats 4000000 in
theorem lk_X9_sample_29 {G : mG} {σ : mS} {R : (Int × mS)} (hD : D_X9_sample_29  σ = some R) : Ev G M_X9_sample 29 [] [] σ (.inl (some (vi R.1))) R.2 := by
  unfold D_X9_sample_29 at hD
  refine ev_iconst dX9_sample_29 (mi_c rfl) ?_
  cases hD
  exact ev_ret (some (vi _)) dX9_sample_30 True.intro
def D_X9_sample_169 (y0 : Int) (σ : mS) : Option (Int × mS) :=
  some (y0, σ)
set_option maxRecDepth 100000 in
set_option maxHeartbeats 4000000 in
theorem lk_X9_sample_169 {G : mG} {y0 : Int} {σ : mS} {R : (Int × mS)} (hD : D_X9_sample_169 y0 σ = some R) : Ev G M_X9_sample 169 [] [vi y0] σ (.inl (some (vi R.1))) R.2 := by
  unfold D_X9_sample_169 at hD
  cases hD
  exact ev_ret (some (vi _)) dX9_sample_169 True.intro
def D_X9_sample (x0 : Nat) (x1 : Int) (x2 : Int) (σ : mS) : Option (Int × mS) :=
  (pI σ x0 8 0 0).bind fun s1 =>
  (tgO s1 x0 8).bind fun _ =>
  (D_X9_isSample x0 x1 s1).bind fun r2 =>
  if r2.1 = 0 then
    D_X9_sample_29  r2.2
  else
    (D_X9_within x2 0 9 r2.2).bind fun r3 =>
    (tgO r2.2 x0 8).bind fun _ =>
    (D_X9_isFine x0 r3 2 1 r2.2).bind fun r4 =>
    if r4.1 ≠ 0 then
      (tgO r4.2 x0 8).bind fun _ =>
      (D_X9_lays x0 r4.2).bind fun r5 =>
      if x2 = 0 then
        (tgO r5 x0 8).bind fun _ =>
        (D_X9_sampleAt x0 x1 x2 r5).bind fun r6 =>
        some (r6, r5)
      else
      if x2 = 1 then
        (tgO r5 x0 8).bind fun _ =>
        (D_X9_sampleAt x0 x1 x2 r5).bind fun r7 =>
        some (r7, r5)
      else
      if x2 = 2 then
        (tgO r5 x0 8).bind fun _ =>
        (D_X9_sampleAt x0 x1 x2 r5).bind fun r8 =>
        some (r8, r5)
      else
      if x2 = 3 then
        (gR r5 x0 8 13).bind fun v9 =>
        (lR r5 v9 x1).bind fun v10 =>
        (tgO r5 x0 8).bind fun _ =>
        (D_X9_size x0 v10 r5).bind fun r11 =>
        some (r11, r5)
      else
      if x2 = 4 then
        (gR r5 x0 8 14).bind fun v12 =>
        (lR r5 v12 x1).bind fun v13 =>
        (tgO r5 x0 8).bind fun _ =>
        (D_X9_size x0 v13 r5).bind fun r14 =>
        some (r14, r5)
      else
      if x2 = 5 then
        (tgO r5 x0 8).bind fun _ =>
        (D_X9_earliest x0 x1 r5).bind fun r15 =>
        some (r15, r5)
      else
      if x2 = 6 then
        (tgO r5 x0 8).bind fun _ =>
        (D_X9_latest x0 x1 r5).bind fun r16 =>
        some (r16, r5)
      else
      if x2 = 7 then
        (gR r5 x0 8 14).bind fun v17 =>
        (lR r5 v17 x1).bind fun v18 =>
        (tgO r5 x0 8).bind fun _ =>
        (D_X9_intervals x0 v18 r5).bind fun r19 =>
        some (r19, r5)
      else
      if x2 = 8 then
        (tgO r5 x0 8).bind fun _ =>
        (D_X9_bestYear x0 x1 r5).bind fun r20 =>
        some (r20, r5)
      else
        (tgO r5 x0 8).bind fun _ =>
        (D_X9_bestYear x0 x1 r5).bind fun r21 =>
        if r21 ≠ ((-1)) then
          (tgO r5 x0 8).bind fun _ =>
          (D_X9_bestYear x0 x1 r5).bind fun r22 =>
          (tgO r5 x0 8).bind fun _ =>
          (D_X9_misfitOf x0 x1 r22 r5).bind fun r23 =>
          D_X9_sample_169 r23 r5
        else
          D_X9_sample_169 ((-1)) r5
    else
      D_X9_sample_29  r4.2
set_option maxRecDepth 100000 in
set_option maxHeartbeats 4000000 in
theorem lk_X9_sample {G : mG} {x0 : Nat} {x1 : Int} {x2 : Int} {σ : mS} {R : (Int × mS)} (hD : D_X9_sample x0 x1 x2 σ = some R) : Ev G M_X9_sample 0 [(0, vr x0), (1, vi x1), (2, vi x2)] [] σ (.inl (some (vi R.1))) R.2 := by
  unfold D_X9_sample at hD
  refine ev_aload_n dX9_sample_0 0 rfl rfl ?_
  refine ev_iconst dX9_sample_1 (mi_c rfl) ?_
  obtain ⟨s1, g, hD⟩ := bd hD
  refine ew_putI 8 0 dX9_sample_2 rfl (Nat.le_of_ble_eq_true rfl) w_1265 in_X9 tyX9_ok nmX9 (Or.inl rfl) rfl g ?_
  refine ev_aload_n dX9_sample_5 0 rfl rfl ?_
  refine ev_iload_n dX9_sample_6 1 rfl rfl ?_
  obtain ⟨_, g0, hD⟩ := bd hD
  obtain ⟨r2, g, hD⟩ := bd hD
  refine ew_callVv (as := [vi x1]) (a := x0) (rest := []) dX9_sample_7 v_X9_isSample w_1593 rfl (Nat.le_of_ble_eq_true rfl) rfl rfl g0 (Nat.le_of_ble_eq_true rfl) (Nat.le_of_ble_eq_true rfl) (ct_X9_isSample g) ?_
  by_cases c : r2.1 = 0
  · rw [if_pos c] at hD
    refine ev_if_eq_t (tgt := 29) dX9_sample_10 (by decide) c ?_
    refine Ev.pick [] rfl ?_
    exact lk_X9_sample_29 hD
  · rw [if_neg c] at hD
    refine ev_if_eq_f 29 dX9_sample_10 (by decide) c ?_
    refine ev_aload_n dX9_sample_13 0 rfl rfl ?_
    refine ev_iload_n dX9_sample_14 2 rfl rfl ?_
    refine ev_iconst dX9_sample_15 (mi_c rfl) ?_
    refine ev_bp dX9_sample_16 rfl ?_
    obtain ⟨r3, g, hD⟩ := bd hD
    refine ew_callSv (as := [vi x2, vi 0, vi 9]) (rest := [vr x0]) dX9_sample_18 v_X9_within w_1438 rfl (Nat.le_of_ble_eq_true rfl) (Nat.le_of_ble_eq_true rfl) (Nat.le_of_ble_eq_true rfl) (ct_X9_within g) ?_
    refine ev_iconst dX9_sample_21 (mi_c rfl) ?_
    refine ev_iconst dX9_sample_22 (mi_c rfl) ?_
    obtain ⟨_, g0, hD⟩ := bd hD
    obtain ⟨r4, g, hD⟩ := bd hD
    refine ew_callVv (as := [vi r3, vi 2, vi 1]) (a := x0) (rest := []) dX9_sample_23 v_X9_isFine w_1441 rfl (Nat.le_of_ble_eq_true rfl) rfl rfl g0 (Nat.le_of_ble_eq_true rfl) (Nat.le_of_ble_eq_true rfl) (ct_X9_isFine g) ?_
    by_cases c : r4.1 ≠ 0
    · rw [if_pos c] at hD
      refine ev_if_ne_t (tgt := 31) dX9_sample_26 (by decide) c ?_
      refine ev_aload_n dX9_sample_31 0 rfl rfl ?_
      obtain ⟨_, g0, hD⟩ := bd hD
      obtain ⟨r5, g, hD⟩ := bd hD
      refine ew_callV0 (as := []) (a := x0) (rest := []) dX9_sample_32 v_X9_lays w_1621 rfl (Nat.le_of_ble_eq_true rfl) rfl rfl g0 (Nat.le_of_ble_eq_true rfl) (Nat.le_of_ble_eq_true rfl) (ct_X9_lays g) ?_
      refine ev_iload_n dX9_sample_35 2 rfl rfl ?_
      by_cases c0 : x2 = 0
      · rw [if_pos c0] at hD
        refine ev_tableIn (off := 52) (tgt := 88) dX9_sample_36 (by omega) (by omega) (by rw [c0]; rfl) (by decide) ?_
        refine ev_aload_n dX9_sample_88 0 rfl rfl ?_
        refine ev_iload_n dX9_sample_89 1 rfl rfl ?_
        refine ev_iload_n dX9_sample_90 2 rfl rfl ?_
        obtain ⟨_, g0, hD⟩ := bd hD
        obtain ⟨r6, g, hD⟩ := bd hD
        refine ew_callVv (as := [vi x1, vi x2]) (a := x0) (rest := []) dX9_sample_91 v_X9_sampleAt w_1597 rfl (Nat.le_of_ble_eq_true rfl) rfl rfl g0 (Nat.le_of_ble_eq_true rfl) (Nat.le_of_ble_eq_true rfl) (ct_X9_sampleAt g) ?_
        cases hD
        exact ev_ret (some (vi _)) dX9_sample_94 True.intro
      rw [if_neg c0] at hD
      by_cases c1 : x2 = 1
      · rw [if_pos c1] at hD
        refine ev_tableIn (off := 52) (tgt := 88) dX9_sample_36 (by omega) (by omega) (by rw [c1]; rfl) (by decide) ?_
        refine ev_aload_n dX9_sample_88 0 rfl rfl ?_
        refine ev_iload_n dX9_sample_89 1 rfl rfl ?_
        refine ev_iload_n dX9_sample_90 2 rfl rfl ?_
        obtain ⟨_, g0, hD⟩ := bd hD
        obtain ⟨r7, g, hD⟩ := bd hD
        refine ew_callVv (as := [vi x1, vi x2]) (a := x0) (rest := []) dX9_sample_91 v_X9_sampleAt w_1597 rfl (Nat.le_of_ble_eq_true rfl) rfl rfl g0 (Nat.le_of_ble_eq_true rfl) (Nat.le_of_ble_eq_true rfl) (ct_X9_sampleAt g) ?_
        cases hD
        exact ev_ret (some (vi _)) dX9_sample_94 True.intro
      rw [if_neg c1] at hD
      by_cases c2 : x2 = 2
      · rw [if_pos c2] at hD
        refine ev_tableIn (off := 52) (tgt := 88) dX9_sample_36 (by omega) (by omega) (by rw [c2]; rfl) (by decide) ?_
        refine ev_aload_n dX9_sample_88 0 rfl rfl ?_
        refine ev_iload_n dX9_sample_89 1 rfl rfl ?_
        refine ev_iload_n dX9_sample_90 2 rfl rfl ?_
        obtain ⟨_, g0, hD⟩ := bd hD
        obtain ⟨r8, g, hD⟩ := bd hD
        refine ew_callVv (as := [vi x1, vi x2]) (a := x0) (rest := []) dX9_sample_91 v_X9_sampleAt w_1597 rfl (Nat.le_of_ble_eq_true rfl) rfl rfl g0 (Nat.le_of_ble_eq_true rfl) (Nat.le_of_ble_eq_true rfl) (ct_X9_sampleAt g) ?_
        cases hD
        exact ev_ret (some (vi _)) dX9_sample_94 True.intro
      rw [if_neg c2] at hD
      by_cases c3 : x2 = 3
      · rw [if_pos c3] at hD
        refine ev_tableIn (off := 59) (tgt := 95) dX9_sample_36 (by omega) (by omega) (by rw [c3]; rfl) (by decide) ?_
        refine ev_aload_n dX9_sample_95 0 rfl rfl ?_
        refine ev_aload_n dX9_sample_96 0 rfl rfl ?_
        obtain ⟨v9, g, hD⟩ := bd hD
        refine ew_getR 8 13 dX9_sample_97 rfl (Nat.le_of_ble_eq_true rfl) w_1278 in_X9 rfl g ?_
        refine ev_iload_n dX9_sample_100 1 rfl rfl ?_
        obtain ⟨v10, g, hD⟩ := bd hD
        refine ew_aald dX9_sample_101 g ?_
        obtain ⟨_, g0, hD⟩ := bd hD
        obtain ⟨r11, g, hD⟩ := bd hD
        refine ew_callVv (as := [vr v10]) (a := x0) (rest := []) dX9_sample_102 v_X9_size w_1650 rfl (Nat.le_of_ble_eq_true rfl) rfl rfl g0 (Nat.le_of_ble_eq_true rfl) (Nat.le_of_ble_eq_true rfl) (ct_X9_size g) ?_
        cases hD
        exact ev_ret (some (vi _)) dX9_sample_105 True.intro
      rw [if_neg c3] at hD
      by_cases c4 : x2 = 4
      · rw [if_pos c4] at hD
        refine ev_tableIn (off := 70) (tgt := 106) dX9_sample_36 (by omega) (by omega) (by rw [c4]; rfl) (by decide) ?_
        refine ev_aload_n dX9_sample_106 0 rfl rfl ?_
        refine ev_aload_n dX9_sample_107 0 rfl rfl ?_
        obtain ⟨v12, g, hD⟩ := bd hD
        refine ew_getR 8 14 dX9_sample_108 rfl (Nat.le_of_ble_eq_true rfl) w_1279 in_X9 rfl g ?_
        refine ev_iload_n dX9_sample_111 1 rfl rfl ?_
        obtain ⟨v13, g, hD⟩ := bd hD
        refine ew_aald dX9_sample_112 g ?_
        obtain ⟨_, g0, hD⟩ := bd hD
        obtain ⟨r14, g, hD⟩ := bd hD
        refine ew_callVv (as := [vr v13]) (a := x0) (rest := []) dX9_sample_113 v_X9_size w_1650 rfl (Nat.le_of_ble_eq_true rfl) rfl rfl g0 (Nat.le_of_ble_eq_true rfl) (Nat.le_of_ble_eq_true rfl) (ct_X9_size g) ?_
        cases hD
        exact ev_ret (some (vi _)) dX9_sample_116 True.intro
      rw [if_neg c4] at hD
      by_cases c5 : x2 = 5
      · rw [if_pos c5] at hD
        refine ev_tableIn (off := 81) (tgt := 117) dX9_sample_36 (by omega) (by omega) (by rw [c5]; rfl) (by decide) ?_
        refine ev_aload_n dX9_sample_117 0 rfl rfl ?_
        refine ev_iload_n dX9_sample_118 1 rfl rfl ?_
        obtain ⟨_, g0, hD⟩ := bd hD
        obtain ⟨r15, g, hD⟩ := bd hD
        refine ew_callVv (as := [vi x1]) (a := x0) (rest := []) dX9_sample_119 v_X9_earliest w_1727 rfl (Nat.le_of_ble_eq_true rfl) rfl rfl g0 (Nat.le_of_ble_eq_true rfl) (Nat.le_of_ble_eq_true rfl) (ct_X9_earliest g) ?_
        cases hD
        exact ev_ret (some (vi _)) dX9_sample_122 True.intro
      rw [if_neg c5] at hD
      by_cases c6 : x2 = 6
      · rw [if_pos c6] at hD
        refine ev_tableIn (off := 87) (tgt := 123) dX9_sample_36 (by omega) (by omega) (by rw [c6]; rfl) (by decide) ?_
        refine ev_aload_n dX9_sample_123 0 rfl rfl ?_
        refine ev_iload_n dX9_sample_124 1 rfl rfl ?_
        obtain ⟨_, g0, hD⟩ := bd hD
        obtain ⟨r16, g, hD⟩ := bd hD
        refine ew_callVv (as := [vi x1]) (a := x0) (rest := []) dX9_sample_125 v_X9_latest w_1731 rfl (Nat.le_of_ble_eq_true rfl) rfl rfl g0 (Nat.le_of_ble_eq_true rfl) (Nat.le_of_ble_eq_true rfl) (ct_X9_latest g) ?_
        cases hD
        exact ev_ret (some (vi _)) dX9_sample_128 True.intro
      rw [if_neg c6] at hD
      by_cases c7 : x2 = 7
      · rw [if_pos c7] at hD
        refine ev_tableIn (off := 93) (tgt := 129) dX9_sample_36 (by omega) (by omega) (by rw [c7]; rfl) (by decide) ?_
        refine ev_aload_n dX9_sample_129 0 rfl rfl ?_
        refine ev_aload_n dX9_sample_130 0 rfl rfl ?_
        obtain ⟨v17, g, hD⟩ := bd hD
        refine ew_getR 8 14 dX9_sample_131 rfl (Nat.le_of_ble_eq_true rfl) w_1279 in_X9 rfl g ?_
        refine ev_iload_n dX9_sample_134 1 rfl rfl ?_
        obtain ⟨v18, g, hD⟩ := bd hD
        refine ew_aald dX9_sample_135 g ?_
        obtain ⟨_, g0, hD⟩ := bd hD
        obtain ⟨r19, g, hD⟩ := bd hD
        refine ew_callVv (as := [vr v18]) (a := x0) (rest := []) dX9_sample_136 v_X9_intervals w_1735 rfl (Nat.le_of_ble_eq_true rfl) rfl rfl g0 (Nat.le_of_ble_eq_true rfl) (Nat.le_of_ble_eq_true rfl) (ct_X9_intervals g) ?_
        cases hD
        exact ev_ret (some (vi _)) dX9_sample_139 True.intro
      rw [if_neg c7] at hD
      by_cases c8 : x2 = 8
      · rw [if_pos c8] at hD
        refine ev_tableIn (off := 104) (tgt := 140) dX9_sample_36 (by omega) (by omega) (by rw [c8]; rfl) (by decide) ?_
        refine ev_aload_n dX9_sample_140 0 rfl rfl ?_
        refine ev_iload_n dX9_sample_141 1 rfl rfl ?_
        obtain ⟨_, g0, hD⟩ := bd hD
        obtain ⟨r20, g, hD⟩ := bd hD
        refine ew_callVv (as := [vi x1]) (a := x0) (rest := []) dX9_sample_142 v_X9_bestYear w_1743 rfl (Nat.le_of_ble_eq_true rfl) rfl rfl g0 (Nat.le_of_ble_eq_true rfl) (Nat.le_of_ble_eq_true rfl) (ct_X9_bestYear g) ?_
        cases hD
        exact ev_ret (some (vi _)) dX9_sample_145 True.intro
      rw [if_neg c8] at hD
      refine ev_tableOut (tgt := 146) dX9_sample_36 (by omega) (by decide) ?_
      refine ev_aload_n dX9_sample_146 0 rfl rfl ?_
      refine ev_iload_n dX9_sample_147 1 rfl rfl ?_
      obtain ⟨_, g0, hD⟩ := bd hD
      obtain ⟨r21, g, hD⟩ := bd hD
      refine ew_callVv (as := [vi x1]) (a := x0) (rest := []) dX9_sample_148 v_X9_bestYear w_1743 rfl (Nat.le_of_ble_eq_true rfl) rfl rfl g0 (Nat.le_of_ble_eq_true rfl) (Nat.le_of_ble_eq_true rfl) (ct_X9_bestYear g) ?_
      refine ev_iconst dX9_sample_151 (mi_c rfl) ?_
      by_cases c : r21 ≠ ((-1))
      · rw [if_pos c] at hD
        refine ev_icmp_ne_t (tgt := 159) dX9_sample_152 (by decide) c ?_
        refine ev_aload_n dX9_sample_159 0 rfl rfl ?_
        refine ev_iload_n dX9_sample_160 1 rfl rfl ?_
        refine ev_aload_n dX9_sample_161 0 rfl rfl ?_
        refine ev_iload_n dX9_sample_162 1 rfl rfl ?_
        obtain ⟨_, g0, hD⟩ := bd hD
        obtain ⟨r22, g, hD⟩ := bd hD
        refine ew_callVv (as := [vi x1]) (a := x0) (rest := [vi x1, vr x0]) dX9_sample_163 v_X9_bestYear w_1743 rfl (Nat.le_of_ble_eq_true rfl) rfl rfl g0 (Nat.le_of_ble_eq_true rfl) (Nat.le_of_ble_eq_true rfl) (ct_X9_bestYear g) ?_
        obtain ⟨_, g0, hD⟩ := bd hD
        obtain ⟨r23, g, hD⟩ := bd hD
        refine ew_callVv (as := [vi x1, vi r22]) (a := x0) (rest := []) dX9_sample_166 v_X9_misfitOf w_1633 rfl (Nat.le_of_ble_eq_true rfl) rfl rfl g0 (Nat.le_of_ble_eq_true rfl) (Nat.le_of_ble_eq_true rfl) (ct_X9_misfitOf g) ?_
        refine Ev.pick [] rfl ?_
        exact lk_X9_sample_169 hD
      · rw [if_neg c] at hD
        refine ev_icmp_ne_f 159 dX9_sample_152 (by decide) c ?_
        refine ev_iconst dX9_sample_155 (mi_c rfl) ?_
        refine ev_goto (tgt := 169) dX9_sample_156 (by decide) ?_
        refine Ev.pick [] rfl ?_
        exact lk_X9_sample_169 hD
    · rw [if_neg c] at hD
      refine ev_if_ne_f 31 dX9_sample_26 (by decide) c ?_
      refine Ev.pick [] rfl ?_
      exact lk_X9_sample_29 hD
theorem ct_X9_sample {G : mG} {x0 : Nat} {x1 : Int} {x2 : Int} {σ : mS} {R : (Int × mS)} (hD : D_X9_sample x0 x1 x2 σ = some R) : Ct G M_X9_sample [vr x0, vi x1, vi x2] σ (.inl (some (vi R.1))) R.2 := ct_of rfl (by decide +kernel) rfl (Nat.le_of_ble_eq_true rfl) rfl (lk_X9_sample hD)
def D_X9_intervalFrom_42 (rec : Nat → Int → Int → Int → Int → mS → Option (Unit ⊕ Int)) (x0 : Nat) (x1 : Int) (x2 : Int) (x3 : Int) (x4 : Int) (σ : mS) : Option (Unit ⊕ Int) :=
  rec x0 x1 x2 x3 (mw (x4 + 1)) σ
set_option maxRecDepth 100000 in
set_option maxHeartbeats 4000000 in
theorem lk_X9_intervalFrom_42 {G : mG} {rec : Nat → Int → Int → Int → Int → mS → Option (Unit ⊕ Int)} {x0 : Nat} {x1 : Int} {x2 : Int} {x3 : Int} {x4 : Int} {σ : mS} {R : (Unit ⊕ Int)} {r : mX} {τ : mS} (hD : D_X9_intervalFrom_42 rec x0 x1 x2 x3 x4 σ = some R) (hrec : ∀ {x0 : Nat} {x1 : Int} {x2 : Int} {x3 : Int} {x4 : Int} {σ : mS} {R : (Unit ⊕ Int)}, rec x0 x1 x2 x3 x4 σ = some R → ∀ {r : mX} {τ : mS}, (∀ z, R = (Sum.inl z) → Ev G M_X9_intervalFrom 48 [] [] σ r τ) ∧ (∀ z, R = (Sum.inr z) → r = .inl (some (vi z)) ∧ τ = σ) → Ev G M_X9_intervalFrom 5 [(0, vr x0), (1, vi x1), (2, vi x2), (3, vi x3), (4, vi x4)] [] σ r τ) (hk : (∀ z, R = (Sum.inl z) → Ev G M_X9_intervalFrom 48 [] [] σ r τ) ∧ (∀ z, R = (Sum.inr z) → r = .inl (some (vi z)) ∧ τ = σ)) : Ev G M_X9_intervalFrom 42 [(0, vr x0), (1, vi x1), (2, vi x2), (3, vi x3), (4, vi x4)] [] σ r τ := by
  unfold D_X9_intervalFrom_42 at hD
  refine ev_iinc dX9_intervalFrom_42 4 rfl (Nat.le_of_ble_eq_true rfl) rfl ?_
  refine ev_goto (tgt := 5) dX9_intervalFrom_45 (by decide) ?_
  refine Ev.pick [1, 2, 3, 4, 0] rfl ?_
  exact hrec hD hk
def D_X9_intervalFrom_5 : Nat → Nat → Int → Int → Int → Int → mS → Option (Unit ⊕ Int)
  | 0, _, _, _, _, _, _ => none
  | f + 1, x0, x1, x2, x3, x4, σ =>
    if 1000 ≤ x4 then
      some (Sum.inl ())
    else
      (gR σ x0 8 14).bind fun v1 =>
      (lR σ v1 x1).bind fun v2 =>
      (tgO σ x0 8).bind fun _ =>
      (D_X9_begins x0 v2 x4 σ).bind fun r3 =>
      if r3 ≠ 0 then
        if x3 ≠ x2 then
          D_X9_intervalFrom_42 (D_X9_intervalFrom_5 f) x0 x1 x2 (mw (x3 + 1)) x4 σ
        else
          some (Sum.inr x4)
      else
        D_X9_intervalFrom_42 (D_X9_intervalFrom_5 f) x0 x1 x2 x3 x4 σ
set_option maxRecDepth 100000 in
set_option maxHeartbeats 4000000 in
theorem lk_X9_intervalFrom_5 {G : mG} (f : Nat) : ∀ {x0 : Nat} {x1 : Int} {x2 : Int} {x3 : Int} {x4 : Int} {σ : mS} {R : (Unit ⊕ Int)}, D_X9_intervalFrom_5 f x0 x1 x2 x3 x4 σ = some R → ∀ {r : mX} {τ : mS}, (∀ z, R = (Sum.inl z) → Ev G M_X9_intervalFrom 48 [] [] σ r τ) ∧ (∀ z, R = (Sum.inr z) → r = .inl (some (vi z)) ∧ τ = σ) → Ev G M_X9_intervalFrom 5 [(0, vr x0), (1, vi x1), (2, vi x2), (3, vi x3), (4, vi x4)] [] σ r τ := by
  induction f with
  | zero =>
    intros
    rename_i hD _ _ _
    cases hD
  | succ f ih =>
    intro x0 x1 x2 x3 x4 σ R hD r τ hk
    have hrec := @ih
    rw [D_X9_intervalFrom_5] at hD
    refine ev_iload dX9_intervalFrom_5 4 rfl ?_
    refine ev_sp dX9_intervalFrom_7 rfl ?_
    by_cases c : 1000 ≤ x4
    · rw [if_pos c] at hD
      refine ev_icmp_ge_t (tgt := 48) dX9_intervalFrom_10 (by decide) c ?_
      cases hD
      refine Ev.pick [] rfl ?_
      exact hk.1 _ rfl
    · rw [if_neg c] at hD
      refine ev_icmp_ge_f 48 dX9_intervalFrom_10 (by decide) c ?_
      refine ev_aload_n dX9_intervalFrom_13 0 rfl rfl ?_
      refine ev_aload_n dX9_intervalFrom_14 0 rfl rfl ?_
      obtain ⟨v1, g, hD⟩ := bd hD
      refine ew_getR 8 14 dX9_intervalFrom_15 rfl (Nat.le_of_ble_eq_true rfl) w_1279 in_X9 rfl g ?_
      refine ev_iload_n dX9_intervalFrom_18 1 rfl rfl ?_
      obtain ⟨v2, g, hD⟩ := bd hD
      refine ew_aald dX9_intervalFrom_19 g ?_
      refine ev_iload dX9_intervalFrom_20 4 rfl ?_
      obtain ⟨_, g0, hD⟩ := bd hD
      obtain ⟨r3, g, hD⟩ := bd hD
      refine ew_callVv (as := [vr v2, vi x4]) (a := x0) (rest := []) dX9_intervalFrom_22 v_X9_begins w_1739 rfl (Nat.le_of_ble_eq_true rfl) rfl rfl g0 (Nat.le_of_ble_eq_true rfl) (Nat.le_of_ble_eq_true rfl) (ct_X9_begins g) ?_
      by_cases c : r3 ≠ 0
      · rw [if_pos c] at hD
        refine ev_if_ne_t (tgt := 31) dX9_intervalFrom_25 (by decide) c ?_
        refine ev_iload_n dX9_intervalFrom_31 3 rfl rfl ?_
        refine ev_iload_n dX9_intervalFrom_32 2 rfl rfl ?_
        by_cases c : x3 ≠ x2
        · rw [if_pos c] at hD
          refine ev_icmp_ne_t (tgt := 39) dX9_intervalFrom_33 (by decide) c ?_
          refine ev_iinc dX9_intervalFrom_39 3 rfl (Nat.le_of_ble_eq_true rfl) rfl ?_
          refine Ev.pick [1, 2, 3, 0, 4] rfl ?_
          exact lk_X9_intervalFrom_42 hD hrec hk
        · rw [if_neg c] at hD
          refine ev_icmp_ne_f 39 dX9_intervalFrom_33 (by decide) c ?_
          refine ev_iload dX9_intervalFrom_36 4 rfl ?_
          cases hD
          obtain ⟨rfl, rfl⟩ := hk.2 _ rfl
          exact ev_ret (some (vi _)) dX9_intervalFrom_38 True.intro
      · rw [if_neg c] at hD
        refine ev_if_ne_f 31 dX9_intervalFrom_25 (by decide) c ?_
        refine ev_goto (tgt := 42) dX9_intervalFrom_28 (by decide) ?_
        exact lk_X9_intervalFrom_42 hD hrec hk
def D_X9_intervalFrom (x0 : Nat) (x1 : Int) (x2 : Int) (σ : mS) : Option Int :=
  (D_X9_intervalFrom_5 mFU x0 x1 x2 0 0 σ).bind fun r1 =>
  match r1 with
  | (Sum.inl z2) =>
    some ((-1))
  | (Sum.inr z3) =>
    some z3
set_option maxRecDepth 100000 in
set_option maxHeartbeats 4000000 in
theorem lk_X9_intervalFrom {G : mG} {x0 : Nat} {x1 : Int} {x2 : Int} {σ : mS} {R : Int} (hD : D_X9_intervalFrom x0 x1 x2 σ = some R) : Ev G M_X9_intervalFrom 0 [(0, vr x0), (1, vi x1), (2, vi x2)] [] σ (.inl (some (vi R))) σ := by
  unfold D_X9_intervalFrom at hD
  refine ev_iconst dX9_intervalFrom_0 (mi_c rfl) ?_
  refine ev_istore_n dX9_intervalFrom_1 rfl (Nat.le_of_ble_eq_true rfl) rfl ?_
  refine ev_iconst dX9_intervalFrom_2 (mi_c rfl) ?_
  refine ev_istore dX9_intervalFrom_3 (Nat.le_of_ble_eq_true rfl) rfl ?_
  obtain ⟨r1, g, hD⟩ := bd hD
  refine Ev.pick [2, 3, 4, 1, 0] rfl ?_
  rcases r1 with z2 | z3
  · refine lk_X9_intervalFrom_5 mFU g ⟨(fun _ hz => ?_), (fun _ hz => nomatch hz)⟩
    cases hz
    refine ev_iconst dX9_intervalFrom_48 (mi_c rfl) ?_
    cases hD
    exact ev_ret (some (vi _)) dX9_intervalFrom_49 True.intro
  · refine lk_X9_intervalFrom_5 mFU g ⟨(fun _ hz => nomatch hz), (fun _ hz => ?_)⟩
    cases hz
    cases hD
    exact ⟨rfl, rfl⟩
theorem ct_X9_intervalFrom {G : mG} {x0 : Nat} {x1 : Int} {x2 : Int} {σ : mS} {R : Int} (hD : D_X9_intervalFrom x0 x1 x2 σ = some R) : Ct G M_X9_intervalFrom [vr x0, vi x1, vi x2] σ (.inl (some (vi R))) σ := ct_of rfl (by decide +kernel) rfl (Nat.le_of_ble_eq_true rfl) rfl (lk_X9_intervalFrom hD)
def D_X9_intervalTo_2 : Nat → Nat → Int → Int → mS → Option Int
  | 0, _, _, _, _ => none
  | f + 1, x0, x1, x3, σ =>
    if 999 ≤ x3 then
      some x3
    else
      (gR σ x0 8 14).bind fun v1 =>
      (lR σ v1 x1).bind fun v2 =>
      (lB σ v2 (mw (x3 + 1))).bind fun v3 =>
      if v3 = 0 then
        some x3
      else
        (D_X9_intervalTo_2 f) x0 x1 (mw (x3 + 1)) σ
set_option maxRecDepth 100000 in
set_option maxHeartbeats 4000000 in
theorem lk_X9_intervalTo_2 {G : mG} (f : Nat) : ∀ {x0 : Nat} {x1 : Int} {x3 : Int} {σ : mS} {R : Int}, D_X9_intervalTo_2 f x0 x1 x3 σ = some R → ∀ {r : mX} {τ : mS}, Ev G M_X9_intervalTo 28 [(3, vi (R))] [] σ r τ → Ev G M_X9_intervalTo 2 [(0, vr x0), (1, vi x1), (3, vi x3)] [] σ r τ := by
  induction f with
  | zero =>
    intros
    rename_i hD _ _ _
    cases hD
  | succ f ih =>
    intro x0 x1 x3 σ R hD r τ hk
    have hrec := @ih
    rw [D_X9_intervalTo_2] at hD
    refine ev_iload_n dX9_intervalTo_2 2 rfl rfl ?_
    refine ev_sp dX9_intervalTo_3 rfl ?_
    by_cases c : 999 ≤ x3
    · rw [if_pos c] at hD
      refine ev_icmp_ge_t (tgt := 28) dX9_intervalTo_6 (by decide) c ?_
      cases hD
      refine Ev.pick [2] rfl ?_
      exact hk
    · rw [if_neg c] at hD
      refine ev_icmp_ge_f 28 dX9_intervalTo_6 (by decide) c ?_
      refine ev_aload_n dX9_intervalTo_9 0 rfl rfl ?_
      obtain ⟨v1, g, hD⟩ := bd hD
      refine ew_getR 8 14 dX9_intervalTo_10 rfl (Nat.le_of_ble_eq_true rfl) w_1279 in_X9 rfl g ?_
      refine ev_iload_n dX9_intervalTo_13 1 rfl rfl ?_
      obtain ⟨v2, g, hD⟩ := bd hD
      refine ew_aald dX9_intervalTo_14 g ?_
      refine ev_iload_n dX9_intervalTo_15 2 rfl rfl ?_
      refine ev_iconst dX9_intervalTo_16 (mi_c rfl) ?_
      refine ev_iadd dX9_intervalTo_17 ?_
      obtain ⟨v3, g, hD⟩ := bd hD
      refine ew_bald dX9_intervalTo_18 g ?_
      by_cases c : v3 = 0
      · rw [if_pos c] at hD
        refine ev_if_eq_t (tgt := 28) dX9_intervalTo_19 (by decide) c ?_
        cases hD
        refine Ev.pick [2] rfl ?_
        exact hk
      · rw [if_neg c] at hD
        refine ev_if_eq_f 28 dX9_intervalTo_19 (by decide) c ?_
        refine ev_iinc dX9_intervalTo_22 2 rfl (Nat.le_of_ble_eq_true rfl) rfl ?_
        refine ev_goto (tgt := 2) dX9_intervalTo_25 (by decide) ?_
        refine Ev.pick [1, 2, 0] rfl ?_
        exact hrec hD hk
def D_X9_intervalTo_28 (x3 : Int) (σ : mS) : Option Int :=
  some x3
set_option maxRecDepth 100000 in
set_option maxHeartbeats 4000000 in
theorem lk_X9_intervalTo_28 {G : mG} {x3 : Int} {σ : mS} {R : Int} (hD : D_X9_intervalTo_28 x3 σ = some R) : Ev G M_X9_intervalTo 28 [(3, vi x3)] [] σ (.inl (some (vi R))) σ := by
  unfold D_X9_intervalTo_28 at hD
  refine ev_iload_n dX9_intervalTo_28 0 rfl rfl ?_
  cases hD
  exact ev_ret (some (vi _)) dX9_intervalTo_29 True.intro
def D_X9_intervalTo (x0 : Nat) (x1 : Int) (x2 : Int) (σ : mS) : Option Int :=
  (D_X9_intervalTo_2 mFU x0 x1 x2 σ).bind fun r1 =>
  D_X9_intervalTo_28 r1 σ
set_option maxRecDepth 100000 in
set_option maxHeartbeats 4000000 in
theorem lk_X9_intervalTo {G : mG} {x0 : Nat} {x1 : Int} {x2 : Int} {σ : mS} {R : Int} (hD : D_X9_intervalTo x0 x1 x2 σ = some R) : Ev G M_X9_intervalTo 0 [(0, vr x0), (1, vi x1), (2, vi x2)] [] σ (.inl (some (vi R))) σ := by
  unfold D_X9_intervalTo at hD
  refine ev_iload_n dX9_intervalTo_0 2 rfl rfl ?_
  refine ev_istore_n dX9_intervalTo_1 rfl (Nat.le_of_ble_eq_true rfl) rfl ?_
  obtain ⟨r1, g, hD⟩ := bd hD
  refine Ev.pick [1, 2, 0] rfl ?_
  refine lk_X9_intervalTo_2 mFU g ?_
  exact lk_X9_intervalTo_28 hD
theorem ct_X9_intervalTo {G : mG} {x0 : Nat} {x1 : Int} {x2 : Int} {σ : mS} {R : Int} (hD : D_X9_intervalTo x0 x1 x2 σ = some R) : Ct G M_X9_intervalTo [vr x0, vi x1, vi x2] σ (.inl (some (vi R))) σ := ct_of rfl (by decide +kernel) rfl (Nat.le_of_ble_eq_true rfl) rfl (lk_X9_intervalTo hD)
def D_X9_interval_70 (σ : mS) : Option (Int × mS) :=
  some (0, σ)
set_option maxRecDepth 100000 in
set_option maxHeartbeats 4000000 in
theorem lk_X9_interval_70 {G : mG} {σ : mS} {R : (Int × mS)} (hD : D_X9_interval_70  σ = some R) : Ev G M_X9_interval 70 [] [] σ (.inl (some (vi R.1))) R.2 := by
  unfold D_X9_interval_70 at hD
  refine ev_iconst dX9_interval_70 (mi_c rfl) ?_
  cases hD
  exact ev_ret (some (vi _)) dX9_interval_71 True.intro
def D_X9_interval_88 (y0 : Int) (σ : mS) : Option (Int × mS) :=
  some (y0, σ)
set_option maxRecDepth 100000 in
set_option maxHeartbeats 4000000 in
theorem lk_X9_interval_88 {G : mG} {y0 : Int} {σ : mS} {R : (Int × mS)} (hD : D_X9_interval_88 y0 σ = some R) : Ev G M_X9_interval 88 [] [vi y0] σ (.inl (some (vi R.1))) R.2 := by
  unfold D_X9_interval_88 at hD
  cases hD
  exact ev_ret (some (vi _)) dX9_interval_88 True.intro
def D_X9_interval_47 (x0 : Nat) (x1 : Int) (x3 : Int) (x4 : Int) (y0 : Int) (y1 : Nat) (σ : mS) : Option (Int × mS) :=
  (tgO σ y1 8).bind fun _ =>
  (D_X9_isFine y1 y0 1 0 σ).bind fun r1 =>
  if r1.1 = 0 then
    D_X9_interval_70  r1.2
  else
    (D_X9_within x3 0 1 r1.2).bind fun r2 =>
    (tgO r1.2 x0 8).bind fun _ =>
    (D_X9_isFine x0 r2 2 1 r1.2).bind fun r3 =>
    if r3.1 ≠ 0 then
      if x3 ≠ 0 then
        (tgO r3.2 x0 8).bind fun _ =>
        (D_X9_intervalTo x0 x1 x4 r3.2).bind fun r4 =>
        D_X9_interval_88 r4 r3.2
      else
        D_X9_interval_88 x4 r3.2
    else
      D_X9_interval_70  r3.2
set_option maxRecDepth 100000 in
set_option maxHeartbeats 4000000 in
theorem lk_X9_interval_47 {G : mG} {x0 : Nat} {x1 : Int} {x3 : Int} {x4 : Int} {y0 : Int} {y1 : Nat} {σ : mS} {R : (Int × mS)} (hD : D_X9_interval_47 x0 x1 x3 x4 y0 y1 σ = some R) : Ev G M_X9_interval 47 [(0, vr x0), (1, vi x1), (3, vi x3), (4, vi x4)] [vi y0, vr y1] σ (.inl (some (vi R.1))) R.2 := by
  unfold D_X9_interval_47 at hD
  refine ev_iconst dX9_interval_47 (mi_c rfl) ?_
  refine ev_iconst dX9_interval_48 (mi_c rfl) ?_
  obtain ⟨_, g0, hD⟩ := bd hD
  obtain ⟨r1, g, hD⟩ := bd hD
  refine ew_callVv (as := [vi y0, vi 1, vi 0]) (a := y1) (rest := []) dX9_interval_49 v_X9_isFine w_1441 rfl (Nat.le_of_ble_eq_true rfl) rfl rfl g0 (Nat.le_of_ble_eq_true rfl) (Nat.le_of_ble_eq_true rfl) (ct_X9_isFine g) ?_
  by_cases c : r1.1 = 0
  · rw [if_pos c] at hD
    refine ev_if_eq_t (tgt := 70) dX9_interval_52 (by decide) c ?_
    refine Ev.pick [] rfl ?_
    exact lk_X9_interval_70 hD
  · rw [if_neg c] at hD
    refine ev_if_eq_f 70 dX9_interval_52 (by decide) c ?_
    refine ev_aload_n dX9_interval_55 0 rfl rfl ?_
    refine ev_iload_n dX9_interval_56 2 rfl rfl ?_
    refine ev_iconst dX9_interval_57 (mi_c rfl) ?_
    refine ev_iconst dX9_interval_58 (mi_c rfl) ?_
    obtain ⟨r2, g, hD⟩ := bd hD
    refine ew_callSv (as := [vi x3, vi 0, vi 1]) (rest := [vr x0]) dX9_interval_59 v_X9_within w_1438 rfl (Nat.le_of_ble_eq_true rfl) (Nat.le_of_ble_eq_true rfl) (Nat.le_of_ble_eq_true rfl) (ct_X9_within g) ?_
    refine ev_iconst dX9_interval_62 (mi_c rfl) ?_
    refine ev_iconst dX9_interval_63 (mi_c rfl) ?_
    obtain ⟨_, g0, hD⟩ := bd hD
    obtain ⟨r3, g, hD⟩ := bd hD
    refine ew_callVv (as := [vi r2, vi 2, vi 1]) (a := x0) (rest := []) dX9_interval_64 v_X9_isFine w_1441 rfl (Nat.le_of_ble_eq_true rfl) rfl rfl g0 (Nat.le_of_ble_eq_true rfl) (Nat.le_of_ble_eq_true rfl) (ct_X9_isFine g) ?_
    by_cases c : r3.1 ≠ 0
    · rw [if_pos c] at hD
      refine ev_if_ne_t (tgt := 72) dX9_interval_67 (by decide) c ?_
      refine ev_iload_n dX9_interval_72 2 rfl rfl ?_
      by_cases c : x3 ≠ 0
      · rw [if_pos c] at hD
        refine ev_if_ne_t (tgt := 81) dX9_interval_73 (by decide) c ?_
        refine ev_aload_n dX9_interval_81 0 rfl rfl ?_
        refine ev_iload_n dX9_interval_82 1 rfl rfl ?_
        refine ev_iload dX9_interval_83 3 rfl ?_
        obtain ⟨_, g0, hD⟩ := bd hD
        obtain ⟨r4, g, hD⟩ := bd hD
        refine ew_callVv (as := [vi x1, vi x4]) (a := x0) (rest := []) dX9_interval_85 v_X9_intervalTo w_1755 rfl (Nat.le_of_ble_eq_true rfl) rfl rfl g0 (Nat.le_of_ble_eq_true rfl) (Nat.le_of_ble_eq_true rfl) (ct_X9_intervalTo g) ?_
        refine Ev.pick [] rfl ?_
        exact lk_X9_interval_88 hD
      · rw [if_neg c] at hD
        refine ev_if_ne_f 81 dX9_interval_73 (by decide) c ?_
        refine ev_iload dX9_interval_76 3 rfl ?_
        refine ev_goto (tgt := 88) dX9_interval_78 (by decide) ?_
        refine Ev.pick [] rfl ?_
        exact lk_X9_interval_88 hD
    · rw [if_neg c] at hD
      refine ev_if_ne_f 72 dX9_interval_67 (by decide) c ?_
      refine Ev.pick [] rfl ?_
      exact lk_X9_interval_70 hD
def D_X9_interval_33 (x0 : Nat) (x1 : Int) (x3 : Int) (y0 : Int) (σ : mS) : Option (Int × mS) :=
  if y0 = ((-1)) then
    D_X9_interval_47 x0 x1 x3 y0 0 x0 σ
  else
    D_X9_interval_47 x0 x1 x3 y0 1 x0 σ
set_option maxRecDepth 100000 in
set_option maxHeartbeats 4000000 in
theorem lk_X9_interval_33 {G : mG} {x0 : Nat} {x1 : Int} {x3 : Int} {y0 : Int} {σ : mS} {R : (Int × mS)} (hD : D_X9_interval_33 x0 x1 x3 y0 σ = some R) : Ev G M_X9_interval 33 [(0, vr x0), (1, vi x1), (3, vi x3)] [vi y0] σ (.inl (some (vi R.1))) R.2 := by
  unfold D_X9_interval_33 at hD
  refine ev_istore dX9_interval_33 (Nat.le_of_ble_eq_true rfl) rfl ?_
  refine ev_aload_n dX9_interval_35 1 rfl rfl ?_
  refine ev_iload dX9_interval_36 0 rfl ?_
  refine ev_iconst dX9_interval_38 (mi_c rfl) ?_
  by_cases c : y0 = ((-1))
  · rw [if_pos c] at hD
    refine ev_icmp_eq_t (tgt := 46) dX9_interval_39 (by decide) c ?_
    refine ev_iconst dX9_interval_46 (mi_c rfl) ?_
    refine Ev.pick [1, 2, 3, 0] rfl ?_
    exact lk_X9_interval_47 hD
  · rw [if_neg c] at hD
    refine ev_icmp_eq_f 46 dX9_interval_39 (by decide) c ?_
    refine ev_iconst dX9_interval_42 (mi_c rfl) ?_
    refine ev_goto (tgt := 47) dX9_interval_43 (by decide) ?_
    refine Ev.pick [1, 2, 3, 0] rfl ?_
    exact lk_X9_interval_47 hD
def D_X9_interval (x0 : Nat) (x1 : Int) (x2 : Int) (x3 : Int) (σ : mS) : Option (Int × mS) :=
  (pI σ x0 8 0 0).bind fun s1 =>
  (tgO s1 x0 8).bind fun _ =>
  (D_X9_isSample x0 x1 s1).bind fun r2 =>
  if r2.1 ≠ 0 then
    (tgO r2.2 x0 8).bind fun _ =>
    (D_X9_lays x0 r2.2).bind fun r3 =>
    if 0 ≤ x2 then
      (tgO r3 x0 8).bind fun _ =>
      (D_X9_intervalFrom x0 x1 x2 r3).bind fun r4 =>
      D_X9_interval_33 x0 x1 x3 r4 r3
    else
      D_X9_interval_33 x0 x1 x3 ((-1)) r3
  else
    some (0, r2.2)
set_option maxRecDepth 100000 in
set_option maxHeartbeats 4000000 in
theorem lk_X9_interval {G : mG} {x0 : Nat} {x1 : Int} {x2 : Int} {x3 : Int} {σ : mS} {R : (Int × mS)} (hD : D_X9_interval x0 x1 x2 x3 σ = some R) : Ev G M_X9_interval 0 [(0, vr x0), (1, vi x1), (2, vi x2), (3, vi x3)] [] σ (.inl (some (vi R.1))) R.2 := by
  unfold D_X9_interval at hD
  refine ev_aload_n dX9_interval_0 0 rfl rfl ?_
  refine ev_iconst dX9_interval_1 (mi_c rfl) ?_
  obtain ⟨s1, g, hD⟩ := bd hD
  refine ew_putI 8 0 dX9_interval_2 rfl (Nat.le_of_ble_eq_true rfl) w_1265 in_X9 tyX9_ok nmX9 (Or.inl rfl) rfl g ?_
  refine ev_aload_n dX9_interval_5 0 rfl rfl ?_
  refine ev_iload_n dX9_interval_6 1 rfl rfl ?_
  obtain ⟨_, g0, hD⟩ := bd hD
  obtain ⟨r2, g, hD⟩ := bd hD
  refine ew_callVv (as := [vi x1]) (a := x0) (rest := []) dX9_interval_7 v_X9_isSample w_1593 rfl (Nat.le_of_ble_eq_true rfl) rfl rfl g0 (Nat.le_of_ble_eq_true rfl) (Nat.le_of_ble_eq_true rfl) (ct_X9_isSample g) ?_
  by_cases c : r2.1 ≠ 0
  · rw [if_pos c] at hD
    refine ev_if_ne_t (tgt := 15) dX9_interval_10 (by decide) c ?_
    refine ev_aload_n dX9_interval_15 0 rfl rfl ?_
    obtain ⟨_, g0, hD⟩ := bd hD
    obtain ⟨r3, g, hD⟩ := bd hD
    refine ew_callV0 (as := []) (a := x0) (rest := []) dX9_interval_16 v_X9_lays w_1621 rfl (Nat.le_of_ble_eq_true rfl) rfl rfl g0 (Nat.le_of_ble_eq_true rfl) (Nat.le_of_ble_eq_true rfl) (ct_X9_lays g) ?_
    refine ev_iload_n dX9_interval_19 2 rfl rfl ?_
    by_cases c : 0 ≤ x2
    · rw [if_pos c] at hD
      refine ev_if_ge_t (tgt := 27) dX9_interval_20 (by decide) c ?_
      refine ev_aload_n dX9_interval_27 0 rfl rfl ?_
      refine ev_iload_n dX9_interval_28 1 rfl rfl ?_
      refine ev_iload_n dX9_interval_29 2 rfl rfl ?_
      obtain ⟨_, g0, hD⟩ := bd hD
      obtain ⟨r4, g, hD⟩ := bd hD
      refine ew_callVv (as := [vi x1, vi x2]) (a := x0) (rest := []) dX9_interval_30 v_X9_intervalFrom w_1751 rfl (Nat.le_of_ble_eq_true rfl) rfl rfl g0 (Nat.le_of_ble_eq_true rfl) (Nat.le_of_ble_eq_true rfl) (ct_X9_intervalFrom g) ?_
      refine Ev.pick [0, 1, 3] rfl ?_
      exact lk_X9_interval_33 hD
    · rw [if_neg c] at hD
      refine ev_if_ge_f 27 dX9_interval_20 (by decide) c ?_
      refine ev_iconst dX9_interval_23 (mi_c rfl) ?_
      refine ev_goto (tgt := 33) dX9_interval_24 (by decide) ?_
      refine Ev.pick [0, 1, 3] rfl ?_
      exact lk_X9_interval_33 hD
  · rw [if_neg c] at hD
    refine ev_if_ne_f 15 dX9_interval_10 (by decide) c ?_
    refine ev_iconst dX9_interval_13 (mi_c rfl) ?_
    cases hD
    exact ev_ret (some (vi _)) dX9_interval_14 True.intro
theorem ct_X9_interval {G : mG} {x0 : Nat} {x1 : Int} {x2 : Int} {x3 : Int} {σ : mS} {R : (Int × mS)} (hD : D_X9_interval x0 x1 x2 x3 σ = some R) : Ct G M_X9_interval [vr x0, vi x1, vi x2, vi x3] σ (.inl (some (vi R.1))) R.2 := ct_of rfl (by decide +kernel) rfl (Nat.le_of_ble_eq_true rfl) rfl (lk_X9_interval hD)
def D_X9_misfit_31 (y0 : Int) (σ : mS) : Option (Int × mS) :=
  some (y0, σ)
set_option maxRecDepth 100000 in
set_option maxHeartbeats 4000000 in
theorem lk_X9_misfit_31 {G : mG} {y0 : Int} {σ : mS} {R : (Int × mS)} (hD : D_X9_misfit_31 y0 σ = some R) : Ev G M_X9_misfit 31 [] [vi y0] σ (.inl (some (vi R.1))) R.2 := by
  unfold D_X9_misfit_31 at hD
  cases hD
  exact ev_ret (some (vi _)) dX9_misfit_31 True.intro
def D_X9_misfit_30 (σ : mS) : Option (Int × mS) :=
  D_X9_misfit_31 0 σ
set_option maxRecDepth 100000 in
set_option maxHeartbeats 4000000 in
theorem lk_X9_misfit_30 {G : mG} {σ : mS} {R : (Int × mS)} (hD : D_X9_misfit_30  σ = some R) : Ev G M_X9_misfit 30 [] [] σ (.inl (some (vi R.1))) R.2 := by
  unfold D_X9_misfit_30 at hD
  refine ev_iconst dX9_misfit_30 (mi_c rfl) ?_
  exact lk_X9_misfit_31 hD
def D_X9_misfit (x0 : Nat) (x1 : Int) (x2 : Int) (σ : mS) : Option (Int × mS) :=
  (pI σ x0 8 0 0).bind fun s1 =>
  (tgO s1 x0 8).bind fun _ =>
  (D_X9_isSample x0 x1 s1).bind fun r2 =>
  if r2.1 = 0 then
    D_X9_misfit_30  r2.2
  else
    (tgO r2.2 x0 8).bind fun _ =>
    (D_X9_isYear x0 x2 r2.2).bind fun r3 =>
    if r3.1 = 0 then
      D_X9_misfit_30  r3.2
    else
      (tgO r3.2 x0 8).bind fun _ =>
      (D_X9_misfitOf x0 x1 x2 r3.2).bind fun r4 =>
      D_X9_misfit_31 r4 r3.2
set_option maxRecDepth 100000 in
set_option maxHeartbeats 4000000 in
theorem lk_X9_misfit {G : mG} {x0 : Nat} {x1 : Int} {x2 : Int} {σ : mS} {R : (Int × mS)} (hD : D_X9_misfit x0 x1 x2 σ = some R) : Ev G M_X9_misfit 0 [(0, vr x0), (1, vi x1), (2, vi x2)] [] σ (.inl (some (vi R.1))) R.2 := by
  unfold D_X9_misfit at hD
  refine ev_aload_n dX9_misfit_0 0 rfl rfl ?_
  refine ev_iconst dX9_misfit_1 (mi_c rfl) ?_
  obtain ⟨s1, g, hD⟩ := bd hD
  refine ew_putI 8 0 dX9_misfit_2 rfl (Nat.le_of_ble_eq_true rfl) w_1265 in_X9 tyX9_ok nmX9 (Or.inl rfl) rfl g ?_
  refine ev_aload_n dX9_misfit_5 0 rfl rfl ?_
  refine ev_iload_n dX9_misfit_6 1 rfl rfl ?_
  obtain ⟨_, g0, hD⟩ := bd hD
  obtain ⟨r2, g, hD⟩ := bd hD
  refine ew_callVv (as := [vi x1]) (a := x0) (rest := []) dX9_misfit_7 v_X9_isSample w_1593 rfl (Nat.le_of_ble_eq_true rfl) rfl rfl g0 (Nat.le_of_ble_eq_true rfl) (Nat.le_of_ble_eq_true rfl) (ct_X9_isSample g) ?_
  by_cases c : r2.1 = 0
  · rw [if_pos c] at hD
    refine ev_if_eq_t (tgt := 30) dX9_misfit_10 (by decide) c ?_
    refine Ev.pick [] rfl ?_
    exact lk_X9_misfit_30 hD
  · rw [if_neg c] at hD
    refine ev_if_eq_f 30 dX9_misfit_10 (by decide) c ?_
    refine ev_aload_n dX9_misfit_13 0 rfl rfl ?_
    refine ev_iload_n dX9_misfit_14 2 rfl rfl ?_
    obtain ⟨_, g0, hD⟩ := bd hD
    obtain ⟨r3, g, hD⟩ := bd hD
    refine ew_callVv (as := [vi x2]) (a := x0) (rest := []) dX9_misfit_15 v_X9_isYear w_1711 rfl (Nat.le_of_ble_eq_true rfl) rfl rfl g0 (Nat.le_of_ble_eq_true rfl) (Nat.le_of_ble_eq_true rfl) (ct_X9_isYear g) ?_
    by_cases c : r3.1 = 0
    · rw [if_pos c] at hD
      refine ev_if_eq_t (tgt := 30) dX9_misfit_18 (by decide) c ?_
      refine Ev.pick [] rfl ?_
      exact lk_X9_misfit_30 hD
    · rw [if_neg c] at hD
      refine ev_if_eq_f 30 dX9_misfit_18 (by decide) c ?_
      refine ev_aload_n dX9_misfit_21 0 rfl rfl ?_
      refine ev_iload_n dX9_misfit_22 1 rfl rfl ?_
      refine ev_iload_n dX9_misfit_23 2 rfl rfl ?_
      obtain ⟨_, g0, hD⟩ := bd hD
      obtain ⟨r4, g, hD⟩ := bd hD
      refine ew_callVv (as := [vi x1, vi x2]) (a := x0) (rest := []) dX9_misfit_24 v_X9_misfitOf w_1633 rfl (Nat.le_of_ble_eq_true rfl) rfl rfl g0 (Nat.le_of_ble_eq_true rfl) (Nat.le_of_ble_eq_true rfl) (ct_X9_misfitOf g) ?_
      refine ev_goto (tgt := 31) dX9_misfit_27 (by decide) ?_
      refine Ev.pick [] rfl ?_
      exact lk_X9_misfit_31 hD
theorem ct_X9_misfit {G : mG} {x0 : Nat} {x1 : Int} {x2 : Int} {σ : mS} {R : (Int × mS)} (hD : D_X9_misfit x0 x1 x2 σ = some R) : Ct G M_X9_misfit [vr x0, vi x1, vi x2] σ (.inl (some (vi R.1))) R.2 := ct_of rfl (by decide +kernel) rfl (Nat.le_of_ble_eq_true rfl) rfl (lk_X9_misfit hD)
def D_X9_place_21 (σ : mS) : Option (Int × mS) :=
  some (0, σ)
set_option maxRecDepth 100000 in
set_option maxHeartbeats 4000000 in
theorem lk_X9_place_21 {G : mG} {σ : mS} {R : (Int × mS)} (hD : D_X9_place_21  σ = some R) : Ev G M_X9_place 21 [] [] σ (.inl (some (vi R.1))) R.2 := by
  unfold D_X9_place_21 at hD
  refine ev_iconst dX9_place_21 (mi_c rfl) ?_
  cases hD
  exact ev_ret (some (vi _)) dX9_place_22 True.intro
def D_X9_place_58 (y0 : Int) (σ : mS) : Option (Int × mS) :=
  some (y0, σ)
set_option maxRecDepth 100000 in
set_option maxHeartbeats 4000000 in
theorem lk_X9_place_58 {G : mG} {y0 : Int} {σ : mS} {R : (Int × mS)} (hD : D_X9_place_58 y0 σ = some R) : Ev G M_X9_place 58 [] [vi y0] σ (.inl (some (vi R.1))) R.2 := by
  unfold D_X9_place_58 at hD
  cases hD
  exact ev_ret (some (vi _)) dX9_place_58 True.intro
def D_X9_place (x0 : Nat) (x1 : Int) (x2 : Int) (σ : mS) : Option (Int × mS) :=
  (pI σ x0 8 0 0).bind fun s1 =>
  (tgO s1 x0 8).bind fun _ =>
  (D_X9_isSample x0 x1 s1).bind fun r2 =>
  if r2.1 = 0 then
    D_X9_place_21  r2.2
  else
    (tgO r2.2 x0 8).bind fun _ =>
    (D_X9_isYear x0 x2 r2.2).bind fun r3 =>
    if r3.1 ≠ 0 then
      (tgO r3.2 x0 8).bind fun _ =>
      (D_X9_lays x0 r3.2).bind fun r4 =>
      (gR r4 x0 8 14).bind fun v5 =>
      (lR r4 v5 x1).bind fun v6 =>
      (lB r4 v6 x2).bind fun v7 =>
      if v7 = 0 then
        (gR r4 x0 8 13).bind fun v8 =>
        (lR r4 v8 x1).bind fun v9 =>
        (lB r4 v9 x2).bind fun v10 =>
        if v10 = 0 then
          D_X9_place_58 0 r4
        else
          D_X9_place_58 1 r4
      else
        D_X9_place_58 3 r4
    else
      D_X9_place_21  r3.2
set_option maxRecDepth 100000 in
set_option maxHeartbeats 4000000 in
theorem lk_X9_place {G : mG} {x0 : Nat} {x1 : Int} {x2 : Int} {σ : mS} {R : (Int × mS)} (hD : D_X9_place x0 x1 x2 σ = some R) : Ev G M_X9_place 0 [(0, vr x0), (1, vi x1), (2, vi x2)] [] σ (.inl (some (vi R.1))) R.2 := by
  unfold D_X9_place at hD
  refine ev_aload_n dX9_place_0 0 rfl rfl ?_
  refine ev_iconst dX9_place_1 (mi_c rfl) ?_
  obtain ⟨s1, g, hD⟩ := bd hD
  refine ew_putI 8 0 dX9_place_2 rfl (Nat.le_of_ble_eq_true rfl) w_1265 in_X9 tyX9_ok nmX9 (Or.inl rfl) rfl g ?_
  refine ev_aload_n dX9_place_5 0 rfl rfl ?_
  refine ev_iload_n dX9_place_6 1 rfl rfl ?_
  obtain ⟨_, g0, hD⟩ := bd hD
  obtain ⟨r2, g, hD⟩ := bd hD
  refine ew_callVv (as := [vi x1]) (a := x0) (rest := []) dX9_place_7 v_X9_isSample w_1593 rfl (Nat.le_of_ble_eq_true rfl) rfl rfl g0 (Nat.le_of_ble_eq_true rfl) (Nat.le_of_ble_eq_true rfl) (ct_X9_isSample g) ?_
  by_cases c : r2.1 = 0
  · rw [if_pos c] at hD
    refine ev_if_eq_t (tgt := 21) dX9_place_10 (by decide) c ?_
    refine Ev.pick [] rfl ?_
    exact lk_X9_place_21 hD
  · rw [if_neg c] at hD
    refine ev_if_eq_f 21 dX9_place_10 (by decide) c ?_
    refine ev_aload_n dX9_place_13 0 rfl rfl ?_
    refine ev_iload_n dX9_place_14 2 rfl rfl ?_
    obtain ⟨_, g0, hD⟩ := bd hD
    obtain ⟨r3, g, hD⟩ := bd hD
    refine ew_callVv (as := [vi x2]) (a := x0) (rest := []) dX9_place_15 v_X9_isYear w_1711 rfl (Nat.le_of_ble_eq_true rfl) rfl rfl g0 (Nat.le_of_ble_eq_true rfl) (Nat.le_of_ble_eq_true rfl) (ct_X9_isYear g) ?_
    by_cases c : r3.1 ≠ 0
    · rw [if_pos c] at hD
      refine ev_if_ne_t (tgt := 23) dX9_place_18 (by decide) c ?_
      refine ev_aload_n dX9_place_23 0 rfl rfl ?_
      obtain ⟨_, g0, hD⟩ := bd hD
      obtain ⟨r4, g, hD⟩ := bd hD
      refine ew_callV0 (as := []) (a := x0) (rest := []) dX9_place_24 v_X9_lays w_1621 rfl (Nat.le_of_ble_eq_true rfl) rfl rfl g0 (Nat.le_of_ble_eq_true rfl) (Nat.le_of_ble_eq_true rfl) (ct_X9_lays g) ?_
      refine ev_aload_n dX9_place_27 0 rfl rfl ?_
      obtain ⟨v5, g, hD⟩ := bd hD
      refine ew_getR 8 14 dX9_place_28 rfl (Nat.le_of_ble_eq_true rfl) w_1279 in_X9 rfl g ?_
      refine ev_iload_n dX9_place_31 1 rfl rfl ?_
      obtain ⟨v6, g, hD⟩ := bd hD
      refine ew_aald dX9_place_32 g ?_
      refine ev_iload_n dX9_place_33 2 rfl rfl ?_
      obtain ⟨v7, g, hD⟩ := bd hD
      refine ew_bald dX9_place_34 g ?_
      by_cases c : v7 = 0
      · rw [if_pos c] at hD
        refine ev_if_eq_t (tgt := 42) dX9_place_35 (by decide) c ?_
        refine ev_aload_n dX9_place_42 0 rfl rfl ?_
        obtain ⟨v8, g, hD⟩ := bd hD
        refine ew_getR 8 13 dX9_place_43 rfl (Nat.le_of_ble_eq_true rfl) w_1278 in_X9 rfl g ?_
        refine ev_iload_n dX9_place_46 1 rfl rfl ?_
        obtain ⟨v9, g, hD⟩ := bd hD
        refine ew_aald dX9_place_47 g ?_
        refine ev_iload_n dX9_place_48 2 rfl rfl ?_
        obtain ⟨v10, g, hD⟩ := bd hD
        refine ew_bald dX9_place_49 g ?_
        by_cases c : v10 = 0
        · rw [if_pos c] at hD
          refine ev_if_eq_t (tgt := 57) dX9_place_50 (by decide) c ?_
          refine ev_iconst dX9_place_57 (mi_c rfl) ?_
          refine Ev.pick [] rfl ?_
          exact lk_X9_place_58 hD
        · rw [if_neg c] at hD
          refine ev_if_eq_f 57 dX9_place_50 (by decide) c ?_
          refine ev_iconst dX9_place_53 (mi_c rfl) ?_
          refine ev_goto (tgt := 58) dX9_place_54 (by decide) ?_
          refine Ev.pick [] rfl ?_
          exact lk_X9_place_58 hD
      · rw [if_neg c] at hD
        refine ev_if_eq_f 42 dX9_place_35 (by decide) c ?_
        refine ev_iconst dX9_place_38 (mi_c rfl) ?_
        refine ev_goto (tgt := 58) dX9_place_39 (by decide) ?_
        refine Ev.pick [] rfl ?_
        exact lk_X9_place_58 hD
    · rw [if_neg c] at hD
      refine ev_if_ne_f 23 dX9_place_18 (by decide) c ?_
      refine Ev.pick [] rfl ?_
      exact lk_X9_place_21 hD
theorem ct_X9_place {G : mG} {x0 : Nat} {x1 : Int} {x2 : Int} {σ : mS} {R : (Int × mS)} (hD : D_X9_place x0 x1 x2 σ = some R) : Ct G M_X9_place [vr x0, vi x1, vi x2] σ (.inl (some (vi R.1))) R.2 := ct_of rfl (by decide +kernel) rfl (Nat.le_of_ble_eq_true rfl) rfl (lk_X9_place hD)
def D_X9_rule_28 (σ : mS) : Option (Int × mS) :=
  some (0, σ)
set_option maxRecDepth 100000 in
set_option maxHeartbeats 4000000 in
theorem lk_X9_rule_28 {G : mG} {σ : mS} {R : (Int × mS)} (hD : D_X9_rule_28  σ = some R) : Ev G M_X9_rule 28 [] [] σ (.inl (some (vi R.1))) R.2 := by
  unfold D_X9_rule_28 at hD
  refine ev_iconst dX9_rule_28 (mi_c rfl) ?_
  cases hD
  exact ev_ret (some (vi _)) dX9_rule_29 True.intro
def D_X9_rule (x0 : Nat) (x1 : Int) (x2 : Int) (σ : mS) : Option (Int × mS) :=
  (pI σ x0 8 0 0).bind fun s1 =>
  (tgO s1 x0 8).bind fun _ =>
  (D_X9_isRule x0 x1 s1).bind fun r2 =>
  if r2.1 = 0 then
    D_X9_rule_28  r2.2
  else
    (D_X9_within x2 0 5 r2.2).bind fun r3 =>
    (tgO r2.2 x0 8).bind fun _ =>
    (D_X9_isFine x0 r3 2 1 r2.2).bind fun r4 =>
    if r4.1 ≠ 0 then
      if 5 ≤ x2 then
        (tgO r4.2 x0 8).bind fun _ =>
        (D_X9_lays x0 r4.2).bind fun r5 =>
        (gR r5 x0 8 25).bind fun v6 =>
        (lI r5 v6 x1).bind fun v7 =>
        some (v7, r5)
      else
        (tgO r4.2 x0 8).bind fun _ =>
        (D_X9_ruleAt x0 x1 x2 r4.2).bind fun r8 =>
        some (r8, r4.2)
    else
      D_X9_rule_28  r4.2
set_option maxRecDepth 100000 in
set_option maxHeartbeats 4000000 in
theorem lk_X9_rule {G : mG} {x0 : Nat} {x1 : Int} {x2 : Int} {σ : mS} {R : (Int × mS)} (hD : D_X9_rule x0 x1 x2 σ = some R) : Ev G M_X9_rule 0 [(0, vr x0), (1, vi x1), (2, vi x2)] [] σ (.inl (some (vi R.1))) R.2 := by
  unfold D_X9_rule at hD
  refine ev_aload_n dX9_rule_0 0 rfl rfl ?_
  refine ev_iconst dX9_rule_1 (mi_c rfl) ?_
  obtain ⟨s1, g, hD⟩ := bd hD
  refine ew_putI 8 0 dX9_rule_2 rfl (Nat.le_of_ble_eq_true rfl) w_1265 in_X9 tyX9_ok nmX9 (Or.inl rfl) rfl g ?_
  refine ev_aload_n dX9_rule_5 0 rfl rfl ?_
  refine ev_iload_n dX9_rule_6 1 rfl rfl ?_
  obtain ⟨_, g0, hD⟩ := bd hD
  obtain ⟨r2, g, hD⟩ := bd hD
  refine ew_callVv (as := [vi x1]) (a := x0) (rest := []) dX9_rule_7 v_X9_isRule w_1617 rfl (Nat.le_of_ble_eq_true rfl) rfl rfl g0 (Nat.le_of_ble_eq_true rfl) (Nat.le_of_ble_eq_true rfl) (ct_X9_isRule g) ?_
  by_cases c : r2.1 = 0
  · rw [if_pos c] at hD
    refine ev_if_eq_t (tgt := 28) dX9_rule_10 (by decide) c ?_
    refine Ev.pick [] rfl ?_
    exact lk_X9_rule_28 hD
  · rw [if_neg c] at hD
    refine ev_if_eq_f 28 dX9_rule_10 (by decide) c ?_
    refine ev_aload_n dX9_rule_13 0 rfl rfl ?_
    refine ev_iload_n dX9_rule_14 2 rfl rfl ?_
    refine ev_iconst dX9_rule_15 (mi_c rfl) ?_
    refine ev_iconst dX9_rule_16 (mi_c rfl) ?_
    obtain ⟨r3, g, hD⟩ := bd hD
    refine ew_callSv (as := [vi x2, vi 0, vi 5]) (rest := [vr x0]) dX9_rule_17 v_X9_within w_1438 rfl (Nat.le_of_ble_eq_true rfl) (Nat.le_of_ble_eq_true rfl) (Nat.le_of_ble_eq_true rfl) (ct_X9_within g) ?_
    refine ev_iconst dX9_rule_20 (mi_c rfl) ?_
    refine ev_iconst dX9_rule_21 (mi_c rfl) ?_
    obtain ⟨_, g0, hD⟩ := bd hD
    obtain ⟨r4, g, hD⟩ := bd hD
    refine ew_callVv (as := [vi r3, vi 2, vi 1]) (a := x0) (rest := []) dX9_rule_22 v_X9_isFine w_1441 rfl (Nat.le_of_ble_eq_true rfl) rfl rfl g0 (Nat.le_of_ble_eq_true rfl) (Nat.le_of_ble_eq_true rfl) (ct_X9_isFine g) ?_
    by_cases c : r4.1 ≠ 0
    · rw [if_pos c] at hD
      refine ev_if_ne_t (tgt := 30) dX9_rule_25 (by decide) c ?_
      refine ev_iload_n dX9_rule_30 2 rfl rfl ?_
      refine ev_iconst dX9_rule_31 (mi_c rfl) ?_
      by_cases c : 5 ≤ x2
      · rw [if_pos c] at hD
        refine ev_icmp_ge_t (tgt := 42) dX9_rule_32 (by decide) c ?_
        refine ev_aload_n dX9_rule_42 0 rfl rfl ?_
        obtain ⟨_, g0, hD⟩ := bd hD
        obtain ⟨r5, g, hD⟩ := bd hD
        refine ew_callV0 (as := []) (a := x0) (rest := []) dX9_rule_43 v_X9_lays w_1621 rfl (Nat.le_of_ble_eq_true rfl) rfl rfl g0 (Nat.le_of_ble_eq_true rfl) (Nat.le_of_ble_eq_true rfl) (ct_X9_lays g) ?_
        refine ev_aload_n dX9_rule_46 0 rfl rfl ?_
        obtain ⟨v6, g, hD⟩ := bd hD
        refine ew_getR 8 25 dX9_rule_47 rfl (Nat.le_of_ble_eq_true rfl) w_1290 in_X9 rfl g ?_
        refine ev_iload_n dX9_rule_50 1 rfl rfl ?_
        obtain ⟨v7, g, hD⟩ := bd hD
        refine ew_iald dX9_rule_51 g ?_
        cases hD
        exact ev_ret (some (vi _)) dX9_rule_52 True.intro
      · rw [if_neg c] at hD
        refine ev_icmp_ge_f 42 dX9_rule_32 (by decide) c ?_
        refine ev_aload_n dX9_rule_35 0 rfl rfl ?_
        refine ev_iload_n dX9_rule_36 1 rfl rfl ?_
        refine ev_iload_n dX9_rule_37 2 rfl rfl ?_
        obtain ⟨_, g0, hD⟩ := bd hD
        obtain ⟨r8, g, hD⟩ := bd hD
        refine ew_callVv (as := [vi x1, vi x2]) (a := x0) (rest := []) dX9_rule_38 v_X9_ruleAt w_1658 rfl (Nat.le_of_ble_eq_true rfl) rfl rfl g0 (Nat.le_of_ble_eq_true rfl) (Nat.le_of_ble_eq_true rfl) (ct_X9_ruleAt g) ?_
        cases hD
        exact ev_ret (some (vi _)) dX9_rule_41 True.intro
    · rw [if_neg c] at hD
      refine ev_if_ne_f 30 dX9_rule_25 (by decide) c ?_
      refine Ev.pick [] rfl ?_
      exact lk_X9_rule_28 hD
theorem ct_X9_rule {G : mG} {x0 : Nat} {x1 : Int} {x2 : Int} {σ : mS} {R : (Int × mS)} (hD : D_X9_rule x0 x1 x2 σ = some R) : Ct G M_X9_rule [vr x0, vi x1, vi x2] σ (.inl (some (vi R.1))) R.2 := ct_of rfl (by decide +kernel) rfl (Nat.le_of_ble_eq_true rfl) rfl (lk_X9_rule hD)
def D_X9_clash_53 (y0 : Int) (σ : mS) : Option (Int × mS) :=
  some (y0, σ)
set_option maxRecDepth 100000 in
set_option maxHeartbeats 4000000 in
theorem lk_X9_clash_53 {G : mG} {y0 : Int} {σ : mS} {R : (Int × mS)} (hD : D_X9_clash_53 y0 σ = some R) : Ev G M_X9_clash 53 [] [vi y0] σ (.inl (some (vi R.1))) R.2 := by
  unfold D_X9_clash_53 at hD
  cases hD
  exact ev_ret (some (vi _)) dX9_clash_53 True.intro
def D_X9_clash (x0 : Nat) (x1 : Int) (σ : mS) : Option (Int × mS) :=
  (pI σ x0 8 0 0).bind fun s1 =>
  (D_X9_within x1 0 1 s1).bind fun r2 =>
  (tgO s1 x0 8).bind fun _ =>
  (D_X9_isFine x0 r2 1 1 s1).bind fun r3 =>
  if r3.1 ≠ 0 then
    (tgO r3.2 x0 8).bind fun _ =>
    (D_X9_lays x0 r3.2).bind fun r4 =>
    (gI r4 x0 8 24).bind fun v5 =>
    if v5 ≠ 0 then
      if x1 ≠ 0 then
        (gI r4 x0 8 22).bind fun v6 =>
        D_X9_clash_53 v6 r4
      else
        (gI r4 x0 8 21).bind fun v7 =>
        D_X9_clash_53 v7 r4
    else
      D_X9_clash_53 (-2) r4
  else
    some (0, r3.2)
set_option maxRecDepth 100000 in
set_option maxHeartbeats 4000000 in
theorem lk_X9_clash {G : mG} {x0 : Nat} {x1 : Int} {σ : mS} {R : (Int × mS)} (hD : D_X9_clash x0 x1 σ = some R) : Ev G M_X9_clash 0 [(0, vr x0), (1, vi x1)] [] σ (.inl (some (vi R.1))) R.2 := by
  unfold D_X9_clash at hD
  refine ev_aload_n dX9_clash_0 0 rfl rfl ?_
  refine ev_iconst dX9_clash_1 (mi_c rfl) ?_
  obtain ⟨s1, g, hD⟩ := bd hD
  refine ew_putI 8 0 dX9_clash_2 rfl (Nat.le_of_ble_eq_true rfl) w_1265 in_X9 tyX9_ok nmX9 (Or.inl rfl) rfl g ?_
  refine ev_aload_n dX9_clash_5 0 rfl rfl ?_
  refine ev_iload_n dX9_clash_6 1 rfl rfl ?_
  refine ev_iconst dX9_clash_7 (mi_c rfl) ?_
  refine ev_iconst dX9_clash_8 (mi_c rfl) ?_
  obtain ⟨r2, g, hD⟩ := bd hD
  refine ew_callSv (as := [vi x1, vi 0, vi 1]) (rest := [vr x0]) dX9_clash_9 v_X9_within w_1438 rfl (Nat.le_of_ble_eq_true rfl) (Nat.le_of_ble_eq_true rfl) (Nat.le_of_ble_eq_true rfl) (ct_X9_within g) ?_
  refine ev_iconst dX9_clash_12 (mi_c rfl) ?_
  refine ev_iconst dX9_clash_13 (mi_c rfl) ?_
  obtain ⟨_, g0, hD⟩ := bd hD
  obtain ⟨r3, g, hD⟩ := bd hD
  refine ew_callVv (as := [vi r2, vi 1, vi 1]) (a := x0) (rest := []) dX9_clash_14 v_X9_isFine w_1441 rfl (Nat.le_of_ble_eq_true rfl) rfl rfl g0 (Nat.le_of_ble_eq_true rfl) (Nat.le_of_ble_eq_true rfl) (ct_X9_isFine g) ?_
  by_cases c : r3.1 ≠ 0
  · rw [if_pos c] at hD
    refine ev_if_ne_t (tgt := 22) dX9_clash_17 (by decide) c ?_
    refine ev_aload_n dX9_clash_22 0 rfl rfl ?_
    obtain ⟨_, g0, hD⟩ := bd hD
    obtain ⟨r4, g, hD⟩ := bd hD
    refine ew_callV0 (as := []) (a := x0) (rest := []) dX9_clash_23 v_X9_lays w_1621 rfl (Nat.le_of_ble_eq_true rfl) rfl rfl g0 (Nat.le_of_ble_eq_true rfl) (Nat.le_of_ble_eq_true rfl) (ct_X9_lays g) ?_
    refine ev_aload_n dX9_clash_26 0 rfl rfl ?_
    obtain ⟨v5, g, hD⟩ := bd hD
    refine ew_getI 8 24 dX9_clash_27 rfl (Nat.le_of_ble_eq_true rfl) w_1289 in_X9 rfl g ?_
    by_cases c : v5 ≠ 0
    · rw [if_pos c] at hD
      refine ev_if_ne_t (tgt := 38) dX9_clash_30 (by decide) c ?_
      refine ev_iload_n dX9_clash_38 1 rfl rfl ?_
      by_cases c : x1 ≠ 0
      · rw [if_pos c] at hD
        refine ev_if_ne_t (tgt := 49) dX9_clash_39 (by decide) c ?_
        refine ev_aload_n dX9_clash_49 0 rfl rfl ?_
        obtain ⟨v6, g, hD⟩ := bd hD
        refine ew_getI 8 22 dX9_clash_50 rfl (Nat.le_of_ble_eq_true rfl) w_1287 in_X9 rfl g ?_
        refine Ev.pick [] rfl ?_
        exact lk_X9_clash_53 hD
      · rw [if_neg c] at hD
        refine ev_if_ne_f 49 dX9_clash_39 (by decide) c ?_
        refine ev_aload_n dX9_clash_42 0 rfl rfl ?_
        obtain ⟨v7, g, hD⟩ := bd hD
        refine ew_getI 8 21 dX9_clash_43 rfl (Nat.le_of_ble_eq_true rfl) w_1286 in_X9 rfl g ?_
        refine ev_goto (tgt := 53) dX9_clash_46 (by decide) ?_
        refine Ev.pick [] rfl ?_
        exact lk_X9_clash_53 hD
    · rw [if_neg c] at hD
      refine ev_if_ne_f 38 dX9_clash_30 (by decide) c ?_
      refine ev_bp dX9_clash_33 rfl ?_
      refine ev_goto (tgt := 53) dX9_clash_35 (by decide) ?_
      refine Ev.pick [] rfl ?_
      exact lk_X9_clash_53 hD
  · rw [if_neg c] at hD
    refine ev_if_ne_f 22 dX9_clash_17 (by decide) c ?_
    refine ev_iconst dX9_clash_20 (mi_c rfl) ?_
    cases hD
    exact ev_ret (some (vi _)) dX9_clash_21 True.intro
theorem ct_X9_clash {G : mG} {x0 : Nat} {x1 : Int} {σ : mS} {R : (Int × mS)} (hD : D_X9_clash x0 x1 σ = some R) : Ct G M_X9_clash [vr x0, vi x1] σ (.inl (some (vi R.1))) R.2 := ct_of rfl (by decide +kernel) rfl (Nat.le_of_ble_eq_true rfl) rfl (lk_X9_clash hD)
def D_X9_laysWere_12 : Nat → Nat → Int → Int → mS → Option mS
  | 0, _, _, _, _ => none
  | f + 1, x0, x1, x2, σ =>
    if 1000 ≤ x2 then
      some σ
    else
      (gR σ x0 8 50).bind fun v1 =>
      (lR σ v1 x1).bind fun v2 =>
      (gR σ x0 8 14).bind fun v3 =>
      (lR σ v3 x1).bind fun v4 =>
      (lB σ v4 x2).bind fun v5 =>
      (sB σ v2 x2 v5).bind fun s6 =>
      (D_X9_laysWere_12 f) x0 x1 (mw (x2 + 1)) s6
set_option maxRecDepth 100000 in
set_option maxHeartbeats 4000000 in
theorem lk_X9_laysWere_12 {G : mG} (f : Nat) : ∀ {x0 : Nat} {x1 : Int} {x2 : Int} {σ : mS} {R : mS}, D_X9_laysWere_12 f x0 x1 x2 σ = some R → ∀ {r : mX} {τ : mS}, Ev G M_X9_laysWere 41 [(0, vr x0), (1, vi x1)] [] R r τ → Ev G M_X9_laysWere 12 [(0, vr x0), (1, vi x1), (2, vi x2)] [] σ r τ := by
  induction f with
  | zero =>
    intros
    rename_i hD _ _ _
    cases hD
  | succ f ih =>
    intro x0 x1 x2 σ R hD r τ hk
    have hrec := @ih
    rw [D_X9_laysWere_12] at hD
    refine ev_iload_n dX9_laysWere_12 2 rfl rfl ?_
    refine ev_sp dX9_laysWere_13 rfl ?_
    by_cases c : 1000 ≤ x2
    · rw [if_pos c] at hD
      refine ev_icmp_ge_t (tgt := 41) dX9_laysWere_16 (by decide) c ?_
      cases hD
      refine Ev.pick [0, 1] rfl ?_
      exact hk
    · rw [if_neg c] at hD
      refine ev_icmp_ge_f 41 dX9_laysWere_16 (by decide) c ?_
      refine ev_aload_n dX9_laysWere_19 0 rfl rfl ?_
      obtain ⟨v1, g, hD⟩ := bd hD
      refine ew_getR 8 50 dX9_laysWere_20 rfl (Nat.le_of_ble_eq_true rfl) w_1315 in_X9 rfl g ?_
      refine ev_iload_n dX9_laysWere_23 1 rfl rfl ?_
      obtain ⟨v2, g, hD⟩ := bd hD
      refine ew_aald dX9_laysWere_24 g ?_
      refine ev_iload_n dX9_laysWere_25 2 rfl rfl ?_
      refine ev_aload_n dX9_laysWere_26 0 rfl rfl ?_
      obtain ⟨v3, g, hD⟩ := bd hD
      refine ew_getR 8 14 dX9_laysWere_27 rfl (Nat.le_of_ble_eq_true rfl) w_1279 in_X9 rfl g ?_
      refine ev_iload_n dX9_laysWere_30 1 rfl rfl ?_
      obtain ⟨v4, g, hD⟩ := bd hD
      refine ew_aald dX9_laysWere_31 g ?_
      refine ev_iload_n dX9_laysWere_32 2 rfl rfl ?_
      obtain ⟨v5, g, hD⟩ := bd hD
      refine ew_bald dX9_laysWere_33 g ?_
      obtain ⟨s6, g, hD⟩ := bd hD
      refine ew_bast dX9_laysWere_34 g ?_
      refine ev_iinc dX9_laysWere_35 2 rfl (Nat.le_of_ble_eq_true rfl) rfl ?_
      refine ev_goto (tgt := 12) dX9_laysWere_38 (by decide) ?_
      refine Ev.pick [1, 2, 0] rfl ?_
      exact hrec hD hk
def D_X9_laysWere_2 : Nat → Nat → Int → mS → Option mS
  | 0, _, _, _ => none
  | f + 1, x0, x1, σ =>
    (gI σ x0 8 6).bind fun v1 =>
    if v1 ≤ x1 then
      some σ
    else
      (D_X9_laysWere_12 mFU x0 x1 0 σ).bind fun r2 =>
      (D_X9_laysWere_2 f) x0 (mw (x1 + 1)) r2
set_option maxRecDepth 100000 in
set_option maxHeartbeats 4000000 in
theorem lk_X9_laysWere_2 {G : mG} (f : Nat) : ∀ {x0 : Nat} {x1 : Int} {σ : mS} {R : mS}, D_X9_laysWere_2 f x0 x1 σ = some R → ∀ {r : mX} {τ : mS}, Ev G M_X9_laysWere 47 [] [] R r τ → Ev G M_X9_laysWere 2 [(0, vr x0), (1, vi x1)] [] σ r τ := by
  induction f with
  | zero =>
    intros
    rename_i hD _ _ _
    cases hD
  | succ f ih =>
    intro x0 x1 σ R hD r τ hk
    have hrec := @ih
    rw [D_X9_laysWere_2] at hD
    refine ev_iload_n dX9_laysWere_2 1 rfl rfl ?_
    refine ev_aload_n dX9_laysWere_3 0 rfl rfl ?_
    obtain ⟨v1, g, hD⟩ := bd hD
    refine ew_getI 8 6 dX9_laysWere_4 rfl (Nat.le_of_ble_eq_true rfl) w_1271 in_X9 rfl g ?_
    by_cases c : v1 ≤ x1
    · rw [if_pos c] at hD
      refine ev_icmp_ge_t (tgt := 47) dX9_laysWere_7 (by decide) c ?_
      cases hD
      refine Ev.pick [] rfl ?_
      exact hk
    · rw [if_neg c] at hD
      refine ev_icmp_ge_f 47 dX9_laysWere_7 (by decide) c ?_
      refine ev_iconst dX9_laysWere_10 (mi_c rfl) ?_
      refine ev_istore_n dX9_laysWere_11 rfl (Nat.le_of_ble_eq_true rfl) rfl ?_
      obtain ⟨r2, g, hD⟩ := bd hD
      refine Ev.pick [1, 2, 0] rfl ?_
      refine lk_X9_laysWere_12 mFU g ?_
      refine ev_iinc dX9_laysWere_41 1 rfl (Nat.le_of_ble_eq_true rfl) rfl ?_
      refine ev_goto (tgt := 2) dX9_laysWere_44 (by decide) ?_
      refine Ev.pick [1, 0] rfl ?_
      exact hrec hD hk
def D_X9_laysWere (x0 : Nat) (σ : mS) : Option mS :=
  (D_X9_laysWere_2 mFU x0 0 σ).bind fun r1 =>
  some r1
set_option maxRecDepth 100000 in
set_option maxHeartbeats 4000000 in
theorem lk_X9_laysWere {G : mG} {x0 : Nat} {σ : mS} {R : mS} (hD : D_X9_laysWere x0 σ = some R) : Ev G M_X9_laysWere 0 [(0, vr x0)] [] σ (.inl none) R := by
  unfold D_X9_laysWere at hD
  refine ev_iconst dX9_laysWere_0 (mi_c rfl) ?_
  refine ev_istore_n dX9_laysWere_1 rfl (Nat.le_of_ble_eq_true rfl) rfl ?_
  obtain ⟨r1, g, hD⟩ := bd hD
  refine Ev.pick [1, 0] rfl ?_
  refine lk_X9_laysWere_2 mFU g ?_
  cases hD
  exact ev_ret none dX9_laysWere_47 True.intro
theorem ct_X9_laysWere {G : mG} {x0 : Nat} {σ : mS} {R : mS} (hD : D_X9_laysWere x0 σ = some R) : Ct G M_X9_laysWere [vr x0] σ (.inl none) R := ct_of rfl (by decide +kernel) rfl (Nat.le_of_ble_eq_true rfl) rfl (lk_X9_laysWere hD)
def D_X9_areAsWere_12 : Nat → Nat → Int → Int → mS → Option (Unit ⊕ Int)
  | 0, _, _, _, _ => none
  | f + 1, x0, x1, x2, σ =>
    if 1000 ≤ x2 then
      some (Sum.inl ())
    else
      (gR σ x0 8 50).bind fun v1 =>
      (lR σ v1 x1).bind fun v2 =>
      (lB σ v2 x2).bind fun v3 =>
      (gR σ x0 8 14).bind fun v4 =>
      (lR σ v4 x1).bind fun v5 =>
      (lB σ v5 x2).bind fun v6 =>
      if v3 = v6 then
        (D_X9_areAsWere_12 f) x0 x1 (mw (x2 + 1)) σ
      else
        (bO 0).bind fun v7 =>
        some (Sum.inr v7)
set_option maxRecDepth 100000 in
set_option maxHeartbeats 4000000 in
theorem lk_X9_areAsWere_12 {G : mG} (f : Nat) : ∀ {x0 : Nat} {x1 : Int} {x2 : Int} {σ : mS} {R : (Unit ⊕ Int)}, D_X9_areAsWere_12 f x0 x1 x2 σ = some R → ∀ {r : mX} {τ : mS}, (∀ z, R = (Sum.inl z) → Ev G M_X9_areAsWere 46 [(0, vr x0), (1, vi x1)] [] σ r τ) ∧ (∀ z, R = (Sum.inr z) → r = .inl (some (vi z)) ∧ τ = σ) → Ev G M_X9_areAsWere 12 [(0, vr x0), (1, vi x1), (2, vi x2)] [] σ r τ := by
  induction f with
  | zero =>
    intros
    rename_i hD _ _ _
    cases hD
  | succ f ih =>
    intro x0 x1 x2 σ R hD r τ hk
    have hrec := @ih
    rw [D_X9_areAsWere_12] at hD
    refine ev_iload_n dX9_areAsWere_12 2 rfl rfl ?_
    refine ev_sp dX9_areAsWere_13 rfl ?_
    by_cases c : 1000 ≤ x2
    · rw [if_pos c] at hD
      refine ev_icmp_ge_t (tgt := 46) dX9_areAsWere_16 (by decide) c ?_
      cases hD
      refine Ev.pick [0, 1] rfl ?_
      exact hk.1 _ rfl
    · rw [if_neg c] at hD
      refine ev_icmp_ge_f 46 dX9_areAsWere_16 (by decide) c ?_
      refine ev_aload_n dX9_areAsWere_19 0 rfl rfl ?_
      obtain ⟨v1, g, hD⟩ := bd hD
      refine ew_getR 8 50 dX9_areAsWere_20 rfl (Nat.le_of_ble_eq_true rfl) w_1315 in_X9 rfl g ?_
      refine ev_iload_n dX9_areAsWere_23 1 rfl rfl ?_
      obtain ⟨v2, g, hD⟩ := bd hD
      refine ew_aald dX9_areAsWere_24 g ?_
      refine ev_iload_n dX9_areAsWere_25 2 rfl rfl ?_
      obtain ⟨v3, g, hD⟩ := bd hD
      refine ew_bald dX9_areAsWere_26 g ?_
      refine ev_aload_n dX9_areAsWere_27 0 rfl rfl ?_
      obtain ⟨v4, g, hD⟩ := bd hD
      refine ew_getR 8 14 dX9_areAsWere_28 rfl (Nat.le_of_ble_eq_true rfl) w_1279 in_X9 rfl g ?_
      refine ev_iload_n dX9_areAsWere_31 1 rfl rfl ?_
      obtain ⟨v5, g, hD⟩ := bd hD
      refine ew_aald dX9_areAsWere_32 g ?_
      refine ev_iload_n dX9_areAsWere_33 2 rfl rfl ?_
      obtain ⟨v6, g, hD⟩ := bd hD
      refine ew_bald dX9_areAsWere_34 g ?_
      by_cases c : v3 = v6
      · rw [if_pos c] at hD
        refine ev_icmp_eq_t (tgt := 40) dX9_areAsWere_35 (by decide) c ?_
        refine ev_iinc dX9_areAsWere_40 2 rfl (Nat.le_of_ble_eq_true rfl) rfl ?_
        refine ev_goto (tgt := 12) dX9_areAsWere_43 (by decide) ?_
        refine Ev.pick [1, 2, 0] rfl ?_
        exact hrec hD hk
      · rw [if_neg c] at hD
        refine ev_icmp_eq_f 40 dX9_areAsWere_35 (by decide) c ?_
        refine ev_iconst dX9_areAsWere_38 (mi_c rfl) ?_
        obtain ⟨v7, gb, hD⟩ := bd hD
        cases hD
        obtain ⟨rfl, rfl⟩ := hk.2 _ rfl
        exact ew_retb dX9_areAsWere_39 rfl gb
def D_X9_areAsWere_2 : Nat → Nat → Int → mS → Option (Unit ⊕ Int)
  | 0, _, _, _ => none
  | f + 1, x0, x1, σ =>
    (gI σ x0 8 6).bind fun v1 =>
    if v1 ≤ x1 then
      some (Sum.inl ())
    else
      (D_X9_areAsWere_12 mFU x0 x1 0 σ).bind fun r2 =>
      match r2 with
      | (Sum.inl z3) =>
        (D_X9_areAsWere_2 f) x0 (mw (x1 + 1)) σ
      | (Sum.inr z4) =>
        some (Sum.inr z4)
set_option maxRecDepth 100000 in
set_option maxHeartbeats 4000000 in
theorem lk_X9_areAsWere_2 {G : mG} (f : Nat) : ∀ {x0 : Nat} {x1 : Int} {σ : mS} {R : (Unit ⊕ Int)}, D_X9_areAsWere_2 f x0 x1 σ = some R → ∀ {r : mX} {τ : mS}, (∀ z, R = (Sum.inl z) → Ev G M_X9_areAsWere 52 [] [] σ r τ) ∧ (∀ z, R = (Sum.inr z) → r = .inl (some (vi z)) ∧ τ = σ) → Ev G M_X9_areAsWere 2 [(0, vr x0), (1, vi x1)] [] σ r τ := by
  induction f with
  | zero =>
    intros
    rename_i hD _ _ _
    cases hD
  | succ f ih =>
    intro x0 x1 σ R hD r τ hk
    have hrec := @ih
    rw [D_X9_areAsWere_2] at hD
    refine ev_iload_n dX9_areAsWere_2 1 rfl rfl ?_
    refine ev_aload_n dX9_areAsWere_3 0 rfl rfl ?_
    obtain ⟨v1, g, hD⟩ := bd hD
    refine ew_getI 8 6 dX9_areAsWere_4 rfl (Nat.le_of_ble_eq_true rfl) w_1271 in_X9 rfl g ?_
    by_cases c : v1 ≤ x1
    · rw [if_pos c] at hD
      refine ev_icmp_ge_t (tgt := 52) dX9_areAsWere_7 (by decide) c ?_
      cases hD
      refine Ev.pick [] rfl ?_
      exact hk.1 _ rfl
    · rw [if_neg c] at hD
      refine ev_icmp_ge_f 52 dX9_areAsWere_7 (by decide) c ?_
      refine ev_iconst dX9_areAsWere_10 (mi_c rfl) ?_
      refine ev_istore_n dX9_areAsWere_11 rfl (Nat.le_of_ble_eq_true rfl) rfl ?_
      obtain ⟨r2, g, hD⟩ := bd hD
      refine Ev.pick [1, 2, 0] rfl ?_
      rcases r2 with z3 | z4
      · refine lk_X9_areAsWere_12 mFU g ⟨(fun _ hz => ?_), (fun _ hz => nomatch hz)⟩
        cases hz
        refine ev_iinc dX9_areAsWere_46 1 rfl (Nat.le_of_ble_eq_true rfl) rfl ?_
        refine ev_goto (tgt := 2) dX9_areAsWere_49 (by decide) ?_
        refine Ev.pick [1, 0] rfl ?_
        exact hrec hD hk
      · refine lk_X9_areAsWere_12 mFU g ⟨(fun _ hz => nomatch hz), (fun _ hz => ?_)⟩
        cases hz
        cases hD
        exact hk.2 _ rfl
def D_X9_areAsWere (x0 : Nat) (σ : mS) : Option Int :=
  (D_X9_areAsWere_2 mFU x0 0 σ).bind fun r1 =>
  match r1 with
  | (Sum.inl z2) =>
    (bO 1).bind fun v3 =>
    some v3
  | (Sum.inr z4) =>
    some z4
set_option maxRecDepth 100000 in
set_option maxHeartbeats 4000000 in
theorem lk_X9_areAsWere {G : mG} {x0 : Nat} {σ : mS} {R : Int} (hD : D_X9_areAsWere x0 σ = some R) : Ev G M_X9_areAsWere 0 [(0, vr x0)] [] σ (.inl (some (vi R))) σ := by
  unfold D_X9_areAsWere at hD
  refine ev_iconst dX9_areAsWere_0 (mi_c rfl) ?_
  refine ev_istore_n dX9_areAsWere_1 rfl (Nat.le_of_ble_eq_true rfl) rfl ?_
  obtain ⟨r1, g, hD⟩ := bd hD
  refine Ev.pick [1, 0] rfl ?_
  rcases r1 with z2 | z4
  · refine lk_X9_areAsWere_2 mFU g ⟨(fun _ hz => ?_), (fun _ hz => nomatch hz)⟩
    cases hz
    refine ev_iconst dX9_areAsWere_52 (mi_c rfl) ?_
    obtain ⟨v3, gb, hD⟩ := bd hD
    cases hD
    exact ew_retb dX9_areAsWere_53 rfl gb
  · refine lk_X9_areAsWere_2 mFU g ⟨(fun _ hz => nomatch hz), (fun _ hz => ?_)⟩
    cases hz
    cases hD
    exact ⟨rfl, rfl⟩
theorem ct_X9_areAsWere {G : mG} {x0 : Nat} {σ : mS} {R : Int} (hD : D_X9_areAsWere x0 σ = some R) : Ct G M_X9_areAsWere [vr x0] σ (.inl (some (vi R))) σ := ct_of rfl (by decide +kernel) rfl (Nat.le_of_ble_eq_true rfl) rfl (lk_X9_areAsWere hD)
def D_X9_laysWithout (x0 : Nat) (x1 : Int) (σ : mS) : Option mS :=
  (pI σ x0 8 19 x1).bind fun s1 =>
  (tgO s1 x0 8).bind fun _ =>
  (D_X9_lays x0 s1).bind fun r2 =>
  (pI r2 x0 8 19 ((-1))).bind fun s3 =>
  some s3
set_option maxRecDepth 100000 in
set_option maxHeartbeats 4000000 in
theorem lk_X9_laysWithout {G : mG} {x0 : Nat} {x1 : Int} {σ : mS} {R : mS} (hD : D_X9_laysWithout x0 x1 σ = some R) : Ev G M_X9_laysWithout 0 [(0, vr x0), (1, vi x1)] [] σ (.inl none) R := by
  unfold D_X9_laysWithout at hD
  refine ev_aload_n dX9_laysWithout_0 0 rfl rfl ?_
  refine ev_iload_n dX9_laysWithout_1 1 rfl rfl ?_
  obtain ⟨s1, g, hD⟩ := bd hD
  refine ew_putI 8 19 dX9_laysWithout_2 rfl (Nat.le_of_ble_eq_true rfl) w_1284 in_X9 tyX9_ok nmX9 (Or.inl rfl) rfl g ?_
  refine ev_aload_n dX9_laysWithout_5 0 rfl rfl ?_
  obtain ⟨_, g0, hD⟩ := bd hD
  obtain ⟨r2, g, hD⟩ := bd hD
  refine ew_callV0 (as := []) (a := x0) (rest := []) dX9_laysWithout_6 v_X9_lays w_1621 rfl (Nat.le_of_ble_eq_true rfl) rfl rfl g0 (Nat.le_of_ble_eq_true rfl) (Nat.le_of_ble_eq_true rfl) (ct_X9_lays g) ?_
  refine ev_aload_n dX9_laysWithout_9 0 rfl rfl ?_
  refine ev_iconst dX9_laysWithout_10 (mi_c rfl) ?_
  obtain ⟨s3, g, hD⟩ := bd hD
  refine ew_putI 8 19 dX9_laysWithout_11 rfl (Nat.le_of_ble_eq_true rfl) w_1284 in_X9 tyX9_ok nmX9 (Or.inl rfl) rfl g ?_
  cases hD
  exact ev_ret none dX9_laysWithout_14 True.intro
theorem ct_X9_laysWithout {G : mG} {x0 : Nat} {x1 : Int} {σ : mS} {R : mS} (hD : D_X9_laysWithout x0 x1 σ = some R) : Ct G M_X9_laysWithout [vr x0, vi x1] σ (.inl none) R := ct_of rfl (by decide +kernel) rfl (Nat.le_of_ble_eq_true rfl) rfl (lk_X9_laysWithout hD)
def D_X9_blame_52 (rec : Nat → Int → Int → mS → Option (Int × mS)) (x0 : Nat) (x2 : Int) (y0 : Int) (y1 : Int) (σ : mS) : Option (Int × mS) :=
  rec x0 (mor y1 y0) (mw (x2 + 1)) σ
set_option maxRecDepth 100000 in
set_option maxHeartbeats 4000000 in
theorem lk_X9_blame_52 {G : mG} {rec : Nat → Int → Int → mS → Option (Int × mS)} {x0 : Nat} {x2 : Int} {y0 : Int} {y1 : Int} {σ : mS} {R : (Int × mS)} {r : mX} {τ : mS} (hD : D_X9_blame_52 rec x0 x2 y0 y1 σ = some R) (hrec : ∀ {x0 : Nat} {x1 : Int} {x2 : Int} {σ : mS} {R : (Int × mS)}, rec x0 x1 x2 σ = some R → ∀ {r : mX} {τ : mS}, Ev G M_X9_blame 60 [(1, vi (R.1))] [] R.2 r τ → Ev G M_X9_blame 22 [(0, vr x0), (1, vi x1), (2, vi x2)] [] σ r τ) (hk : Ev G M_X9_blame 60 [(1, vi (R.1))] [] R.2 r τ) : Ev G M_X9_blame 52 [(0, vr x0), (2, vi x2)] [vi y0, vi y1] σ r τ := by
  unfold D_X9_blame_52 at hD
  refine ev_ior dX9_blame_52 ?_
  refine ev_istore_n dX9_blame_53 rfl (Nat.le_of_ble_eq_true rfl) rfl ?_
  refine ev_iinc dX9_blame_54 2 rfl (Nat.le_of_ble_eq_true rfl) rfl ?_
  refine ev_goto (tgt := 22) dX9_blame_57 (by decide) ?_
  refine Ev.pick [2, 1, 0] rfl ?_
  exact hrec hD hk
def D_X9_blame_22 : Nat → Nat → Int → Int → mS → Option (Int × mS)
  | 0, _, _, _, _ => none
  | f + 1, x0, x1, x2, σ =>
    (gR σ x0 8 2).bind fun v1 =>
    (lI σ v1 2).bind fun v2 =>
    if v2 ≤ x2 then
      some (x1, σ)
    else
      (tgO σ x0 8).bind fun _ =>
      (D_X9_laysWithout x0 x2 σ).bind fun r3 =>
      (gI r3 x0 8 24).bind fun v4 =>
      if v4 = 0 then
        D_X9_blame_52 (D_X9_blame_22 f) x0 x2 (mshl 1 x2) x1 r3
      else
        D_X9_blame_52 (D_X9_blame_22 f) x0 x2 0 x1 r3
set_option maxRecDepth 100000 in
set_option maxHeartbeats 4000000 in
theorem lk_X9_blame_22 {G : mG} (f : Nat) : ∀ {x0 : Nat} {x1 : Int} {x2 : Int} {σ : mS} {R : (Int × mS)}, D_X9_blame_22 f x0 x1 x2 σ = some R → ∀ {r : mX} {τ : mS}, Ev G M_X9_blame 60 [(1, vi (R.1))] [] R.2 r τ → Ev G M_X9_blame 22 [(0, vr x0), (1, vi x1), (2, vi x2)] [] σ r τ := by
  induction f with
  | zero =>
    intros
    rename_i hD _ _ _
    cases hD
  | succ f ih =>
    intro x0 x1 x2 σ R hD r τ hk
    have hrec := @ih
    rw [D_X9_blame_22] at hD
    refine ev_iload_n dX9_blame_22 2 rfl rfl ?_
    refine ev_aload_n dX9_blame_23 0 rfl rfl ?_
    obtain ⟨v1, g, hD⟩ := bd hD
    refine ew_getR 8 2 dX9_blame_24 rfl (Nat.le_of_ble_eq_true rfl) w_1267 in_X9 rfl g ?_
    refine ev_iconst dX9_blame_27 (mi_c rfl) ?_
    obtain ⟨v2, g, hD⟩ := bd hD
    refine ew_iald dX9_blame_28 g ?_
    by_cases c : v2 ≤ x2
    · rw [if_pos c] at hD
      refine ev_icmp_ge_t (tgt := 60) dX9_blame_29 (by decide) c ?_
      cases hD
      refine Ev.pick [1] rfl ?_
      exact hk
    · rw [if_neg c] at hD
      refine ev_icmp_ge_f 60 dX9_blame_29 (by decide) c ?_
      refine ev_aload_n dX9_blame_32 0 rfl rfl ?_
      refine ev_iload_n dX9_blame_33 2 rfl rfl ?_
      obtain ⟨_, g0, hD⟩ := bd hD
      obtain ⟨r3, g, hD⟩ := bd hD
      refine ew_callV0 (as := [vi x2]) (a := x0) (rest := []) dX9_blame_34 v_X9_laysWithout w_1779 rfl (Nat.le_of_ble_eq_true rfl) rfl rfl g0 (Nat.le_of_ble_eq_true rfl) (Nat.le_of_ble_eq_true rfl) (ct_X9_laysWithout g) ?_
      refine ev_iload_n dX9_blame_37 1 rfl rfl ?_
      refine ev_aload_n dX9_blame_38 0 rfl rfl ?_
      obtain ⟨v4, g, hD⟩ := bd hD
      refine ew_getI 8 24 dX9_blame_39 rfl (Nat.le_of_ble_eq_true rfl) w_1289 in_X9 rfl g ?_
      by_cases c : v4 = 0
      · rw [if_pos c] at hD
        refine ev_if_eq_t (tgt := 49) dX9_blame_42 (by decide) c ?_
        refine ev_iconst dX9_blame_49 (mi_c rfl) ?_
        refine ev_iload_n dX9_blame_50 2 rfl rfl ?_
        refine ev_ishl dX9_blame_51 ?_
        refine Ev.pick [0, 2] rfl ?_
        exact lk_X9_blame_52 hD hrec hk
      · rw [if_neg c] at hD
        refine ev_if_eq_f 49 dX9_blame_42 (by decide) c ?_
        refine ev_iconst dX9_blame_45 (mi_c rfl) ?_
        refine ev_goto (tgt := 52) dX9_blame_46 (by decide) ?_
        refine Ev.pick [0, 2] rfl ?_
        exact lk_X9_blame_52 hD hrec hk
def D_X9_blame (x0 : Nat) (σ : mS) : Option (Int × mS) :=
  (pI σ x0 8 0 0).bind fun s1 =>
  (tgO s1 x0 8).bind fun _ =>
  (D_X9_lays x0 s1).bind fun r2 =>
  (gI r2 x0 8 24).bind fun v3 =>
  if v3 ≠ 0 then
    (D_X9_blame_22 mFU x0 0 0 r2).bind fun r4 =>
    some (r4.1, r4.2)
  else
    some (0, r2)
set_option maxRecDepth 100000 in
set_option maxHeartbeats 4000000 in
theorem lk_X9_blame {G : mG} {x0 : Nat} {σ : mS} {R : (Int × mS)} (hD : D_X9_blame x0 σ = some R) : Ev G M_X9_blame 0 [(0, vr x0)] [] σ (.inl (some (vi R.1))) R.2 := by
  unfold D_X9_blame at hD
  refine ev_aload_n dX9_blame_0 0 rfl rfl ?_
  refine ev_iconst dX9_blame_1 (mi_c rfl) ?_
  obtain ⟨s1, g, hD⟩ := bd hD
  refine ew_putI 8 0 dX9_blame_2 rfl (Nat.le_of_ble_eq_true rfl) w_1265 in_X9 tyX9_ok nmX9 (Or.inl rfl) rfl g ?_
  refine ev_aload_n dX9_blame_5 0 rfl rfl ?_
  obtain ⟨_, g0, hD⟩ := bd hD
  obtain ⟨r2, g, hD⟩ := bd hD
  refine ew_callV0 (as := []) (a := x0) (rest := []) dX9_blame_6 v_X9_lays w_1621 rfl (Nat.le_of_ble_eq_true rfl) rfl rfl g0 (Nat.le_of_ble_eq_true rfl) (Nat.le_of_ble_eq_true rfl) (ct_X9_lays g) ?_
  refine ev_aload_n dX9_blame_9 0 rfl rfl ?_
  obtain ⟨v3, g, hD⟩ := bd hD
  refine ew_getI 8 24 dX9_blame_10 rfl (Nat.le_of_ble_eq_true rfl) w_1289 in_X9 rfl g ?_
  by_cases c : v3 ≠ 0
  · rw [if_pos c] at hD
    refine ev_if_ne_t (tgt := 18) dX9_blame_13 (by decide) c ?_
    refine ev_iconst dX9_blame_18 (mi_c rfl) ?_
    refine ev_istore_n dX9_blame_19 rfl (Nat.le_of_ble_eq_true rfl) rfl ?_
    refine ev_iconst dX9_blame_20 (mi_c rfl) ?_
    refine ev_istore_n dX9_blame_21 rfl (Nat.le_of_ble_eq_true rfl) rfl ?_
    obtain ⟨r4, g, hD⟩ := bd hD
    refine Ev.pick [2, 1, 0] rfl ?_
    refine lk_X9_blame_22 mFU g ?_
    refine ev_iload_n dX9_blame_60 0 rfl rfl ?_
    cases hD
    exact ev_ret (some (vi _)) dX9_blame_61 True.intro
  · rw [if_neg c] at hD
    refine ev_if_ne_f 18 dX9_blame_13 (by decide) c ?_
    refine ev_iconst dX9_blame_16 (mi_c rfl) ?_
    cases hD
    exact ev_ret (some (vi _)) dX9_blame_17 True.intro
theorem ct_X9_blame {G : mG} {x0 : Nat} {σ : mS} {R : (Int × mS)} (hD : D_X9_blame x0 σ = some R) : Ct G M_X9_blame [vr x0] σ (.inl (some (vi R.1))) R.2 := ct_of rfl (by decide +kernel) rfl (Nat.le_of_ble_eq_true rfl) rfl (lk_X9_blame hD)
def D_X9_needless_47 (rec : Nat → Int → Int → mS → Option (Int × mS)) (x0 : Nat) (x2 : Int) (y0 : Int) (y1 : Int) (σ : mS) : Option (Int × mS) :=
  rec x0 (mor y1 y0) (mw (x2 + 1)) σ
set_option maxRecDepth 100000 in
set_option maxHeartbeats 4000000 in
theorem lk_X9_needless_47 {G : mG} {rec : Nat → Int → Int → mS → Option (Int × mS)} {x0 : Nat} {x2 : Int} {y0 : Int} {y1 : Int} {σ : mS} {R : (Int × mS)} {r : mX} {τ : mS} (hD : D_X9_needless_47 rec x0 x2 y0 y1 σ = some R) (hrec : ∀ {x0 : Nat} {x1 : Int} {x2 : Int} {σ : mS} {R : (Int × mS)}, rec x0 x1 x2 σ = some R → ∀ {r : mX} {τ : mS}, Ev G M_X9_needless 55 [(1, vi (R.1))] [] R.2 r τ → Ev G M_X9_needless 17 [(0, vr x0), (1, vi x1), (2, vi x2)] [] σ r τ) (hk : Ev G M_X9_needless 55 [(1, vi (R.1))] [] R.2 r τ) : Ev G M_X9_needless 47 [(0, vr x0), (2, vi x2)] [vi y0, vi y1] σ r τ := by
  unfold D_X9_needless_47 at hD
  refine ev_ior dX9_needless_47 ?_
  refine ev_istore_n dX9_needless_48 rfl (Nat.le_of_ble_eq_true rfl) rfl ?_
  refine ev_iinc dX9_needless_49 2 rfl (Nat.le_of_ble_eq_true rfl) rfl ?_
  refine ev_goto (tgt := 17) dX9_needless_52 (by decide) ?_
  refine Ev.pick [2, 1, 0] rfl ?_
  exact hrec hD hk
def D_X9_needless_17 : Nat → Nat → Int → Int → mS → Option (Int × mS)
  | 0, _, _, _, _ => none
  | f + 1, x0, x1, x2, σ =>
    (gR σ x0 8 2).bind fun v1 =>
    (lI σ v1 2).bind fun v2 =>
    if v2 ≤ x2 then
      some (x1, σ)
    else
      (tgO σ x0 8).bind fun _ =>
      (D_X9_laysWithout x0 x2 σ).bind fun r3 =>
      (tgO r3 x0 8).bind fun _ =>
      (D_X9_areAsWere x0 r3).bind fun r4 =>
      if r4 = 0 then
        D_X9_needless_47 (D_X9_needless_17 f) x0 x2 0 x1 r3
      else
        D_X9_needless_47 (D_X9_needless_17 f) x0 x2 (mshl 1 x2) x1 r3
set_option maxRecDepth 100000 in
set_option maxHeartbeats 4000000 in
theorem lk_X9_needless_17 {G : mG} (f : Nat) : ∀ {x0 : Nat} {x1 : Int} {x2 : Int} {σ : mS} {R : (Int × mS)}, D_X9_needless_17 f x0 x1 x2 σ = some R → ∀ {r : mX} {τ : mS}, Ev G M_X9_needless 55 [(1, vi (R.1))] [] R.2 r τ → Ev G M_X9_needless 17 [(0, vr x0), (1, vi x1), (2, vi x2)] [] σ r τ := by
  induction f with
  | zero =>
    intros
    rename_i hD _ _ _
    cases hD
  | succ f ih =>
    intro x0 x1 x2 σ R hD r τ hk
    have hrec := @ih
    rw [D_X9_needless_17] at hD
    refine ev_iload_n dX9_needless_17 2 rfl rfl ?_
    refine ev_aload_n dX9_needless_18 0 rfl rfl ?_
    obtain ⟨v1, g, hD⟩ := bd hD
    refine ew_getR 8 2 dX9_needless_19 rfl (Nat.le_of_ble_eq_true rfl) w_1267 in_X9 rfl g ?_
    refine ev_iconst dX9_needless_22 (mi_c rfl) ?_
    obtain ⟨v2, g, hD⟩ := bd hD
    refine ew_iald dX9_needless_23 g ?_
    by_cases c : v2 ≤ x2
    · rw [if_pos c] at hD
      refine ev_icmp_ge_t (tgt := 55) dX9_needless_24 (by decide) c ?_
      cases hD
      refine Ev.pick [1] rfl ?_
      exact hk
    · rw [if_neg c] at hD
      refine ev_icmp_ge_f 55 dX9_needless_24 (by decide) c ?_
      refine ev_aload_n dX9_needless_27 0 rfl rfl ?_
      refine ev_iload_n dX9_needless_28 2 rfl rfl ?_
      obtain ⟨_, g0, hD⟩ := bd hD
      obtain ⟨r3, g, hD⟩ := bd hD
      refine ew_callV0 (as := [vi x2]) (a := x0) (rest := []) dX9_needless_29 v_X9_laysWithout w_1779 rfl (Nat.le_of_ble_eq_true rfl) rfl rfl g0 (Nat.le_of_ble_eq_true rfl) (Nat.le_of_ble_eq_true rfl) (ct_X9_laysWithout g) ?_
      refine ev_iload_n dX9_needless_32 1 rfl rfl ?_
      refine ev_aload_n dX9_needless_33 0 rfl rfl ?_
      obtain ⟨_, g0, hD⟩ := bd hD
      obtain ⟨r4, g, hD⟩ := bd hD
      refine ew_callVv (as := []) (a := x0) (rest := [vi x1]) dX9_needless_34 v_X9_areAsWere w_1791 rfl (Nat.le_of_ble_eq_true rfl) rfl rfl g0 (Nat.le_of_ble_eq_true rfl) (Nat.le_of_ble_eq_true rfl) (ct_X9_areAsWere g) ?_
      by_cases c : r4 = 0
      · rw [if_pos c] at hD
        refine ev_if_eq_t (tgt := 46) dX9_needless_37 (by decide) c ?_
        refine ev_iconst dX9_needless_46 (mi_c rfl) ?_
        refine Ev.pick [0, 2] rfl ?_
        exact lk_X9_needless_47 hD hrec hk
      · rw [if_neg c] at hD
        refine ev_if_eq_f 46 dX9_needless_37 (by decide) c ?_
        refine ev_iconst dX9_needless_40 (mi_c rfl) ?_
        refine ev_iload_n dX9_needless_41 2 rfl rfl ?_
        refine ev_ishl dX9_needless_42 ?_
        refine ev_goto (tgt := 47) dX9_needless_43 (by decide) ?_
        refine Ev.pick [0, 2] rfl ?_
        exact lk_X9_needless_47 hD hrec hk
def D_X9_needless (x0 : Nat) (σ : mS) : Option (Int × mS) :=
  (pI σ x0 8 0 0).bind fun s1 =>
  (tgO s1 x0 8).bind fun _ =>
  (D_X9_lays x0 s1).bind fun r2 =>
  (tgO r2 x0 8).bind fun _ =>
  (D_X9_laysWere x0 r2).bind fun r3 =>
  (D_X9_needless_17 mFU x0 0 0 r3).bind fun r4 =>
  some (r4.1, r4.2)
set_option maxRecDepth 100000 in
set_option maxHeartbeats 4000000 in
theorem lk_X9_needless {G : mG} {x0 : Nat} {σ : mS} {R : (Int × mS)} (hD : D_X9_needless x0 σ = some R) : Ev G M_X9_needless 0 [(0, vr x0)] [] σ (.inl (some (vi R.1))) R.2 := by
  unfold D_X9_needless at hD
  refine ev_aload_n dX9_needless_0 0 rfl rfl ?_
  refine ev_iconst dX9_needless_1 (mi_c rfl) ?_
  obtain ⟨s1, g, hD⟩ := bd hD
  refine ew_putI 8 0 dX9_needless_2 rfl (Nat.le_of_ble_eq_true rfl) w_1265 in_X9 tyX9_ok nmX9 (Or.inl rfl) rfl g ?_
  refine ev_aload_n dX9_needless_5 0 rfl rfl ?_
  obtain ⟨_, g0, hD⟩ := bd hD
  obtain ⟨r2, g, hD⟩ := bd hD
  refine ew_callV0 (as := []) (a := x0) (rest := []) dX9_needless_6 v_X9_lays w_1621 rfl (Nat.le_of_ble_eq_true rfl) rfl rfl g0 (Nat.le_of_ble_eq_true rfl) (Nat.le_of_ble_eq_true rfl) (ct_X9_lays g) ?_
  refine ev_aload_n dX9_needless_9 0 rfl rfl ?_
  obtain ⟨_, g0, hD⟩ := bd hD
  obtain ⟨r3, g, hD⟩ := bd hD
  refine ew_callV0 (as := []) (a := x0) (rest := []) dX9_needless_10 v_X9_laysWere w_1787 rfl (Nat.le_of_ble_eq_true rfl) rfl rfl g0 (Nat.le_of_ble_eq_true rfl) (Nat.le_of_ble_eq_true rfl) (ct_X9_laysWere g) ?_
  refine ev_iconst dX9_needless_13 (mi_c rfl) ?_
  refine ev_istore_n dX9_needless_14 rfl (Nat.le_of_ble_eq_true rfl) rfl ?_
  refine ev_iconst dX9_needless_15 (mi_c rfl) ?_
  refine ev_istore_n dX9_needless_16 rfl (Nat.le_of_ble_eq_true rfl) rfl ?_
  obtain ⟨r4, g, hD⟩ := bd hD
  refine Ev.pick [2, 1, 0] rfl ?_
  refine lk_X9_needless_17 mFU g ?_
  refine ev_iload_n dX9_needless_55 0 rfl rfl ?_
  cases hD
  exact ev_ret (some (vi _)) dX9_needless_56 True.intro
theorem ct_X9_needless {G : mG} {x0 : Nat} {σ : mS} {R : (Int × mS)} (hD : D_X9_needless x0 σ = some R) : Ct G M_X9_needless [vr x0] σ (.inl (some (vi R.1))) R.2 := ct_of rfl (by decide +kernel) rfl (Nat.le_of_ble_eq_true rfl) rfl (lk_X9_needless hD)
def D_X9_toldBy_27 (y0 : Int) (σ : mS) : Option Int :=
  some y0
set_option maxRecDepth 100000 in
set_option maxHeartbeats 4000000 in
theorem lk_X9_toldBy_27 {G : mG} {y0 : Int} {σ : mS} {R : Int} (hD : D_X9_toldBy_27 y0 σ = some R) : Ev G M_X9_toldBy 27 [] [vi y0] σ (.inl (some (vi R))) σ := by
  unfold D_X9_toldBy_27 at hD
  cases hD
  exact ev_ret (some (vi _)) dX9_toldBy_27 True.intro
def D_X9_toldBy (x0 : Nat) (x1 : Int) (σ : mS) : Option Int :=
  if x1 ≠ 0 then
    if x1 ≠ 1 then
      (gI σ x0 8 20).bind fun v1 =>
      D_X9_toldBy_27 v1 σ
    else
      (tgO σ x0 8).bind fun _ =>
      (D_X9_empties x0 σ).bind fun r2 =>
      D_X9_toldBy_27 r2 σ
  else
    (tgO σ x0 8).bind fun _ =>
    (D_X9_yearsAll x0 σ).bind fun r3 =>
    D_X9_toldBy_27 r3 σ
set_option maxRecDepth 100000 in
set_option maxHeartbeats 4000000 in
theorem lk_X9_toldBy {G : mG} {x0 : Nat} {x1 : Int} {σ : mS} {R : Int} (hD : D_X9_toldBy x0 x1 σ = some R) : Ev G M_X9_toldBy 0 [(0, vr x0), (1, vi x1)] [] σ (.inl (some (vi R))) σ := by
  unfold D_X9_toldBy at hD
  refine ev_iload_n dX9_toldBy_0 1 rfl rfl ?_
  by_cases c : x1 ≠ 0
  · rw [if_pos c] at hD
    refine ev_if_ne_t (tgt := 11) dX9_toldBy_1 (by decide) c ?_
    refine ev_iload_n dX9_toldBy_11 1 rfl rfl ?_
    refine ev_iconst dX9_toldBy_12 (mi_c rfl) ?_
    by_cases c : x1 ≠ 1
    · rw [if_pos c] at hD
      refine ev_icmp_ne_t (tgt := 23) dX9_toldBy_13 (by decide) c ?_
      refine ev_aload_n dX9_toldBy_23 0 rfl rfl ?_
      obtain ⟨v1, g, hD⟩ := bd hD
      refine ew_getI 8 20 dX9_toldBy_24 rfl (Nat.le_of_ble_eq_true rfl) w_1285 in_X9 rfl g ?_
      refine Ev.pick [] rfl ?_
      exact lk_X9_toldBy_27 hD
    · rw [if_neg c] at hD
      refine ev_icmp_ne_f 23 dX9_toldBy_13 (by decide) c ?_
      refine ev_aload_n dX9_toldBy_16 0 rfl rfl ?_
      obtain ⟨_, g0, hD⟩ := bd hD
      obtain ⟨r2, g, hD⟩ := bd hD
      refine ew_callVv (as := []) (a := x0) (rest := []) dX9_toldBy_17 v_X9_empties w_1699 rfl (Nat.le_of_ble_eq_true rfl) rfl rfl g0 (Nat.le_of_ble_eq_true rfl) (Nat.le_of_ble_eq_true rfl) (ct_X9_empties g) ?_
      refine ev_goto (tgt := 27) dX9_toldBy_20 (by decide) ?_
      refine Ev.pick [] rfl ?_
      exact lk_X9_toldBy_27 hD
  · rw [if_neg c] at hD
    refine ev_if_ne_f 11 dX9_toldBy_1 (by decide) c ?_
    refine ev_aload_n dX9_toldBy_4 0 rfl rfl ?_
    obtain ⟨_, g0, hD⟩ := bd hD
    obtain ⟨r3, g, hD⟩ := bd hD
    refine ew_callVv (as := []) (a := x0) (rest := []) dX9_toldBy_5 v_X9_yearsAll w_1695 rfl (Nat.le_of_ble_eq_true rfl) rfl rfl g0 (Nat.le_of_ble_eq_true rfl) (Nat.le_of_ble_eq_true rfl) (ct_X9_yearsAll g) ?_
    refine ev_goto (tgt := 27) dX9_toldBy_8 (by decide) ?_
    refine Ev.pick [] rfl ?_
    exact lk_X9_toldBy_27 hD
theorem ct_X9_toldBy {G : mG} {x0 : Nat} {x1 : Int} {σ : mS} {R : Int} (hD : D_X9_toldBy x0 x1 σ = some R) : Ct G M_X9_toldBy [vr x0, vi x1] σ (.inl (some (vi R))) σ := ct_of rfl (by decide +kernel) rfl (Nat.le_of_ble_eq_true rfl) rfl (lk_X9_toldBy hD)
def D_X9_without_28 (σ : mS) : Option (Int × mS) :=
  some (0, σ)
set_option maxRecDepth 100000 in
set_option maxHeartbeats 4000000 in
theorem lk_X9_without_28 {G : mG} {σ : mS} {R : (Int × mS)} (hD : D_X9_without_28  σ = some R) : Ev G M_X9_without 28 [] [] σ (.inl (some (vi R.1))) R.2 := by
  unfold D_X9_without_28 at hD
  refine ev_iconst dX9_without_28 (mi_c rfl) ?_
  cases hD
  exact ev_ret (some (vi _)) dX9_without_29 True.intro
def D_X9_without (x0 : Nat) (x1 : Int) (x2 : Int) (σ : mS) : Option (Int × mS) :=
  (pI σ x0 8 0 0).bind fun s1 =>
  (tgO s1 x0 8).bind fun _ =>
  (D_X9_isRule x0 x1 s1).bind fun r2 =>
  if r2.1 = 0 then
    D_X9_without_28  r2.2
  else
    (D_X9_within x2 0 2 r2.2).bind fun r3 =>
    (tgO r2.2 x0 8).bind fun _ =>
    (D_X9_isFine x0 r3 2 1 r2.2).bind fun r4 =>
    if r4.1 ≠ 0 then
      (tgO r4.2 x0 8).bind fun _ =>
      (D_X9_laysWithout x0 x1 r4.2).bind fun r5 =>
      (tgO r5 x0 8).bind fun _ =>
      (D_X9_toldBy x0 x2 r5).bind fun r6 =>
      some (r6, r5)
    else
      D_X9_without_28  r4.2
set_option maxRecDepth 100000 in
set_option maxHeartbeats 4000000 in
theorem lk_X9_without {G : mG} {x0 : Nat} {x1 : Int} {x2 : Int} {σ : mS} {R : (Int × mS)} (hD : D_X9_without x0 x1 x2 σ = some R) : Ev G M_X9_without 0 [(0, vr x0), (1, vi x1), (2, vi x2)] [] σ (.inl (some (vi R.1))) R.2 := by
  unfold D_X9_without at hD
  refine ev_aload_n dX9_without_0 0 rfl rfl ?_
  refine ev_iconst dX9_without_1 (mi_c rfl) ?_
  obtain ⟨s1, g, hD⟩ := bd hD
  refine ew_putI 8 0 dX9_without_2 rfl (Nat.le_of_ble_eq_true rfl) w_1265 in_X9 tyX9_ok nmX9 (Or.inl rfl) rfl g ?_
  refine ev_aload_n dX9_without_5 0 rfl rfl ?_
  refine ev_iload_n dX9_without_6 1 rfl rfl ?_
  obtain ⟨_, g0, hD⟩ := bd hD
  obtain ⟨r2, g, hD⟩ := bd hD
  refine ew_callVv (as := [vi x1]) (a := x0) (rest := []) dX9_without_7 v_X9_isRule w_1617 rfl (Nat.le_of_ble_eq_true rfl) rfl rfl g0 (Nat.le_of_ble_eq_true rfl) (Nat.le_of_ble_eq_true rfl) (ct_X9_isRule g) ?_
  by_cases c : r2.1 = 0
  · rw [if_pos c] at hD
    refine ev_if_eq_t (tgt := 28) dX9_without_10 (by decide) c ?_
    refine Ev.pick [] rfl ?_
    exact lk_X9_without_28 hD
  · rw [if_neg c] at hD
    refine ev_if_eq_f 28 dX9_without_10 (by decide) c ?_
    refine ev_aload_n dX9_without_13 0 rfl rfl ?_
    refine ev_iload_n dX9_without_14 2 rfl rfl ?_
    refine ev_iconst dX9_without_15 (mi_c rfl) ?_
    refine ev_iconst dX9_without_16 (mi_c rfl) ?_
    obtain ⟨r3, g, hD⟩ := bd hD
    refine ew_callSv (as := [vi x2, vi 0, vi 2]) (rest := [vr x0]) dX9_without_17 v_X9_within w_1438 rfl (Nat.le_of_ble_eq_true rfl) (Nat.le_of_ble_eq_true rfl) (Nat.le_of_ble_eq_true rfl) (ct_X9_within g) ?_
    refine ev_iconst dX9_without_20 (mi_c rfl) ?_
    refine ev_iconst dX9_without_21 (mi_c rfl) ?_
    obtain ⟨_, g0, hD⟩ := bd hD
    obtain ⟨r4, g, hD⟩ := bd hD
    refine ew_callVv (as := [vi r3, vi 2, vi 1]) (a := x0) (rest := []) dX9_without_22 v_X9_isFine w_1441 rfl (Nat.le_of_ble_eq_true rfl) rfl rfl g0 (Nat.le_of_ble_eq_true rfl) (Nat.le_of_ble_eq_true rfl) (ct_X9_isFine g) ?_
    by_cases c : r4.1 ≠ 0
    · rw [if_pos c] at hD
      refine ev_if_ne_t (tgt := 30) dX9_without_25 (by decide) c ?_
      refine ev_aload_n dX9_without_30 0 rfl rfl ?_
      refine ev_iload_n dX9_without_31 1 rfl rfl ?_
      obtain ⟨_, g0, hD⟩ := bd hD
      obtain ⟨r5, g, hD⟩ := bd hD
      refine ew_callV0 (as := [vi x1]) (a := x0) (rest := []) dX9_without_32 v_X9_laysWithout w_1779 rfl (Nat.le_of_ble_eq_true rfl) rfl rfl g0 (Nat.le_of_ble_eq_true rfl) (Nat.le_of_ble_eq_true rfl) (ct_X9_laysWithout g) ?_
      refine ev_aload_n dX9_without_35 0 rfl rfl ?_
      refine ev_iload_n dX9_without_36 2 rfl rfl ?_
      obtain ⟨_, g0, hD⟩ := bd hD
      obtain ⟨r6, g, hD⟩ := bd hD
      refine ew_callVv (as := [vi x2]) (a := x0) (rest := []) dX9_without_37 v_X9_toldBy w_1799 rfl (Nat.le_of_ble_eq_true rfl) rfl rfl g0 (Nat.le_of_ble_eq_true rfl) (Nat.le_of_ble_eq_true rfl) (ct_X9_toldBy g) ?_
      cases hD
      exact ev_ret (some (vi _)) dX9_without_40 True.intro
    · rw [if_neg c] at hD
      refine ev_if_ne_f 30 dX9_without_25 (by decide) c ?_
      refine Ev.pick [] rfl ?_
      exact lk_X9_without_28 hD
theorem ct_X9_without {G : mG} {x0 : Nat} {x1 : Int} {x2 : Int} {σ : mS} {R : (Int × mS)} (hD : D_X9_without x0 x1 x2 σ = some R) : Ct G M_X9_without [vr x0, vi x1, vi x2] σ (.inl (some (vi R.1))) R.2 := ct_of rfl (by decide +kernel) rfl (Nat.le_of_ble_eq_true rfl) rfl (lk_X9_without hD)
def D_X9_laysPinned (x0 : Nat) (x1 : Int) (x2 : Int) (σ : mS) : Option mS :=
  (pI σ x0 8 17 x1).bind fun s1 =>
  (pI s1 x0 8 18 x2).bind fun s2 =>
  (tgO s2 x0 8).bind fun _ =>
  (D_X9_lays x0 s2).bind fun r3 =>
  (pI r3 x0 8 17 ((-1))).bind fun s4 =>
  some s4
set_option maxRecDepth 100000 in
set_option maxHeartbeats 4000000 in
theorem lk_X9_laysPinned {G : mG} {x0 : Nat} {x1 : Int} {x2 : Int} {σ : mS} {R : mS} (hD : D_X9_laysPinned x0 x1 x2 σ = some R) : Ev G M_X9_laysPinned 0 [(0, vr x0), (1, vi x1), (2, vi x2)] [] σ (.inl none) R := by
  unfold D_X9_laysPinned at hD
  refine ev_aload_n dX9_laysPinned_0 0 rfl rfl ?_
  refine ev_iload_n dX9_laysPinned_1 1 rfl rfl ?_
  obtain ⟨s1, g, hD⟩ := bd hD
  refine ew_putI 8 17 dX9_laysPinned_2 rfl (Nat.le_of_ble_eq_true rfl) w_1282 in_X9 tyX9_ok nmX9 (Or.inl rfl) rfl g ?_
  refine ev_aload_n dX9_laysPinned_5 0 rfl rfl ?_
  refine ev_iload_n dX9_laysPinned_6 2 rfl rfl ?_
  obtain ⟨s2, g, hD⟩ := bd hD
  refine ew_putI 8 18 dX9_laysPinned_7 rfl (Nat.le_of_ble_eq_true rfl) w_1283 in_X9 tyX9_ok nmX9 (Or.inl rfl) rfl g ?_
  refine ev_aload_n dX9_laysPinned_10 0 rfl rfl ?_
  obtain ⟨_, g0, hD⟩ := bd hD
  obtain ⟨r3, g, hD⟩ := bd hD
  refine ew_callV0 (as := []) (a := x0) (rest := []) dX9_laysPinned_11 v_X9_lays w_1621 rfl (Nat.le_of_ble_eq_true rfl) rfl rfl g0 (Nat.le_of_ble_eq_true rfl) (Nat.le_of_ble_eq_true rfl) (ct_X9_lays g) ?_
  refine ev_aload_n dX9_laysPinned_14 0 rfl rfl ?_
  refine ev_iconst dX9_laysPinned_15 (mi_c rfl) ?_
  obtain ⟨s4, g, hD⟩ := bd hD
  refine ew_putI 8 17 dX9_laysPinned_16 rfl (Nat.le_of_ble_eq_true rfl) w_1282 in_X9 tyX9_ok nmX9 (Or.inl rfl) rfl g ?_
  cases hD
  exact ev_ret none dX9_laysPinned_19 True.intro
theorem ct_X9_laysPinned {G : mG} {x0 : Nat} {x1 : Int} {x2 : Int} {σ : mS} {R : mS} (hD : D_X9_laysPinned x0 x1 x2 σ = some R) : Ct G M_X9_laysPinned [vr x0, vi x1, vi x2] σ (.inl none) R := ct_of rfl (by decide +kernel) rfl (Nat.le_of_ble_eq_true rfl) rfl (lk_X9_laysPinned hD)
def D_X9_pinned_36 (σ : mS) : Option (Int × mS) :=
  some (0, σ)
set_option maxRecDepth 100000 in
set_option maxHeartbeats 4000000 in
theorem lk_X9_pinned_36 {G : mG} {σ : mS} {R : (Int × mS)} (hD : D_X9_pinned_36  σ = some R) : Ev G M_X9_pinned 36 [] [] σ (.inl (some (vi R.1))) R.2 := by
  unfold D_X9_pinned_36 at hD
  refine ev_iconst dX9_pinned_36 (mi_c rfl) ?_
  cases hD
  exact ev_ret (some (vi _)) dX9_pinned_37 True.intro
def D_X9_pinned (x0 : Nat) (x1 : Int) (x2 : Int) (x3 : Int) (σ : mS) : Option (Int × mS) :=
  (pI σ x0 8 0 0).bind fun s1 =>
  (tgO s1 x0 8).bind fun _ =>
  (D_X9_isSample x0 x1 s1).bind fun r2 =>
  if r2.1 = 0 then
    D_X9_pinned_36  r2.2
  else
    (tgO r2.2 x0 8).bind fun _ =>
    (D_X9_isYear x0 x2 r2.2).bind fun r3 =>
    if r3.1 = 0 then
      D_X9_pinned_36  r3.2
    else
      (D_X9_within x3 0 2 r3.2).bind fun r4 =>
      (tgO r3.2 x0 8).bind fun _ =>
      (D_X9_isFine x0 r4 2 1 r3.2).bind fun r5 =>
      if r5.1 ≠ 0 then
        (tgO r5.2 x0 8).bind fun _ =>
        (D_X9_laysPinned x0 x1 x2 r5.2).bind fun r6 =>
        (tgO r6 x0 8).bind fun _ =>
        (D_X9_toldBy x0 x3 r6).bind fun r7 =>
        some (r7, r6)
      else
        D_X9_pinned_36  r5.2
set_option maxRecDepth 100000 in
set_option maxHeartbeats 4000000 in
theorem lk_X9_pinned {G : mG} {x0 : Nat} {x1 : Int} {x2 : Int} {x3 : Int} {σ : mS} {R : (Int × mS)} (hD : D_X9_pinned x0 x1 x2 x3 σ = some R) : Ev G M_X9_pinned 0 [(0, vr x0), (1, vi x1), (2, vi x2), (3, vi x3)] [] σ (.inl (some (vi R.1))) R.2 := by
  unfold D_X9_pinned at hD
  refine ev_aload_n dX9_pinned_0 0 rfl rfl ?_
  refine ev_iconst dX9_pinned_1 (mi_c rfl) ?_
  obtain ⟨s1, g, hD⟩ := bd hD
  refine ew_putI 8 0 dX9_pinned_2 rfl (Nat.le_of_ble_eq_true rfl) w_1265 in_X9 tyX9_ok nmX9 (Or.inl rfl) rfl g ?_
  refine ev_aload_n dX9_pinned_5 0 rfl rfl ?_
  refine ev_iload_n dX9_pinned_6 1 rfl rfl ?_
  obtain ⟨_, g0, hD⟩ := bd hD
  obtain ⟨r2, g, hD⟩ := bd hD
  refine ew_callVv (as := [vi x1]) (a := x0) (rest := []) dX9_pinned_7 v_X9_isSample w_1593 rfl (Nat.le_of_ble_eq_true rfl) rfl rfl g0 (Nat.le_of_ble_eq_true rfl) (Nat.le_of_ble_eq_true rfl) (ct_X9_isSample g) ?_
  by_cases c : r2.1 = 0
  · rw [if_pos c] at hD
    refine ev_if_eq_t (tgt := 36) dX9_pinned_10 (by decide) c ?_
    refine Ev.pick [] rfl ?_
    exact lk_X9_pinned_36 hD
  · rw [if_neg c] at hD
    refine ev_if_eq_f 36 dX9_pinned_10 (by decide) c ?_
    refine ev_aload_n dX9_pinned_13 0 rfl rfl ?_
    refine ev_iload_n dX9_pinned_14 2 rfl rfl ?_
    obtain ⟨_, g0, hD⟩ := bd hD
    obtain ⟨r3, g, hD⟩ := bd hD
    refine ew_callVv (as := [vi x2]) (a := x0) (rest := []) dX9_pinned_15 v_X9_isYear w_1711 rfl (Nat.le_of_ble_eq_true rfl) rfl rfl g0 (Nat.le_of_ble_eq_true rfl) (Nat.le_of_ble_eq_true rfl) (ct_X9_isYear g) ?_
    by_cases c : r3.1 = 0
    · rw [if_pos c] at hD
      refine ev_if_eq_t (tgt := 36) dX9_pinned_18 (by decide) c ?_
      refine Ev.pick [] rfl ?_
      exact lk_X9_pinned_36 hD
    · rw [if_neg c] at hD
      refine ev_if_eq_f 36 dX9_pinned_18 (by decide) c ?_
      refine ev_aload_n dX9_pinned_21 0 rfl rfl ?_
      refine ev_iload_n dX9_pinned_22 3 rfl rfl ?_
      refine ev_iconst dX9_pinned_23 (mi_c rfl) ?_
      refine ev_iconst dX9_pinned_24 (mi_c rfl) ?_
      obtain ⟨r4, g, hD⟩ := bd hD
      refine ew_callSv (as := [vi x3, vi 0, vi 2]) (rest := [vr x0]) dX9_pinned_25 v_X9_within w_1438 rfl (Nat.le_of_ble_eq_true rfl) (Nat.le_of_ble_eq_true rfl) (Nat.le_of_ble_eq_true rfl) (ct_X9_within g) ?_
      refine ev_iconst dX9_pinned_28 (mi_c rfl) ?_
      refine ev_iconst dX9_pinned_29 (mi_c rfl) ?_
      obtain ⟨_, g0, hD⟩ := bd hD
      obtain ⟨r5, g, hD⟩ := bd hD
      refine ew_callVv (as := [vi r4, vi 2, vi 1]) (a := x0) (rest := []) dX9_pinned_30 v_X9_isFine w_1441 rfl (Nat.le_of_ble_eq_true rfl) rfl rfl g0 (Nat.le_of_ble_eq_true rfl) (Nat.le_of_ble_eq_true rfl) (ct_X9_isFine g) ?_
      by_cases c : r5.1 ≠ 0
      · rw [if_pos c] at hD
        refine ev_if_ne_t (tgt := 38) dX9_pinned_33 (by decide) c ?_
        refine ev_aload_n dX9_pinned_38 0 rfl rfl ?_
        refine ev_iload_n dX9_pinned_39 1 rfl rfl ?_
        refine ev_iload_n dX9_pinned_40 2 rfl rfl ?_
        obtain ⟨_, g0, hD⟩ := bd hD
        obtain ⟨r6, g, hD⟩ := bd hD
        refine ew_callV0 (as := [vi x1, vi x2]) (a := x0) (rest := []) dX9_pinned_41 v_X9_laysPinned w_1807 rfl (Nat.le_of_ble_eq_true rfl) rfl rfl g0 (Nat.le_of_ble_eq_true rfl) (Nat.le_of_ble_eq_true rfl) (ct_X9_laysPinned g) ?_
        refine ev_aload_n dX9_pinned_44 0 rfl rfl ?_
        refine ev_iload_n dX9_pinned_45 3 rfl rfl ?_
        obtain ⟨_, g0, hD⟩ := bd hD
        obtain ⟨r7, g, hD⟩ := bd hD
        refine ew_callVv (as := [vi x3]) (a := x0) (rest := []) dX9_pinned_46 v_X9_toldBy w_1799 rfl (Nat.le_of_ble_eq_true rfl) rfl rfl g0 (Nat.le_of_ble_eq_true rfl) (Nat.le_of_ble_eq_true rfl) (ct_X9_toldBy g) ?_
        cases hD
        exact ev_ret (some (vi _)) dX9_pinned_49 True.intro
      · rw [if_neg c] at hD
        refine ev_if_ne_f 38 dX9_pinned_33 (by decide) c ?_
        refine Ev.pick [] rfl ?_
        exact lk_X9_pinned_36 hD
theorem ct_X9_pinned {G : mG} {x0 : Nat} {x1 : Int} {x2 : Int} {x3 : Int} {σ : mS} {R : (Int × mS)} (hD : D_X9_pinned x0 x1 x2 x3 σ = some R) : Ct G M_X9_pinned [vr x0, vi x1, vi x2, vi x3] σ (.inl (some (vi R.1))) R.2 := ct_of rfl (by decide +kernel) rfl (Nat.le_of_ble_eq_true rfl) rfl (lk_X9_pinned hD)
def D_X9_doomed_69 (rec : Nat → Int → Int → Int → mS → Option (Int × mS)) (x0 : Nat) (x1 : Int) (x2 : Int) (x3 : Int) (σ : mS) : Option (Int × mS) :=
  rec x0 x1 x2 (mw (x3 + 1)) σ
set_option maxRecDepth 100000 in
set_option maxHeartbeats 4000000 in
theorem lk_X9_doomed_69 {G : mG} {rec : Nat → Int → Int → Int → mS → Option (Int × mS)} {x0 : Nat} {x1 : Int} {x2 : Int} {x3 : Int} {σ : mS} {R : (Int × mS)} {r : mX} {τ : mS} (hD : D_X9_doomed_69 rec x0 x1 x2 x3 σ = some R) (hrec : ∀ {x0 : Nat} {x1 : Int} {x2 : Int} {x3 : Int} {σ : mS} {R : (Int × mS)}, rec x0 x1 x2 x3 σ = some R → ∀ {r : mX} {τ : mS}, Ev G M_X9_doomed 75 [(2, vi (R.1))] [] R.2 r τ → Ev G M_X9_doomed 27 [(0, vr x0), (1, vi x1), (2, vi x2), (3, vi x3)] [] σ r τ) (hk : Ev G M_X9_doomed 75 [(2, vi (R.1))] [] R.2 r τ) : Ev G M_X9_doomed 69 [(0, vr x0), (1, vi x1), (2, vi x2), (3, vi x3)] [] σ r τ := by
  unfold D_X9_doomed_69 at hD
  refine ev_iinc dX9_doomed_69 3 rfl (Nat.le_of_ble_eq_true rfl) rfl ?_
  refine ev_goto (tgt := 27) dX9_doomed_72 (by decide) ?_
  refine Ev.pick [1, 2, 3, 0] rfl ?_
  exact hrec hD hk
def D_X9_doomed_67 (rec : Nat → Int → Int → Int → mS → Option (Int × mS)) (x0 : Nat) (x1 : Int) (x3 : Int) (y0 : Int) (y1 : Int) (σ : mS) : Option (Int × mS) :=
  D_X9_doomed_69 rec x0 x1 (mw (y1 + y0)) x3 σ
set_option maxRecDepth 100000 in
set_option maxHeartbeats 4000000 in
theorem lk_X9_doomed_67 {G : mG} {rec : Nat → Int → Int → Int → mS → Option (Int × mS)} {x0 : Nat} {x1 : Int} {x3 : Int} {y0 : Int} {y1 : Int} {σ : mS} {R : (Int × mS)} {r : mX} {τ : mS} (hD : D_X9_doomed_67 rec x0 x1 x3 y0 y1 σ = some R) (hrec : ∀ {x0 : Nat} {x1 : Int} {x2 : Int} {x3 : Int} {σ : mS} {R : (Int × mS)}, rec x0 x1 x2 x3 σ = some R → ∀ {r : mX} {τ : mS}, Ev G M_X9_doomed 75 [(2, vi (R.1))] [] R.2 r τ → Ev G M_X9_doomed 27 [(0, vr x0), (1, vi x1), (2, vi x2), (3, vi x3)] [] σ r τ) (hk : Ev G M_X9_doomed 75 [(2, vi (R.1))] [] R.2 r τ) : Ev G M_X9_doomed 67 [(0, vr x0), (1, vi x1), (3, vi x3)] [vi y0, vi y1] σ r τ := by
  unfold D_X9_doomed_67 at hD
  refine ev_iadd dX9_doomed_67 ?_
  refine ev_istore_n dX9_doomed_68 rfl (Nat.le_of_ble_eq_true rfl) rfl ?_
  refine Ev.pick [1, 2, 0, 3] rfl ?_
  exact lk_X9_doomed_69 hD hrec hk
def D_X9_doomed_27 : Nat → Nat → Int → Int → Int → mS → Option (Int × mS)
  | 0, _, _, _, _, _ => none
  | f + 1, x0, x1, x2, x3, σ =>
    if 1000 ≤ x3 then
      some (x2, σ)
    else
      (gR σ x0 8 50).bind fun v1 =>
      (lR σ v1 x1).bind fun v2 =>
      (lB σ v2 x3).bind fun v3 =>
      if v3 ≠ 0 then
        (tgO σ x0 8).bind fun _ =>
        (D_X9_laysPinned x0 x1 x3 σ).bind fun r4 =>
        (gI r4 x0 8 24).bind fun v5 =>
        if v5 = 0 then
          D_X9_doomed_67 (D_X9_doomed_27 f) x0 x1 x3 0 x2 r4
        else
          D_X9_doomed_67 (D_X9_doomed_27 f) x0 x1 x3 1 x2 r4
      else
        D_X9_doomed_69 (D_X9_doomed_27 f) x0 x1 x2 x3 σ
set_option maxRecDepth 100000 in
set_option maxHeartbeats 4000000 in
theorem lk_X9_doomed_27 {G : mG} (f : Nat) : ∀ {x0 : Nat} {x1 : Int} {x2 : Int} {x3 : Int} {σ : mS} {R : (Int × mS)}, D_X9_doomed_27 f x0 x1 x2 x3 σ = some R → ∀ {r : mX} {τ : mS}, Ev G M_X9_doomed 75 [(2, vi (R.1))] [] R.2 r τ → Ev G M_X9_doomed 27 [(0, vr x0), (1, vi x1), (2, vi x2), (3, vi x3)] [] σ r τ := by
  induction f with
  | zero =>
    intros
    rename_i hD _ _ _
    cases hD
  | succ f ih =>
    intro x0 x1 x2 x3 σ R hD r τ hk
    have hrec := @ih
    rw [D_X9_doomed_27] at hD
    refine ev_iload_n dX9_doomed_27 3 rfl rfl ?_
    refine ev_sp dX9_doomed_28 rfl ?_
    by_cases c : 1000 ≤ x3
    · rw [if_pos c] at hD
      refine ev_icmp_ge_t (tgt := 75) dX9_doomed_31 (by decide) c ?_
      cases hD
      refine Ev.pick [2] rfl ?_
      exact hk
    · rw [if_neg c] at hD
      refine ev_icmp_ge_f 75 dX9_doomed_31 (by decide) c ?_
      refine ev_aload_n dX9_doomed_34 0 rfl rfl ?_
      obtain ⟨v1, g, hD⟩ := bd hD
      refine ew_getR 8 50 dX9_doomed_35 rfl (Nat.le_of_ble_eq_true rfl) w_1315 in_X9 rfl g ?_
      refine ev_iload_n dX9_doomed_38 1 rfl rfl ?_
      obtain ⟨v2, g, hD⟩ := bd hD
      refine ew_aald dX9_doomed_39 g ?_
      refine ev_iload_n dX9_doomed_40 3 rfl rfl ?_
      obtain ⟨v3, g, hD⟩ := bd hD
      refine ew_bald dX9_doomed_41 g ?_
      by_cases c : v3 ≠ 0
      · rw [if_pos c] at hD
        refine ev_if_ne_t (tgt := 48) dX9_doomed_42 (by decide) c ?_
        refine ev_aload_n dX9_doomed_48 0 rfl rfl ?_
        refine ev_iload_n dX9_doomed_49 1 rfl rfl ?_
        refine ev_iload_n dX9_doomed_50 3 rfl rfl ?_
        obtain ⟨_, g0, hD⟩ := bd hD
        obtain ⟨r4, g, hD⟩ := bd hD
        refine ew_callV0 (as := [vi x1, vi x3]) (a := x0) (rest := []) dX9_doomed_51 v_X9_laysPinned w_1807 rfl (Nat.le_of_ble_eq_true rfl) rfl rfl g0 (Nat.le_of_ble_eq_true rfl) (Nat.le_of_ble_eq_true rfl) (ct_X9_laysPinned g) ?_
        refine ev_iload_n dX9_doomed_54 2 rfl rfl ?_
        refine ev_aload_n dX9_doomed_55 0 rfl rfl ?_
        obtain ⟨v5, g, hD⟩ := bd hD
        refine ew_getI 8 24 dX9_doomed_56 rfl (Nat.le_of_ble_eq_true rfl) w_1289 in_X9 rfl g ?_
        by_cases c : v5 = 0
        · rw [if_pos c] at hD
          refine ev_if_eq_t (tgt := 66) dX9_doomed_59 (by decide) c ?_
          refine ev_iconst dX9_doomed_66 (mi_c rfl) ?_
          refine Ev.pick [0, 1, 3] rfl ?_
          exact lk_X9_doomed_67 hD hrec hk
        · rw [if_neg c] at hD
          refine ev_if_eq_f 66 dX9_doomed_59 (by decide) c ?_
          refine ev_iconst dX9_doomed_62 (mi_c rfl) ?_
          refine ev_goto (tgt := 67) dX9_doomed_63 (by decide) ?_
          refine Ev.pick [0, 1, 3] rfl ?_
          exact lk_X9_doomed_67 hD hrec hk
      · rw [if_neg c] at hD
        refine ev_if_ne_f 48 dX9_doomed_42 (by decide) c ?_
        refine ev_goto (tgt := 69) dX9_doomed_45 (by decide) ?_
        exact lk_X9_doomed_69 hD hrec hk
def D_X9_doomed (x0 : Nat) (x1 : Int) (σ : mS) : Option (Int × mS) :=
  (pI σ x0 8 0 0).bind fun s1 =>
  (tgO s1 x0 8).bind fun _ =>
  (D_X9_isSample x0 x1 s1).bind fun r2 =>
  if r2.1 ≠ 0 then
    (tgO r2.2 x0 8).bind fun _ =>
    (D_X9_lays x0 r2.2).bind fun r3 =>
    (tgO r3 x0 8).bind fun _ =>
    (D_X9_laysWere x0 r3).bind fun r4 =>
    (D_X9_doomed_27 mFU x0 x1 0 0 r4).bind fun r5 =>
    some (r5.1, r5.2)
  else
    some (0, r2.2)
set_option maxRecDepth 100000 in
set_option maxHeartbeats 4000000 in
theorem lk_X9_doomed {G : mG} {x0 : Nat} {x1 : Int} {σ : mS} {R : (Int × mS)} (hD : D_X9_doomed x0 x1 σ = some R) : Ev G M_X9_doomed 0 [(0, vr x0), (1, vi x1)] [] σ (.inl (some (vi R.1))) R.2 := by
  unfold D_X9_doomed at hD
  refine ev_aload_n dX9_doomed_0 0 rfl rfl ?_
  refine ev_iconst dX9_doomed_1 (mi_c rfl) ?_
  obtain ⟨s1, g, hD⟩ := bd hD
  refine ew_putI 8 0 dX9_doomed_2 rfl (Nat.le_of_ble_eq_true rfl) w_1265 in_X9 tyX9_ok nmX9 (Or.inl rfl) rfl g ?_
  refine ev_aload_n dX9_doomed_5 0 rfl rfl ?_
  refine ev_iload_n dX9_doomed_6 1 rfl rfl ?_
  obtain ⟨_, g0, hD⟩ := bd hD
  obtain ⟨r2, g, hD⟩ := bd hD
  refine ew_callVv (as := [vi x1]) (a := x0) (rest := []) dX9_doomed_7 v_X9_isSample w_1593 rfl (Nat.le_of_ble_eq_true rfl) rfl rfl g0 (Nat.le_of_ble_eq_true rfl) (Nat.le_of_ble_eq_true rfl) (ct_X9_isSample g) ?_
  by_cases c : r2.1 ≠ 0
  · rw [if_pos c] at hD
    refine ev_if_ne_t (tgt := 15) dX9_doomed_10 (by decide) c ?_
    refine ev_aload_n dX9_doomed_15 0 rfl rfl ?_
    obtain ⟨_, g0, hD⟩ := bd hD
    obtain ⟨r3, g, hD⟩ := bd hD
    refine ew_callV0 (as := []) (a := x0) (rest := []) dX9_doomed_16 v_X9_lays w_1621 rfl (Nat.le_of_ble_eq_true rfl) rfl rfl g0 (Nat.le_of_ble_eq_true rfl) (Nat.le_of_ble_eq_true rfl) (ct_X9_lays g) ?_
    refine ev_aload_n dX9_doomed_19 0 rfl rfl ?_
    obtain ⟨_, g0, hD⟩ := bd hD
    obtain ⟨r4, g, hD⟩ := bd hD
    refine ew_callV0 (as := []) (a := x0) (rest := []) dX9_doomed_20 v_X9_laysWere w_1787 rfl (Nat.le_of_ble_eq_true rfl) rfl rfl g0 (Nat.le_of_ble_eq_true rfl) (Nat.le_of_ble_eq_true rfl) (ct_X9_laysWere g) ?_
    refine ev_iconst dX9_doomed_23 (mi_c rfl) ?_
    refine ev_istore_n dX9_doomed_24 rfl (Nat.le_of_ble_eq_true rfl) rfl ?_
    refine ev_iconst dX9_doomed_25 (mi_c rfl) ?_
    refine ev_istore_n dX9_doomed_26 rfl (Nat.le_of_ble_eq_true rfl) rfl ?_
    obtain ⟨r5, g, hD⟩ := bd hD
    refine Ev.pick [2, 3, 1, 0] rfl ?_
    refine lk_X9_doomed_27 mFU g ?_
    refine ev_iload_n dX9_doomed_75 0 rfl rfl ?_
    cases hD
    exact ev_ret (some (vi _)) dX9_doomed_76 True.intro
  · rw [if_neg c] at hD
    refine ev_if_ne_f 15 dX9_doomed_10 (by decide) c ?_
    refine ev_iconst dX9_doomed_13 (mi_c rfl) ?_
    cases hD
    exact ev_ret (some (vi _)) dX9_doomed_14 True.intro
theorem ct_X9_doomed {G : mG} {x0 : Nat} {x1 : Int} {σ : mS} {R : (Int × mS)} (hD : D_X9_doomed x0 x1 σ = some R) : Ct G M_X9_doomed [vr x0, vi x1] σ (.inl (some (vi R.1))) R.2 := ct_of rfl (by decide +kernel) rfl (Nat.le_of_ble_eq_true rfl) rfl (lk_X9_doomed hD)
def D_X9_phase_28 (σ : mS) : Option (Int × mS) :=
  some (0, σ)
set_option maxRecDepth 100000 in
set_option maxHeartbeats 4000000 in
theorem lk_X9_phase_28 {G : mG} {σ : mS} {R : (Int × mS)} (hD : D_X9_phase_28  σ = some R) : Ev G M_X9_phase 28 [] [] σ (.inl (some (vi R.1))) R.2 := by
  unfold D_X9_phase_28 at hD
  refine ev_iconst dX9_phase_28 (mi_c rfl) ?_
  cases hD
  exact ev_ret (some (vi _)) dX9_phase_29 True.intro
def D_X9_phase_173 (rec : Nat → Int → Int → Int → Int → Int → Int → Int → mS → Option (Int × Int × Int × Int × Int)) (x0 : Nat) (x1 : Int) (x3 : Int) (x4 : Int) (x5 : Int) (x6 : Int) (x7 : Int) (x8 : Int) (σ : mS) : Option (Int × Int × Int × Int × Int) :=
  rec x0 x1 x3 x4 x5 x6 x7 (mw (x8 + 1)) σ
set_option maxRecDepth 100000 in
set_option maxHeartbeats 4000000 in
theorem lk_X9_phase_173 {G : mG} {rec : Nat → Int → Int → Int → Int → Int → Int → Int → mS → Option (Int × Int × Int × Int × Int)} {x0 : Nat} {x1 : Int} {x2 : Int} {x3 : Int} {x4 : Int} {x5 : Int} {x6 : Int} {x7 : Int} {x8 : Int} {σ : mS} {R : (Int × Int × Int × Int × Int)} {r : mX} {τ : mS} (hD : D_X9_phase_173 rec x0 x1 x3 x4 x5 x6 x7 x8 σ = some R) (hrec : ∀ {x0 : Nat} {x1 : Int} {x3 : Int} {x4 : Int} {x5 : Int} {x6 : Int} {x7 : Int} {x8 : Int} {σ : mS} {R : (Int × Int × Int × Int × Int)}, rec x0 x1 x3 x4 x5 x6 x7 x8 σ = some R → ∀ {r : mX} {τ : mS}, Ev G M_X9_phase 179 [(2, vi x2), (3, vi (R.1)), (4, vi (R.2.1)), (5, vi (R.2.2.1)), (6, vi (R.2.2.2.1)), (7, vi (R.2.2.2.2))] [] σ r τ → Ev G M_X9_phase 64 [(0, vr x0), (1, vi x1), (2, vi x2), (3, vi x3), (4, vi x4), (5, vi x5), (6, vi x6), (7, vi x7), (8, vi x8)] [] σ r τ) (hk : Ev G M_X9_phase 179 [(2, vi x2), (3, vi (R.1)), (4, vi (R.2.1)), (5, vi (R.2.2.1)), (6, vi (R.2.2.2.1)), (7, vi (R.2.2.2.2))] [] σ r τ) : Ev G M_X9_phase 173 [(0, vr x0), (1, vi x1), (2, vi x2), (3, vi x3), (4, vi x4), (5, vi x5), (6, vi x6), (7, vi x7), (8, vi x8)] [] σ r τ := by
  unfold D_X9_phase_173 at hD
  refine ev_iinc dX9_phase_173 8 rfl (Nat.le_of_ble_eq_true rfl) rfl ?_
  refine ev_goto (tgt := 64) dX9_phase_176 (by decide) ?_
  refine Ev.pick [1, 2, 3, 4, 5, 6, 7, 8, 0] rfl ?_
  exact hrec hD hk
def D_X9_phase_145 (rec : Nat → Int → Int → Int → Int → Int → Int → Int → mS → Option (Int × Int × Int × Int × Int)) (x0 : Nat) (x1 : Int) (x4 : Int) (x5 : Int) (x6 : Int) (x7 : Int) (x8 : Int) (x9 : Int) (x10 : Int) (y0 : Int) (σ : mS) : Option (Int × Int × Int × Int × Int) :=
  D_X9_phase_173 rec x0 x1 y0 (if x4 < x10 then x10 else x4) (if x5 < x9 then x9 else x5) (if x10 < x6 then x10 else x6) x7 x8 σ
set_option maxRecDepth 100000 in
set_option maxHeartbeats 4000000 in
theorem lk_X9_phase_145 {G : mG} {rec : Nat → Int → Int → Int → Int → Int → Int → Int → mS → Option (Int × Int × Int × Int × Int)} {x0 : Nat} {x1 : Int} {x2 : Int} {x4 : Int} {x5 : Int} {x6 : Int} {x7 : Int} {x8 : Int} {x9 : Int} {x10 : Int} {y0 : Int} {σ : mS} {R : (Int × Int × Int × Int × Int)} {r : mX} {τ : mS} (hD : D_X9_phase_145 rec x0 x1 x4 x5 x6 x7 x8 x9 x10 y0 σ = some R) (hrec : ∀ {x0 : Nat} {x1 : Int} {x3 : Int} {x4 : Int} {x5 : Int} {x6 : Int} {x7 : Int} {x8 : Int} {σ : mS} {R : (Int × Int × Int × Int × Int)}, rec x0 x1 x3 x4 x5 x6 x7 x8 σ = some R → ∀ {r : mX} {τ : mS}, Ev G M_X9_phase 179 [(2, vi x2), (3, vi (R.1)), (4, vi (R.2.1)), (5, vi (R.2.2.1)), (6, vi (R.2.2.2.1)), (7, vi (R.2.2.2.2))] [] σ r τ → Ev G M_X9_phase 64 [(0, vr x0), (1, vi x1), (2, vi x2), (3, vi x3), (4, vi x4), (5, vi x5), (6, vi x6), (7, vi x7), (8, vi x8)] [] σ r τ) (hk : Ev G M_X9_phase 179 [(2, vi x2), (3, vi (R.1)), (4, vi (R.2.1)), (5, vi (R.2.2.1)), (6, vi (R.2.2.2.1)), (7, vi (R.2.2.2.2))] [] σ r τ) : Ev G M_X9_phase 145 [(0, vr x0), (1, vi x1), (2, vi x2), (4, vi x4), (5, vi x5), (6, vi x6), (7, vi x7), (8, vi x8), (9, vi x9), (10, vi x10)] [vi y0] σ r τ := by
  unfold D_X9_phase_145 at hD
  refine ev_istore_n dX9_phase_145 rfl (Nat.le_of_ble_eq_true rfl) rfl ?_
  refine ev_iload dX9_phase_146 4 rfl ?_
  refine ev_iload dX9_phase_148 10 rfl ?_
  refine ev_mmax dX9_phase_150 w_1670 w_569 w_133 w_570 (Nat.le_of_ble_eq_true rfl) (Nat.le_of_ble_eq_true rfl) (Nat.le_of_ble_eq_true rfl) ?_
  refine ev_istore dX9_phase_153 (Nat.le_of_ble_eq_true rfl) rfl ?_
  refine ev_iload dX9_phase_155 5 rfl ?_
  refine ev_iload dX9_phase_157 9 rfl ?_
  refine ev_mmax dX9_phase_159 w_1670 w_569 w_133 w_570 (Nat.le_of_ble_eq_true rfl) (Nat.le_of_ble_eq_true rfl) (Nat.le_of_ble_eq_true rfl) ?_
  refine ev_istore dX9_phase_162 (Nat.le_of_ble_eq_true rfl) rfl ?_
  refine ev_iload dX9_phase_164 6 rfl ?_
  refine ev_iload dX9_phase_166 10 rfl ?_
  refine ev_mmin dX9_phase_168 w_1489 w_572 w_133 w_573 (Nat.le_of_ble_eq_true rfl) (Nat.le_of_ble_eq_true rfl) (Nat.le_of_ble_eq_true rfl) ?_
  refine ev_istore dX9_phase_171 (Nat.le_of_ble_eq_true rfl) rfl ?_
  refine Ev.pick [4, 5, 6, 3, 2, 1, 0, 7, 8] rfl ?_
  exact lk_X9_phase_173 hD hrec hk
def D_X9_phase_139 (rec : Nat → Int → Int → Int → Int → Int → Int → Int → mS → Option (Int × Int × Int × Int × Int)) (x0 : Nat) (x1 : Int) (x4 : Int) (x5 : Int) (x6 : Int) (x7 : Int) (x8 : Int) (x9 : Int) (x10 : Int) (σ : mS) : Option (Int × Int × Int × Int × Int) :=
  D_X9_phase_145 rec x0 x1 x4 x5 x6 x7 x8 x9 x10 x9 σ
set_option maxRecDepth 100000 in
set_option maxHeartbeats 4000000 in
theorem lk_X9_phase_139 {G : mG} {rec : Nat → Int → Int → Int → Int → Int → Int → Int → mS → Option (Int × Int × Int × Int × Int)} {x0 : Nat} {x1 : Int} {x2 : Int} {x4 : Int} {x5 : Int} {x6 : Int} {x7 : Int} {x8 : Int} {x9 : Int} {x10 : Int} {σ : mS} {R : (Int × Int × Int × Int × Int)} {r : mX} {τ : mS} (hD : D_X9_phase_139 rec x0 x1 x4 x5 x6 x7 x8 x9 x10 σ = some R) (hrec : ∀ {x0 : Nat} {x1 : Int} {x3 : Int} {x4 : Int} {x5 : Int} {x6 : Int} {x7 : Int} {x8 : Int} {σ : mS} {R : (Int × Int × Int × Int × Int)}, rec x0 x1 x3 x4 x5 x6 x7 x8 σ = some R → ∀ {r : mX} {τ : mS}, Ev G M_X9_phase 179 [(2, vi x2), (3, vi (R.1)), (4, vi (R.2.1)), (5, vi (R.2.2.1)), (6, vi (R.2.2.2.1)), (7, vi (R.2.2.2.2))] [] σ r τ → Ev G M_X9_phase 64 [(0, vr x0), (1, vi x1), (2, vi x2), (3, vi x3), (4, vi x4), (5, vi x5), (6, vi x6), (7, vi x7), (8, vi x8)] [] σ r τ) (hk : Ev G M_X9_phase 179 [(2, vi x2), (3, vi (R.1)), (4, vi (R.2.1)), (5, vi (R.2.2.1)), (6, vi (R.2.2.2.1)), (7, vi (R.2.2.2.2))] [] σ r τ) : Ev G M_X9_phase 139 [(0, vr x0), (1, vi x1), (2, vi x2), (4, vi x4), (5, vi x5), (6, vi x6), (7, vi x7), (8, vi x8), (9, vi x9), (10, vi x10)] [] σ r τ := by
  unfold D_X9_phase_139 at hD
  refine ev_iload dX9_phase_139 8 rfl ?_
  refine ev_goto (tgt := 145) dX9_phase_141 (by decide) ?_
  exact lk_X9_phase_145 hD hrec hk
def D_X9_phase_117 (rec : Nat → Int → Int → Int → Int → Int → Int → Int → mS → Option (Int × Int × Int × Int × Int)) (x0 : Nat) (x1 : Int) (x3 : Int) (x4 : Int) (x5 : Int) (x6 : Int) (x8 : Int) (x9 : Int) (x10 : Int) (y0 : Int) (σ : mS) : Option (Int × Int × Int × Int × Int) :=
  if x9 ≠ ((-1)) then
    if x3 = ((-1)) then
      D_X9_phase_139 rec x0 x1 x4 x5 x6 y0 x8 x9 x10 σ
    else
      if x3 ≤ x9 then
        D_X9_phase_145 rec x0 x1 x4 x5 x6 y0 x8 x9 x10 x3 σ
      else
        D_X9_phase_139 rec x0 x1 x4 x5 x6 y0 x8 x9 x10 σ
  else
    D_X9_phase_173 rec x0 x1 x3 x4 x5 x6 y0 x8 σ
set_option maxRecDepth 100000 in
set_option maxHeartbeats 4000000 in
theorem lk_X9_phase_117 {G : mG} {rec : Nat → Int → Int → Int → Int → Int → Int → Int → mS → Option (Int × Int × Int × Int × Int)} {x0 : Nat} {x1 : Int} {x2 : Int} {x3 : Int} {x4 : Int} {x5 : Int} {x6 : Int} {x8 : Int} {x9 : Int} {x10 : Int} {y0 : Int} {σ : mS} {R : (Int × Int × Int × Int × Int)} {r : mX} {τ : mS} (hD : D_X9_phase_117 rec x0 x1 x3 x4 x5 x6 x8 x9 x10 y0 σ = some R) (hrec : ∀ {x0 : Nat} {x1 : Int} {x3 : Int} {x4 : Int} {x5 : Int} {x6 : Int} {x7 : Int} {x8 : Int} {σ : mS} {R : (Int × Int × Int × Int × Int)}, rec x0 x1 x3 x4 x5 x6 x7 x8 σ = some R → ∀ {r : mX} {τ : mS}, Ev G M_X9_phase 179 [(2, vi x2), (3, vi (R.1)), (4, vi (R.2.1)), (5, vi (R.2.2.1)), (6, vi (R.2.2.2.1)), (7, vi (R.2.2.2.2))] [] σ r τ → Ev G M_X9_phase 64 [(0, vr x0), (1, vi x1), (2, vi x2), (3, vi x3), (4, vi x4), (5, vi x5), (6, vi x6), (7, vi x7), (8, vi x8)] [] σ r τ) (hk : Ev G M_X9_phase 179 [(2, vi x2), (3, vi (R.1)), (4, vi (R.2.1)), (5, vi (R.2.2.1)), (6, vi (R.2.2.2.1)), (7, vi (R.2.2.2.2))] [] σ r τ) : Ev G M_X9_phase 117 [(0, vr x0), (1, vi x1), (2, vi x2), (3, vi x3), (4, vi x4), (5, vi x5), (6, vi x6), (8, vi x8), (9, vi x9), (10, vi x10)] [vi y0] σ r τ := by
  unfold D_X9_phase_117 at hD
  refine ev_istore dX9_phase_117 (Nat.le_of_ble_eq_true rfl) rfl ?_
  refine ev_iload dX9_phase_119 9 rfl ?_
  refine ev_iconst dX9_phase_121 (mi_c rfl) ?_
  by_cases c : x9 ≠ ((-1))
  · rw [if_pos c] at hD
    refine ev_icmp_ne_t (tgt := 128) dX9_phase_122 (by decide) c ?_
    refine ev_iload_n dX9_phase_128 4 rfl rfl ?_
    refine ev_iconst dX9_phase_129 (mi_c rfl) ?_
    by_cases c : x3 = ((-1))
    · rw [if_pos c] at hD
      refine ev_icmp_eq_t (tgt := 139) dX9_phase_130 (by decide) c ?_
      refine Ev.pick [1, 2, 3, 5, 6, 7, 0, 8, 9, 10] rfl ?_
      exact lk_X9_phase_139 hD hrec hk
    · rw [if_neg c] at hD
      refine ev_icmp_eq_f 139 dX9_phase_130 (by decide) c ?_
      refine ev_iload dX9_phase_133 9 rfl ?_
      refine ev_iload_n dX9_phase_135 4 rfl rfl ?_
      by_cases c : x3 ≤ x9
      · rw [if_pos c] at hD
        refine ev_icmp_ge_t (tgt := 144) dX9_phase_136 (by decide) c ?_
        refine ev_iload_n dX9_phase_144 4 rfl rfl ?_
        refine Ev.pick [1, 2, 3, 5, 6, 7, 0, 8, 9, 10] rfl ?_
        exact lk_X9_phase_145 hD hrec hk
      · rw [if_neg c] at hD
        refine ev_icmp_ge_f 144 dX9_phase_136 (by decide) c ?_
        refine Ev.pick [1, 2, 3, 5, 6, 7, 0, 8, 9, 10] rfl ?_
        exact lk_X9_phase_139 hD hrec hk
  · rw [if_neg c] at hD
    refine ev_icmp_ne_f 128 dX9_phase_122 (by decide) c ?_
    refine ev_goto (tgt := 173) dX9_phase_125 (by decide) ?_
    refine Ev.pick [1, 2, 3, 4, 5, 6, 7, 0, 8] rfl ?_
    exact lk_X9_phase_173 hD hrec hk
def D_X9_phase_112 (rec : Nat → Int → Int → Int → Int → Int → Int → Int → mS → Option (Int × Int × Int × Int × Int)) (x0 : Nat) (x1 : Int) (x3 : Int) (x4 : Int) (x5 : Int) (x6 : Int) (x8 : Int) (x9 : Int) (x10 : Int) (σ : mS) : Option (Int × Int × Int × Int × Int) :=
  D_X9_phase_117 rec x0 x1 x3 x4 x5 x6 x8 x9 x10 1 σ
set_option maxRecDepth 100000 in
set_option maxHeartbeats 4000000 in
theorem lk_X9_phase_112 {G : mG} {rec : Nat → Int → Int → Int → Int → Int → Int → Int → mS → Option (Int × Int × Int × Int × Int)} {x0 : Nat} {x1 : Int} {x2 : Int} {x3 : Int} {x4 : Int} {x5 : Int} {x6 : Int} {x8 : Int} {x9 : Int} {x10 : Int} {σ : mS} {R : (Int × Int × Int × Int × Int)} {r : mX} {τ : mS} (hD : D_X9_phase_112 rec x0 x1 x3 x4 x5 x6 x8 x9 x10 σ = some R) (hrec : ∀ {x0 : Nat} {x1 : Int} {x3 : Int} {x4 : Int} {x5 : Int} {x6 : Int} {x7 : Int} {x8 : Int} {σ : mS} {R : (Int × Int × Int × Int × Int)}, rec x0 x1 x3 x4 x5 x6 x7 x8 σ = some R → ∀ {r : mX} {τ : mS}, Ev G M_X9_phase 179 [(2, vi x2), (3, vi (R.1)), (4, vi (R.2.1)), (5, vi (R.2.2.1)), (6, vi (R.2.2.2.1)), (7, vi (R.2.2.2.2))] [] σ r τ → Ev G M_X9_phase 64 [(0, vr x0), (1, vi x1), (2, vi x2), (3, vi x3), (4, vi x4), (5, vi x5), (6, vi x6), (7, vi x7), (8, vi x8)] [] σ r τ) (hk : Ev G M_X9_phase 179 [(2, vi x2), (3, vi (R.1)), (4, vi (R.2.1)), (5, vi (R.2.2.1)), (6, vi (R.2.2.2.1)), (7, vi (R.2.2.2.2))] [] σ r τ) : Ev G M_X9_phase 112 [(0, vr x0), (1, vi x1), (2, vi x2), (3, vi x3), (4, vi x4), (5, vi x5), (6, vi x6), (8, vi x8), (9, vi x9), (10, vi x10)] [] σ r τ := by
  unfold D_X9_phase_112 at hD
  refine ev_iconst dX9_phase_112 (mi_c rfl) ?_
  refine ev_goto (tgt := 117) dX9_phase_113 (by decide) ?_
  exact lk_X9_phase_117 hD hrec hk
def D_X9_phase_64 : Nat → Nat → Int → Int → Int → Int → Int → Int → Int → mS → Option (Int × Int × Int × Int × Int)
  | 0, _, _, _, _, _, _, _, _, _ => none
  | f + 1, x0, x1, x3, x4, x5, x6, x7, x8, σ =>
    (gR σ x0 8 11).bind fun v1 =>
    (lI σ v1 x1).bind fun v2 =>
    if v2 ≤ x8 then
      some (x3, x4, x5, x6, x7)
    else
      (tgO σ x0 8).bind fun _ =>
      (D_X9_memberOf x0 x1 x8 σ).bind fun r3 =>
      (tgO σ x0 8).bind fun _ =>
      (D_X9_earliest x0 r3 σ).bind fun r4 =>
      (tgO σ x0 8).bind fun _ =>
      (D_X9_memberOf x0 x1 x8 σ).bind fun r5 =>
      (tgO σ x0 8).bind fun _ =>
      (D_X9_latest x0 r5 σ).bind fun r6 =>
      if x7 ≠ 0 then
        D_X9_phase_112 (D_X9_phase_64 f) x0 x1 x3 x4 x5 x6 x8 r4 r6 σ
      else
        if r4 ≠ ((-1)) then
          D_X9_phase_117 (D_X9_phase_64 f) x0 x1 x3 x4 x5 x6 x8 r4 r6 0 σ
        else
          D_X9_phase_112 (D_X9_phase_64 f) x0 x1 x3 x4 x5 x6 x8 r4 r6 σ
set_option maxRecDepth 100000 in
set_option maxHeartbeats 4000000 in
theorem lk_X9_phase_64 {G : mG} {x2 : Int} (f : Nat) : ∀ {x0 : Nat} {x1 : Int} {x3 : Int} {x4 : Int} {x5 : Int} {x6 : Int} {x7 : Int} {x8 : Int} {σ : mS} {R : (Int × Int × Int × Int × Int)}, D_X9_phase_64 f x0 x1 x3 x4 x5 x6 x7 x8 σ = some R → ∀ {r : mX} {τ : mS}, Ev G M_X9_phase 179 [(2, vi x2), (3, vi (R.1)), (4, vi (R.2.1)), (5, vi (R.2.2.1)), (6, vi (R.2.2.2.1)), (7, vi (R.2.2.2.2))] [] σ r τ → Ev G M_X9_phase 64 [(0, vr x0), (1, vi x1), (2, vi x2), (3, vi x3), (4, vi x4), (5, vi x5), (6, vi x6), (7, vi x7), (8, vi x8)] [] σ r τ := by
  induction f with
  | zero =>
    intros
    rename_i hD _ _ _
    cases hD
  | succ f ih =>
    intro x0 x1 x3 x4 x5 x6 x7 x8 σ R hD r τ hk
    have hrec := @ih
    rw [D_X9_phase_64] at hD
    refine ev_iload dX9_phase_64 8 rfl ?_
    refine ev_aload_n dX9_phase_66 0 rfl rfl ?_
    obtain ⟨v1, g, hD⟩ := bd hD
    refine ew_getR 8 11 dX9_phase_67 rfl (Nat.le_of_ble_eq_true rfl) w_1276 in_X9 rfl g ?_
    refine ev_iload_n dX9_phase_70 1 rfl rfl ?_
    obtain ⟨v2, g, hD⟩ := bd hD
    refine ew_iald dX9_phase_71 g ?_
    by_cases c : v2 ≤ x8
    · rw [if_pos c] at hD
      refine ev_icmp_ge_t (tgt := 179) dX9_phase_72 (by decide) c ?_
      cases hD
      refine Ev.pick [2, 3, 4, 5, 6, 7] rfl ?_
      exact hk
    · rw [if_neg c] at hD
      refine ev_icmp_ge_f 179 dX9_phase_72 (by decide) c ?_
      refine ev_aload_n dX9_phase_75 0 rfl rfl ?_
      refine ev_aload_n dX9_phase_76 0 rfl rfl ?_
      refine ev_iload_n dX9_phase_77 1 rfl rfl ?_
      refine ev_iload dX9_phase_78 8 rfl ?_
      obtain ⟨_, g0, hD⟩ := bd hD
      obtain ⟨r3, g, hD⟩ := bd hD
      refine ew_callVv (as := [vi x1, vi x8]) (a := x0) (rest := [vr x0]) dX9_phase_80 v_X9_memberOf w_1679 rfl (Nat.le_of_ble_eq_true rfl) rfl rfl g0 (Nat.le_of_ble_eq_true rfl) (Nat.le_of_ble_eq_true rfl) (ct_X9_memberOf g) ?_
      obtain ⟨_, g0, hD⟩ := bd hD
      obtain ⟨r4, g, hD⟩ := bd hD
      refine ew_callVv (as := [vi r3]) (a := x0) (rest := []) dX9_phase_83 v_X9_earliest w_1727 rfl (Nat.le_of_ble_eq_true rfl) rfl rfl g0 (Nat.le_of_ble_eq_true rfl) (Nat.le_of_ble_eq_true rfl) (ct_X9_earliest g) ?_
      refine ev_istore dX9_phase_86 (Nat.le_of_ble_eq_true rfl) rfl ?_
      refine ev_aload_n dX9_phase_88 1 rfl rfl ?_
      refine ev_aload_n dX9_phase_89 1 rfl rfl ?_
      refine ev_iload_n dX9_phase_90 2 rfl rfl ?_
      refine ev_iload dX9_phase_91 9 rfl ?_
      obtain ⟨_, g0, hD⟩ := bd hD
      obtain ⟨r5, g, hD⟩ := bd hD
      refine ew_callVv (as := [vi x1, vi x8]) (a := x0) (rest := [vr x0]) dX9_phase_93 v_X9_memberOf w_1679 rfl (Nat.le_of_ble_eq_true rfl) rfl rfl g0 (Nat.le_of_ble_eq_true rfl) (Nat.le_of_ble_eq_true rfl) (ct_X9_memberOf g) ?_
      obtain ⟨_, g0, hD⟩ := bd hD
      obtain ⟨r6, g, hD⟩ := bd hD
      refine ew_callVv (as := [vi r5]) (a := x0) (rest := []) dX9_phase_96 v_X9_latest w_1731 rfl (Nat.le_of_ble_eq_true rfl) rfl rfl g0 (Nat.le_of_ble_eq_true rfl) (Nat.le_of_ble_eq_true rfl) (ct_X9_latest g) ?_
      refine ev_istore dX9_phase_99 (Nat.le_of_ble_eq_true rfl) rfl ?_
      refine ev_iload dX9_phase_101 9 rfl ?_
      by_cases c : x7 ≠ 0
      · rw [if_pos c] at hD
        refine ev_if_ne_t (tgt := 112) dX9_phase_103 (by decide) c ?_
        refine Ev.pick [2, 3, 4, 5, 6, 7, 8, 10, 1, 0] rfl ?_
        exact lk_X9_phase_112 hD hrec hk
      · rw [if_neg c] at hD
        refine ev_if_ne_f 112 dX9_phase_103 (by decide) c ?_
        refine ev_iload dX9_phase_106 1 rfl ?_
        refine ev_iconst dX9_phase_108 (mi_c rfl) ?_
        by_cases c : r4 ≠ ((-1))
        · rw [if_pos c] at hD
          refine ev_icmp_ne_t (tgt := 116) dX9_phase_109 (by decide) c ?_
          refine ev_iconst dX9_phase_116 (mi_c rfl) ?_
          refine Ev.pick [2, 3, 4, 5, 6, 7, 8, 10, 1, 0] rfl ?_
          exact lk_X9_phase_117 hD hrec hk
        · rw [if_neg c] at hD
          refine ev_icmp_ne_f 116 dX9_phase_109 (by decide) c ?_
          refine Ev.pick [2, 3, 4, 5, 6, 7, 8, 10, 1, 0] rfl ?_
          exact lk_X9_phase_112 hD hrec hk
def D_X9_phase_226 (y0 : Int) (σ : mS) : Option (Int × mS) :=
  some (y0, σ)
set_option maxRecDepth 100000 in
set_option maxHeartbeats 4000000 in
theorem lk_X9_phase_226 {G : mG} {y0 : Int} {σ : mS} {R : (Int × mS)} (hD : D_X9_phase_226 y0 σ = some R) : Ev G M_X9_phase 226 [] [vi y0] σ (.inl (some (vi R.1))) R.2 := by
  unfold D_X9_phase_226 at hD
  cases hD
  exact ev_ret (some (vi _)) dX9_phase_226 True.intro
def D_X9_phase_195 (y0 : Int) (σ : mS) : Option (Int × mS) :=
  some (y0, σ)
set_option maxRecDepth 100000 in
set_option maxHeartbeats 4000000 in
theorem lk_X9_phase_195 {G : mG} {y0 : Int} {σ : mS} {R : (Int × mS)} (hD : D_X9_phase_195 y0 σ = some R) : Ev G M_X9_phase 195 [] [vi y0] σ (.inl (some (vi R.1))) R.2 := by
  unfold D_X9_phase_195 at hD
  cases hD
  exact ev_ret (some (vi _)) dX9_phase_195 True.intro
def D_X9_phase (x0 : Nat) (x1 : Int) (x2 : Int) (σ : mS) : Option (Int × mS) :=
  (pI σ x0 8 0 0).bind fun s1 =>
  (tgO s1 x0 8).bind fun _ =>
  (D_X9_isPhase x0 x1 s1).bind fun r2 =>
  if r2.1 = 0 then
    D_X9_phase_28  r2.2
  else
    (D_X9_within x2 0 4 r2.2).bind fun r3 =>
    (tgO r2.2 x0 8).bind fun _ =>
    (D_X9_isFine x0 r3 2 1 r2.2).bind fun r4 =>
    if r4.1 ≠ 0 then
      if x2 ≠ 0 then
        (tgO r4.2 x0 8).bind fun _ =>
        (D_X9_lays x0 r4.2).bind fun r5 =>
        (D_X9_phase_64 mFU x0 x1 ((-1)) ((-1)) ((-1)) 1000 0 0 r5).bind fun r6 =>
        if 3 ≤ x2 then
          if r6.2.2.2.2 = 0 then
            if x2 ≠ 3 then
              D_X9_phase_226 (mw (r6.2.1 - r6.1)) r5
            else
              D_X9_phase_226 (if 0 < (mw (r6.2.2.1 - r6.2.2.2.1)) then (mw (r6.2.2.1 - r6.2.2.2.1)) else 0) r5
          else
            D_X9_phase_226 ((-1)) r5
        else
          if x2 ≠ 1 then
            D_X9_phase_195 r6.2.1 r5
          else
            D_X9_phase_195 r6.1 r5
      else
        (gR r4.2 x0 8 11).bind fun v7 =>
        (lI r4.2 v7 x1).bind fun v8 =>
        some (v8, r4.2)
    else
      D_X9_phase_28  r4.2
set_option maxRecDepth 100000 in
set_option maxHeartbeats 4000000 in
theorem lk_X9_phase {G : mG} {x0 : Nat} {x1 : Int} {x2 : Int} {σ : mS} {R : (Int × mS)} (hD : D_X9_phase x0 x1 x2 σ = some R) : Ev G M_X9_phase 0 [(0, vr x0), (1, vi x1), (2, vi x2)] [] σ (.inl (some (vi R.1))) R.2 := by
  unfold D_X9_phase at hD
  refine ev_aload_n dX9_phase_0 0 rfl rfl ?_
  refine ev_iconst dX9_phase_1 (mi_c rfl) ?_
  obtain ⟨s1, g, hD⟩ := bd hD
  refine ew_putI 8 0 dX9_phase_2 rfl (Nat.le_of_ble_eq_true rfl) w_1265 in_X9 tyX9_ok nmX9 (Or.inl rfl) rfl g ?_
  refine ev_aload_n dX9_phase_5 0 rfl rfl ?_
  refine ev_iload_n dX9_phase_6 1 rfl rfl ?_
  obtain ⟨_, g0, hD⟩ := bd hD
  obtain ⟨r2, g, hD⟩ := bd hD
  refine ew_callVv (as := [vi x1]) (a := x0) (rest := []) dX9_phase_7 v_X9_isPhase w_1819 rfl (Nat.le_of_ble_eq_true rfl) rfl rfl g0 (Nat.le_of_ble_eq_true rfl) (Nat.le_of_ble_eq_true rfl) (ct_X9_isPhase g) ?_
  by_cases c : r2.1 = 0
  · rw [if_pos c] at hD
    refine ev_if_eq_t (tgt := 28) dX9_phase_10 (by decide) c ?_
    refine Ev.pick [] rfl ?_
    exact lk_X9_phase_28 hD
  · rw [if_neg c] at hD
    refine ev_if_eq_f 28 dX9_phase_10 (by decide) c ?_
    refine ev_aload_n dX9_phase_13 0 rfl rfl ?_
    refine ev_iload_n dX9_phase_14 2 rfl rfl ?_
    refine ev_iconst dX9_phase_15 (mi_c rfl) ?_
    refine ev_iconst dX9_phase_16 (mi_c rfl) ?_
    obtain ⟨r3, g, hD⟩ := bd hD
    refine ew_callSv (as := [vi x2, vi 0, vi 4]) (rest := [vr x0]) dX9_phase_17 v_X9_within w_1438 rfl (Nat.le_of_ble_eq_true rfl) (Nat.le_of_ble_eq_true rfl) (Nat.le_of_ble_eq_true rfl) (ct_X9_within g) ?_
    refine ev_iconst dX9_phase_20 (mi_c rfl) ?_
    refine ev_iconst dX9_phase_21 (mi_c rfl) ?_
    obtain ⟨_, g0, hD⟩ := bd hD
    obtain ⟨r4, g, hD⟩ := bd hD
    refine ew_callVv (as := [vi r3, vi 2, vi 1]) (a := x0) (rest := []) dX9_phase_22 v_X9_isFine w_1441 rfl (Nat.le_of_ble_eq_true rfl) rfl rfl g0 (Nat.le_of_ble_eq_true rfl) (Nat.le_of_ble_eq_true rfl) (ct_X9_isFine g) ?_
    by_cases c : r4.1 ≠ 0
    · rw [if_pos c] at hD
      refine ev_if_ne_t (tgt := 30) dX9_phase_25 (by decide) c ?_
      refine ev_iload_n dX9_phase_30 2 rfl rfl ?_
      by_cases c : x2 ≠ 0
      · rw [if_pos c] at hD
        refine ev_if_ne_t (tgt := 41) dX9_phase_31 (by decide) c ?_
        refine ev_aload_n dX9_phase_41 0 rfl rfl ?_
        obtain ⟨_, g0, hD⟩ := bd hD
        obtain ⟨r5, g, hD⟩ := bd hD
        refine ew_callV0 (as := []) (a := x0) (rest := []) dX9_phase_42 v_X9_lays w_1621 rfl (Nat.le_of_ble_eq_true rfl) rfl rfl g0 (Nat.le_of_ble_eq_true rfl) (Nat.le_of_ble_eq_true rfl) (ct_X9_lays g) ?_
        refine ev_iconst dX9_phase_45 (mi_c rfl) ?_
        refine ev_istore_n dX9_phase_46 rfl (Nat.le_of_ble_eq_true rfl) rfl ?_
        refine ev_iconst dX9_phase_47 (mi_c rfl) ?_
        refine ev_istore dX9_phase_48 (Nat.le_of_ble_eq_true rfl) rfl ?_
        refine ev_iconst dX9_phase_50 (mi_c rfl) ?_
        refine ev_istore dX9_phase_51 (Nat.le_of_ble_eq_true rfl) rfl ?_
        refine ev_sp dX9_phase_53 rfl ?_
        refine ev_istore dX9_phase_56 (Nat.le_of_ble_eq_true rfl) rfl ?_
        refine ev_iconst dX9_phase_58 (mi_c rfl) ?_
        refine ev_istore dX9_phase_59 (Nat.le_of_ble_eq_true rfl) rfl ?_
        refine ev_iconst dX9_phase_61 (mi_c rfl) ?_
        refine ev_istore dX9_phase_62 (Nat.le_of_ble_eq_true rfl) rfl ?_
        obtain ⟨r6, g, hD⟩ := bd hD
        refine Ev.pick [6, 7, 8, 5, 4, 3, 2, 1, 0] rfl ?_
        refine lk_X9_phase_64 mFU g ?_
        refine ev_iload_n dX9_phase_179 0 rfl rfl ?_
        refine ev_iconst dX9_phase_180 (mi_c rfl) ?_
        by_cases c : 3 ≤ x2
        · rw [if_pos c] at hD
          refine ev_icmp_ge_t (tgt := 196) dX9_phase_181 (by decide) c ?_
          refine ev_iload dX9_phase_196 5 rfl ?_
          by_cases c : r6.2.2.2.2 = 0
          · rw [if_pos c] at hD
            refine ev_if_eq_t (tgt := 205) dX9_phase_198 (by decide) c ?_
            refine ev_iload_n dX9_phase_205 0 rfl rfl ?_
            refine ev_iconst dX9_phase_206 (mi_c rfl) ?_
            by_cases c : x2 ≠ 3
            · rw [if_pos c] at hD
              refine ev_icmp_ne_t (tgt := 222) dX9_phase_207 (by decide) c ?_
              refine ev_iload dX9_phase_222 2 rfl ?_
              refine ev_iload_n dX9_phase_224 1 rfl rfl ?_
              refine ev_isub dX9_phase_225 ?_
              refine Ev.pick [] rfl ?_
              exact lk_X9_phase_226 hD
            · rw [if_neg c] at hD
              refine ev_icmp_ne_f 222 dX9_phase_207 (by decide) c ?_
              refine ev_iconst dX9_phase_210 (mi_c rfl) ?_
              refine ev_iload dX9_phase_211 3 rfl ?_
              refine ev_iload dX9_phase_213 4 rfl ?_
              refine ev_isub dX9_phase_215 ?_
              refine ev_mmax dX9_phase_216 w_1670 w_569 w_133 w_570 (Nat.le_of_ble_eq_true rfl) (Nat.le_of_ble_eq_true rfl) (Nat.le_of_ble_eq_true rfl) ?_
              refine ev_goto (tgt := 226) dX9_phase_219 (by decide) ?_
              refine Ev.pick [] rfl ?_
              exact lk_X9_phase_226 hD
          · rw [if_neg c] at hD
            refine ev_if_eq_f 205 dX9_phase_198 (by decide) c ?_
            refine ev_iconst dX9_phase_201 (mi_c rfl) ?_
            refine ev_goto (tgt := 226) dX9_phase_202 (by decide) ?_
            refine Ev.pick [] rfl ?_
            exact lk_X9_phase_226 hD
        · rw [if_neg c] at hD
          refine ev_icmp_ge_f 196 dX9_phase_181 (by decide) c ?_
          refine ev_iload_n dX9_phase_184 0 rfl rfl ?_
          refine ev_iconst dX9_phase_185 (mi_c rfl) ?_
          by_cases c : x2 ≠ 1
          · rw [if_pos c] at hD
            refine ev_icmp_ne_t (tgt := 193) dX9_phase_186 (by decide) c ?_
            refine ev_iload dX9_phase_193 2 rfl ?_
            refine Ev.pick [] rfl ?_
            exact lk_X9_phase_195 hD
          · rw [if_neg c] at hD
            refine ev_icmp_ne_f 193 dX9_phase_186 (by decide) c ?_
            refine ev_iload_n dX9_phase_189 1 rfl rfl ?_
            refine ev_goto (tgt := 195) dX9_phase_190 (by decide) ?_
            refine Ev.pick [] rfl ?_
            exact lk_X9_phase_195 hD
      · rw [if_neg c] at hD
        refine ev_if_ne_f 41 dX9_phase_31 (by decide) c ?_
        refine ev_aload_n dX9_phase_34 0 rfl rfl ?_
        obtain ⟨v7, g, hD⟩ := bd hD
        refine ew_getR 8 11 dX9_phase_35 rfl (Nat.le_of_ble_eq_true rfl) w_1276 in_X9 rfl g ?_
        refine ev_iload_n dX9_phase_38 1 rfl rfl ?_
        obtain ⟨v8, g, hD⟩ := bd hD
        refine ew_iald dX9_phase_39 g ?_
        cases hD
        exact ev_ret (some (vi _)) dX9_phase_40 True.intro
    · rw [if_neg c] at hD
      refine ev_if_ne_f 30 dX9_phase_25 (by decide) c ?_
      refine Ev.pick [] rfl ?_
      exact lk_X9_phase_28 hD
theorem ct_X9_phase {G : mG} {x0 : Nat} {x1 : Int} {x2 : Int} {σ : mS} {R : (Int × mS)} (hD : D_X9_phase x0 x1 x2 σ = some R) : Ct G M_X9_phase [vr x0, vi x1, vi x2] σ (.inl (some (vi R.1))) R.2 := ct_of rfl (by decide +kernel) rfl (Nat.le_of_ble_eq_true rfl) rfl (lk_X9_phase hD)
def D_X9_member_41 (y0 : Int) (σ : mS) : Option (Int × mS) :=
  some (y0, σ)
set_option maxRecDepth 100000 in
set_option maxHeartbeats 4000000 in
theorem lk_X9_member_41 {G : mG} {y0 : Int} {σ : mS} {R : (Int × mS)} (hD : D_X9_member_41 y0 σ = some R) : Ev G M_X9_member 41 [] [vi y0] σ (.inl (some (vi R.1))) R.2 := by
  unfold D_X9_member_41 at hD
  cases hD
  exact ev_ret (some (vi _)) dX9_member_41 True.intro
def D_X9_member (x0 : Nat) (x1 : Int) (x2 : Int) (σ : mS) : Option (Int × mS) :=
  (pI σ x0 8 0 0).bind fun s1 =>
  (tgO s1 x0 8).bind fun _ =>
  (D_X9_isPhase x0 x1 s1).bind fun r2 =>
  if r2.1 ≠ 0 then
    (gR r2.2 x0 8 11).bind fun v3 =>
    (lI r2.2 v3 x1).bind fun v4 =>
    (D_X9_within x2 0 (mw (v4 - 1)) r2.2).bind fun r5 =>
    if r5 = 0 then
      D_X9_member_41 ((-1)) r2.2
    else
      (tgO r2.2 x0 8).bind fun _ =>
      (D_X9_memberOf x0 x1 x2 r2.2).bind fun r6 =>
      D_X9_member_41 r6 r2.2
  else
    some (0, r2.2)
set_option maxRecDepth 100000 in
set_option maxHeartbeats 4000000 in
theorem lk_X9_member {G : mG} {x0 : Nat} {x1 : Int} {x2 : Int} {σ : mS} {R : (Int × mS)} (hD : D_X9_member x0 x1 x2 σ = some R) : Ev G M_X9_member 0 [(0, vr x0), (1, vi x1), (2, vi x2)] [] σ (.inl (some (vi R.1))) R.2 := by
  unfold D_X9_member at hD
  refine ev_aload_n dX9_member_0 0 rfl rfl ?_
  refine ev_iconst dX9_member_1 (mi_c rfl) ?_
  obtain ⟨s1, g, hD⟩ := bd hD
  refine ew_putI 8 0 dX9_member_2 rfl (Nat.le_of_ble_eq_true rfl) w_1265 in_X9 tyX9_ok nmX9 (Or.inl rfl) rfl g ?_
  refine ev_aload_n dX9_member_5 0 rfl rfl ?_
  refine ev_iload_n dX9_member_6 1 rfl rfl ?_
  obtain ⟨_, g0, hD⟩ := bd hD
  obtain ⟨r2, g, hD⟩ := bd hD
  refine ew_callVv (as := [vi x1]) (a := x0) (rest := []) dX9_member_7 v_X9_isPhase w_1819 rfl (Nat.le_of_ble_eq_true rfl) rfl rfl g0 (Nat.le_of_ble_eq_true rfl) (Nat.le_of_ble_eq_true rfl) (ct_X9_isPhase g) ?_
  by_cases c : r2.1 ≠ 0
  · rw [if_pos c] at hD
    refine ev_if_ne_t (tgt := 15) dX9_member_10 (by decide) c ?_
    refine ev_iload_n dX9_member_15 2 rfl rfl ?_
    refine ev_iconst dX9_member_16 (mi_c rfl) ?_
    refine ev_aload_n dX9_member_17 0 rfl rfl ?_
    obtain ⟨v3, g, hD⟩ := bd hD
    refine ew_getR 8 11 dX9_member_18 rfl (Nat.le_of_ble_eq_true rfl) w_1276 in_X9 rfl g ?_
    refine ev_iload_n dX9_member_21 1 rfl rfl ?_
    obtain ⟨v4, g, hD⟩ := bd hD
    refine ew_iald dX9_member_22 g ?_
    refine ev_iconst dX9_member_23 (mi_c rfl) ?_
    refine ev_isub dX9_member_24 ?_
    obtain ⟨r5, g, hD⟩ := bd hD
    refine ew_callSv (as := [vi x2, vi 0, vi (mw (v4 - 1))]) (rest := []) dX9_member_25 v_X9_within w_1438 rfl (Nat.le_of_ble_eq_true rfl) (Nat.le_of_ble_eq_true rfl) (Nat.le_of_ble_eq_true rfl) (ct_X9_within g) ?_
    by_cases c : r5 = 0
    · rw [if_pos c] at hD
      refine ev_if_eq_t (tgt := 40) dX9_member_28 (by decide) c ?_
      refine ev_iconst dX9_member_40 (mi_c rfl) ?_
      refine Ev.pick [] rfl ?_
      exact lk_X9_member_41 hD
    · rw [if_neg c] at hD
      refine ev_if_eq_f 40 dX9_member_28 (by decide) c ?_
      refine ev_aload_n dX9_member_31 0 rfl rfl ?_
      refine ev_iload_n dX9_member_32 1 rfl rfl ?_
      refine ev_iload_n dX9_member_33 2 rfl rfl ?_
      obtain ⟨_, g0, hD⟩ := bd hD
      obtain ⟨r6, g, hD⟩ := bd hD
      refine ew_callVv (as := [vi x1, vi x2]) (a := x0) (rest := []) dX9_member_34 v_X9_memberOf w_1679 rfl (Nat.le_of_ble_eq_true rfl) rfl rfl g0 (Nat.le_of_ble_eq_true rfl) (Nat.le_of_ble_eq_true rfl) (ct_X9_memberOf g) ?_
      refine ev_goto (tgt := 41) dX9_member_37 (by decide) ?_
      refine Ev.pick [] rfl ?_
      exact lk_X9_member_41 hD
  · rw [if_neg c] at hD
    refine ev_if_ne_f 15 dX9_member_10 (by decide) c ?_
    refine ev_iconst dX9_member_13 (mi_c rfl) ?_
    cases hD
    exact ev_ret (some (vi _)) dX9_member_14 True.intro
theorem ct_X9_member {G : mG} {x0 : Nat} {x1 : Int} {x2 : Int} {σ : mS} {R : (Int × mS)} (hD : D_X9_member x0 x1 x2 σ = some R) : Ct G M_X9_member [vr x0, vi x1, vi x2] σ (.inl (some (vi R.1))) R.2 := ct_of rfl (by decide +kernel) rfl (Nat.le_of_ble_eq_true rfl) rfl (lk_X9_member hD)
def D_X9_fitsPair_24 (σ : mS) : Option Int :=
  (bO 1).bind fun v1 =>
  some v1
set_option maxRecDepth 100000 in
set_option maxHeartbeats 4000000 in
theorem lk_X9_fitsPair_24 {G : mG} {σ : mS} {R : Int} (hD : D_X9_fitsPair_24  σ = some R) : Ev G M_X9_fitsPair 24 [] [] σ (.inl (some (vi R))) σ := by
  unfold D_X9_fitsPair_24 at hD
  refine ev_iconst dX9_fitsPair_24 (mi_c rfl) ?_
  obtain ⟨v1, gb, hD⟩ := bd hD
  cases hD
  exact ew_retb dX9_fitsPair_25 rfl gb
def D_X9_fitsPair_26 (x0 : Nat) (x1 : Int) (x2 : Int) (x3 : Int) (x4 : Int) (σ : mS) : Option Int :=
  (gR σ x0 8 51).bind fun v1 =>
  (lI σ v1 x2).bind fun v2 =>
  (gR σ x0 8 51).bind fun v3 =>
  (lI σ v3 x1).bind fun v4 =>
  (D_X9_within (mw (v2 - v4)) x3 x4 σ).bind fun r5 =>
  (bO r5).bind fun v6 =>
  some v6
set_option maxRecDepth 100000 in
set_option maxHeartbeats 4000000 in
theorem lk_X9_fitsPair_26 {G : mG} {x0 : Nat} {x1 : Int} {x2 : Int} {x3 : Int} {x4 : Int} {σ : mS} {R : Int} (hD : D_X9_fitsPair_26 x0 x1 x2 x3 x4 σ = some R) : Ev G M_X9_fitsPair 26 [(0, vr x0), (1, vi x1), (2, vi x2), (3, vi x3), (4, vi x4)] [] σ (.inl (some (vi R))) σ := by
  unfold D_X9_fitsPair_26 at hD
  refine ev_aload_n dX9_fitsPair_26 0 rfl rfl ?_
  obtain ⟨v1, g, hD⟩ := bd hD
  refine ew_getR 8 51 dX9_fitsPair_27 rfl (Nat.le_of_ble_eq_true rfl) w_1316 in_X9 rfl g ?_
  refine ev_iload_n dX9_fitsPair_30 2 rfl rfl ?_
  obtain ⟨v2, g, hD⟩ := bd hD
  refine ew_iald dX9_fitsPair_31 g ?_
  refine ev_aload_n dX9_fitsPair_32 0 rfl rfl ?_
  obtain ⟨v3, g, hD⟩ := bd hD
  refine ew_getR 8 51 dX9_fitsPair_33 rfl (Nat.le_of_ble_eq_true rfl) w_1316 in_X9 rfl g ?_
  refine ev_iload_n dX9_fitsPair_36 1 rfl rfl ?_
  obtain ⟨v4, g, hD⟩ := bd hD
  refine ew_iald dX9_fitsPair_37 g ?_
  refine ev_isub dX9_fitsPair_38 ?_
  refine ev_iload_n dX9_fitsPair_39 3 rfl rfl ?_
  refine ev_iload dX9_fitsPair_40 4 rfl ?_
  obtain ⟨r5, g, hD⟩ := bd hD
  refine ew_callSv (as := [vi (mw (v2 - v4)), vi x3, vi x4]) (rest := []) dX9_fitsPair_42 v_X9_within w_1438 rfl (Nat.le_of_ble_eq_true rfl) (Nat.le_of_ble_eq_true rfl) (Nat.le_of_ble_eq_true rfl) (ct_X9_within g) ?_
  obtain ⟨v6, gb, hD⟩ := bd hD
  cases hD
  exact ew_retb dX9_fitsPair_45 rfl gb
def D_X9_fitsPair (x0 : Nat) (x1 : Int) (x2 : Int) (x3 : Int) (x4 : Int) (x5 : Int) (x6 : Int) (σ : mS) : Option Int :=
  if x6 < x1 then
    D_X9_fitsPair_24  σ
  else
    if x6 < x2 then
      D_X9_fitsPair_24  σ
    else
      if x1 = x5 then
        D_X9_fitsPair_26 x0 x1 x2 x3 x4 σ
      else
        if x2 = x5 then
          D_X9_fitsPair_26 x0 x1 x2 x3 x4 σ
        else
          D_X9_fitsPair_24  σ
set_option maxRecDepth 100000 in
set_option maxHeartbeats 4000000 in
theorem lk_X9_fitsPair {G : mG} {x0 : Nat} {x1 : Int} {x2 : Int} {x3 : Int} {x4 : Int} {x5 : Int} {x6 : Int} {σ : mS} {R : Int} (hD : D_X9_fitsPair x0 x1 x2 x3 x4 x5 x6 σ = some R) : Ev G M_X9_fitsPair 0 [(0, vr x0), (1, vi x1), (2, vi x2), (3, vi x3), (4, vi x4), (5, vi x5), (6, vi x6)] [] σ (.inl (some (vi R))) σ := by
  unfold D_X9_fitsPair at hD
  refine ev_iload_n dX9_fitsPair_0 1 rfl rfl ?_
  refine ev_iload dX9_fitsPair_1 6 rfl ?_
  by_cases c : x6 < x1
  · rw [if_pos c] at hD
    refine ev_icmp_gt_t (tgt := 24) dX9_fitsPair_3 (by decide) c ?_
    refine Ev.pick [] rfl ?_
    exact lk_X9_fitsPair_24 hD
  · rw [if_neg c] at hD
    refine ev_icmp_gt_f 24 dX9_fitsPair_3 (by decide) c ?_
    refine ev_iload_n dX9_fitsPair_6 2 rfl rfl ?_
    refine ev_iload dX9_fitsPair_7 6 rfl ?_
    by_cases c : x6 < x2
    · rw [if_pos c] at hD
      refine ev_icmp_gt_t (tgt := 24) dX9_fitsPair_9 (by decide) c ?_
      refine Ev.pick [] rfl ?_
      exact lk_X9_fitsPair_24 hD
    · rw [if_neg c] at hD
      refine ev_icmp_gt_f 24 dX9_fitsPair_9 (by decide) c ?_
      refine ev_iload_n dX9_fitsPair_12 1 rfl rfl ?_
      refine ev_iload dX9_fitsPair_13 5 rfl ?_
      by_cases c : x1 = x5
      · rw [if_pos c] at hD
        refine ev_icmp_eq_t (tgt := 26) dX9_fitsPair_15 (by decide) c ?_
        refine Ev.pick [0, 1, 2, 3, 4] rfl ?_
        exact lk_X9_fitsPair_26 hD
      · rw [if_neg c] at hD
        refine ev_icmp_eq_f 26 dX9_fitsPair_15 (by decide) c ?_
        refine ev_iload_n dX9_fitsPair_18 2 rfl rfl ?_
        refine ev_iload dX9_fitsPair_19 5 rfl ?_
        by_cases c : x2 = x5
        · rw [if_pos c] at hD
          refine ev_icmp_eq_t (tgt := 26) dX9_fitsPair_21 (by decide) c ?_
          refine Ev.pick [0, 1, 2, 3, 4] rfl ?_
          exact lk_X9_fitsPair_26 hD
        · rw [if_neg c] at hD
          refine ev_icmp_eq_f 26 dX9_fitsPair_21 (by decide) c ?_
          refine Ev.pick [] rfl ?_
          exact lk_X9_fitsPair_24 hD
theorem ct_X9_fitsPair {G : mG} {x0 : Nat} {x1 : Int} {x2 : Int} {x3 : Int} {x4 : Int} {x5 : Int} {x6 : Int} {σ : mS} {R : Int} (hD : D_X9_fitsPair x0 x1 x2 x3 x4 x5 x6 σ = some R) : Ct G M_X9_fitsPair [vr x0, vi x1, vi x2, vi x3, vi x4, vi x5, vi x6] σ (.inl (some (vi R))) σ := ct_of rfl (by decide +kernel) rfl (Nat.le_of_ble_eq_true rfl) rfl (lk_X9_fitsPair hD)
