def D_X2_readRule_169 (x0 : Nat) (x1 : Int) (x3 : Int) (x4 : Int) (x5 : Int) (x6 : Int) (σ : mS) : Option mS :=
  (tgO σ x0 2).bind fun _ =>
  (D_X2_readSign x0 59 σ).bind fun r1 =>
  (gR r1 x0 2 0).bind fun v2 =>
  (tgO r1 v2 5).bind fun _ =>
  (D_X5_addRule v2 x1 x3 x4 x5 x6 r1).bind fun r3 =>
  some r3
set_option maxRecDepth 100000 in
set_option maxHeartbeats 4000000 in
theorem lk_X2_readRule_169 {G : mG} {x0 : Nat} {x1 : Int} {x3 : Int} {x4 : Int} {x5 : Int} {x6 : Int} {σ : mS} {R : mS} (hD : D_X2_readRule_169 x0 x1 x3 x4 x5 x6 σ = some R) : Ev G M_X2_readRule 169 [(0, vr x0), (1, vi x1), (3, vi x3), (4, vi x4), (5, vi x5), (6, vi x6)] [] σ (.inl none) R := by
  unfold D_X2_readRule_169 at hD
  refine ev_aload_n dX2_readRule_169 0 rfl rfl ?_
  refine ev_bp dX2_readRule_170 rfl ?_
  obtain ⟨_, g0, hD⟩ := bd hD
  obtain ⟨r1, g, hD⟩ := bd hD
  refine ew_callV0 (as := [vi 59]) (a := x0) (rest := []) dX2_readRule_172 v_X2_readSign w_880 rfl (Nat.le_of_ble_eq_true rfl) rfl rfl g0 (Nat.le_of_ble_eq_true rfl) (Nat.le_of_ble_eq_true rfl) (ct_X2_readSign g) ?_
  refine ev_aload_n dX2_readRule_175 0 rfl rfl ?_
  obtain ⟨v2, g, hD⟩ := bd hD
  refine ew_getR 2 0 dX2_readRule_176 rfl (Nat.le_of_ble_eq_true rfl) w_339 in_X2 rfl g ?_
  refine ev_iload_n dX2_readRule_179 1 rfl rfl ?_
  refine ev_iload_n dX2_readRule_180 2 rfl rfl ?_
  refine ev_iload dX2_readRule_181 3 rfl ?_
  refine ev_iload dX2_readRule_183 4 rfl ?_
  refine ev_iload dX2_readRule_185 5 rfl ?_
  obtain ⟨_, g0, hD⟩ := bd hD
  obtain ⟨r3, g, hD⟩ := bd hD
  refine ew_callV0 (as := [vi x1, vi x3, vi x4, vi x5, vi x6]) (a := v2) (rest := []) dX2_readRule_187 v_X5_addRule w_944 rfl (Nat.le_of_ble_eq_true rfl) rfl rfl g0 (Nat.le_of_ble_eq_true rfl) (Nat.le_of_ble_eq_true rfl) (ct_X5_addRule g) ?_
  cases hD
  exact ev_ret none dX2_readRule_190 True.intro
def D_X2_readRule_167 (x0 : Nat) (x1 : Int) (x3 : Int) (x4 : Int) (x5 : Int) (y0 : Int) (σ : mS) : Option mS :=
  D_X2_readRule_169 x0 x1 x3 x4 x5 y0 σ
set_option maxRecDepth 100000 in
set_option maxHeartbeats 4000000 in
theorem lk_X2_readRule_167 {G : mG} {x0 : Nat} {x1 : Int} {x3 : Int} {x4 : Int} {x5 : Int} {y0 : Int} {σ : mS} {R : mS} (hD : D_X2_readRule_167 x0 x1 x3 x4 x5 y0 σ = some R) : Ev G M_X2_readRule 167 [(0, vr x0), (1, vi x1), (3, vi x3), (4, vi x4), (5, vi x5)] [vi y0] σ (.inl none) R := by
  unfold D_X2_readRule_167 at hD
  refine ev_istore dX2_readRule_167 (Nat.le_of_ble_eq_true rfl) rfl ?_
  refine Ev.pick [1, 2, 3, 4, 5, 0] rfl ?_
  exact lk_X2_readRule_169 hD
def D_X2_readRule_138 (x0 : Nat) (x1 : Int) (x3 : Int) (x4 : Int) (x5 : Int) (x6 : Int) (σ : mS) : Option mS :=
  if x1 ≠ 0 then
    D_X2_readRule_169 x0 x1 x3 x4 x5 x6 σ
  else
    (tgO σ x0 2).bind fun _ =>
    (D_X2_peek x0 σ).bind fun r1 =>
    (D_X2_isDigit r1.1 r1.2).bind fun r2 =>
    if r2 = 0 then
      D_X2_readRule_167 x0 x1 x3 x4 x5 999 r1.2
    else
      (tgO r1.2 x0 2).bind fun _ =>
      (D_X2_readNumber x0 x5 999 r1.2).bind fun r3 =>
      D_X2_readRule_167 x0 x1 x3 x4 x5 r3.1 r3.2
set_option maxRecDepth 100000 in
set_option maxHeartbeats 4000000 in
theorem lk_X2_readRule_138 {G : mG} {x0 : Nat} {x1 : Int} {x3 : Int} {x4 : Int} {x5 : Int} {x6 : Int} {σ : mS} {R : mS} (hD : D_X2_readRule_138 x0 x1 x3 x4 x5 x6 σ = some R) : Ev G M_X2_readRule 138 [(0, vr x0), (1, vi x1), (3, vi x3), (4, vi x4), (5, vi x5), (6, vi x6)] [] σ (.inl none) R := by
  unfold D_X2_readRule_138 at hD
  refine ev_iload_n dX2_readRule_138 1 rfl rfl ?_
  by_cases c : x1 ≠ 0
  · rw [if_pos c] at hD
    refine ev_if_ne_t (tgt := 169) dX2_readRule_139 (by decide) c ?_
    exact lk_X2_readRule_169 hD
  · rw [if_neg c] at hD
    refine ev_if_ne_f 169 dX2_readRule_139 (by decide) c ?_
    refine ev_aload_n dX2_readRule_142 0 rfl rfl ?_
    obtain ⟨_, g0, hD⟩ := bd hD
    obtain ⟨r1, g, hD⟩ := bd hD
    refine ew_callVv (as := []) (a := x0) (rest := []) dX2_readRule_143 v_X2_peek w_797 rfl (Nat.le_of_ble_eq_true rfl) rfl rfl g0 (Nat.le_of_ble_eq_true rfl) (Nat.le_of_ble_eq_true rfl) (ct_X2_peek g) ?_
    obtain ⟨r2, g, hD⟩ := bd hD
    refine ew_callSv (as := [vi r1.1]) (rest := []) dX2_readRule_146 v_X2_isDigit w_888 rfl (Nat.le_of_ble_eq_true rfl) (Nat.le_of_ble_eq_true rfl) (Nat.le_of_ble_eq_true rfl) (ct_X2_isDigit g) ?_
    by_cases c : r2 = 0
    · rw [if_pos c] at hD
      refine ev_if_eq_t (tgt := 164) dX2_readRule_149 (by decide) c ?_
      refine ev_sp dX2_readRule_164 rfl ?_
      refine Ev.pick [0, 1, 2, 3, 4] rfl ?_
      exact lk_X2_readRule_167 hD
    · rw [if_neg c] at hD
      refine ev_if_eq_f 164 dX2_readRule_149 (by decide) c ?_
      refine ev_aload_n dX2_readRule_152 0 rfl rfl ?_
      refine ev_iload dX2_readRule_153 4 rfl ?_
      refine ev_sp dX2_readRule_155 rfl ?_
      obtain ⟨_, g0, hD⟩ := bd hD
      obtain ⟨r3, g, hD⟩ := bd hD
      refine ew_callVv (as := [vi x5, vi 999]) (a := x0) (rest := []) dX2_readRule_158 v_X2_readNumber w_884 rfl (Nat.le_of_ble_eq_true rfl) rfl rfl g0 (Nat.le_of_ble_eq_true rfl) (Nat.le_of_ble_eq_true rfl) (ct_X2_readNumber g) ?_
      refine ev_goto (tgt := 167) dX2_readRule_161 (by decide) ?_
      refine Ev.pick [0, 1, 2, 3, 4] rfl ?_
      exact lk_X2_readRule_167 hD
def D_X2_readRule_118 (x0 : Nat) (x1 : Int) (x3 : Int) (x4 : Int) (x5 : Int) (x6 : Int) (σ : mS) : Option mS :=
  (tgO σ x0 2).bind fun _ =>
  (D_X2_peek x0 σ).bind fun r1 =>
  (D_X2_isDigit r1.1 r1.2).bind fun r2 =>
  if r2 = 0 then
    D_X2_readRule_138 x0 x1 x3 x4 x5 x6 r1.2
  else
    (tgO r1.2 x0 2).bind fun _ =>
    (D_X2_readNumber x0 0 999 r1.2).bind fun r3 =>
    D_X2_readRule_138 x0 x1 x3 x4 r3.1 x6 r3.2
set_option maxRecDepth 100000 in
set_option maxHeartbeats 4000000 in
theorem lk_X2_readRule_118 {G : mG} {x0 : Nat} {x1 : Int} {x3 : Int} {x4 : Int} {x5 : Int} {x6 : Int} {σ : mS} {R : mS} (hD : D_X2_readRule_118 x0 x1 x3 x4 x5 x6 σ = some R) : Ev G M_X2_readRule 118 [(0, vr x0), (1, vi x1), (3, vi x3), (4, vi x4), (5, vi x5), (6, vi x6)] [] σ (.inl none) R := by
  unfold D_X2_readRule_118 at hD
  refine ev_aload_n dX2_readRule_118 0 rfl rfl ?_
  obtain ⟨_, g0, hD⟩ := bd hD
  obtain ⟨r1, g, hD⟩ := bd hD
  refine ew_callVv (as := []) (a := x0) (rest := []) dX2_readRule_119 v_X2_peek w_797 rfl (Nat.le_of_ble_eq_true rfl) rfl rfl g0 (Nat.le_of_ble_eq_true rfl) (Nat.le_of_ble_eq_true rfl) (ct_X2_peek g) ?_
  obtain ⟨r2, g, hD⟩ := bd hD
  refine ew_callSv (as := [vi r1.1]) (rest := []) dX2_readRule_122 v_X2_isDigit w_888 rfl (Nat.le_of_ble_eq_true rfl) (Nat.le_of_ble_eq_true rfl) (Nat.le_of_ble_eq_true rfl) (ct_X2_isDigit g) ?_
  by_cases c : r2 = 0
  · rw [if_pos c] at hD
    refine ev_if_eq_t (tgt := 138) dX2_readRule_125 (by decide) c ?_
    exact lk_X2_readRule_138 hD
  · rw [if_neg c] at hD
    refine ev_if_eq_f 138 dX2_readRule_125 (by decide) c ?_
    refine ev_aload_n dX2_readRule_128 0 rfl rfl ?_
    refine ev_iconst dX2_readRule_129 (mi_c rfl) ?_
    refine ev_sp dX2_readRule_130 rfl ?_
    obtain ⟨_, g0, hD⟩ := bd hD
    obtain ⟨r3, g, hD⟩ := bd hD
    refine ew_callVv (as := [vi 0, vi 999]) (a := x0) (rest := []) dX2_readRule_133 v_X2_readNumber w_884 rfl (Nat.le_of_ble_eq_true rfl) rfl rfl g0 (Nat.le_of_ble_eq_true rfl) (Nat.le_of_ble_eq_true rfl) (ct_X2_readNumber g) ?_
    refine ev_istore dX2_readRule_136 (Nat.le_of_ble_eq_true rfl) rfl ?_
    refine Ev.pick [1, 2, 3, 4, 0, 5] rfl ?_
    exact lk_X2_readRule_138 hD
def D_X2_readRule_109 (x0 : Nat) (x1 : Int) (x3 : Int) (x4 : Int) (x5 : Int) (x6 : Int) (σ : mS) : Option mS :=
  if x1 = 0 then
    D_X2_readRule_118 x0 x1 x3 x4 x5 x6 σ
  else
    if x1 ≠ 4 then
      D_X2_readRule_138 x0 x1 x3 x4 x5 x6 σ
    else
      D_X2_readRule_118 x0 x1 x3 x4 x5 x6 σ
set_option maxRecDepth 100000 in
set_option maxHeartbeats 4000000 in
theorem lk_X2_readRule_109 {G : mG} {x0 : Nat} {x1 : Int} {x3 : Int} {x4 : Int} {x5 : Int} {x6 : Int} {σ : mS} {R : mS} (hD : D_X2_readRule_109 x0 x1 x3 x4 x5 x6 σ = some R) : Ev G M_X2_readRule 109 [(0, vr x0), (1, vi x1), (3, vi x3), (4, vi x4), (5, vi x5), (6, vi x6)] [] σ (.inl none) R := by
  unfold D_X2_readRule_109 at hD
  refine ev_iload_n dX2_readRule_109 1 rfl rfl ?_
  by_cases c : x1 = 0
  · rw [if_pos c] at hD
    refine ev_if_eq_t (tgt := 118) dX2_readRule_110 (by decide) c ?_
    exact lk_X2_readRule_118 hD
  · rw [if_neg c] at hD
    refine ev_if_eq_f 118 dX2_readRule_110 (by decide) c ?_
    refine ev_iload_n dX2_readRule_113 1 rfl rfl ?_
    refine ev_iconst dX2_readRule_114 (mi_c rfl) ?_
    by_cases c : x1 ≠ 4
    · rw [if_pos c] at hD
      refine ev_icmp_ne_t (tgt := 138) dX2_readRule_115 (by decide) c ?_
      exact lk_X2_readRule_138 hD
    · rw [if_neg c] at hD
      refine ev_icmp_ne_f 138 dX2_readRule_115 (by decide) c ?_
      exact lk_X2_readRule_118 hD
def D_X2_readRule_74 (x0 : Nat) (x1 : Int) (x3 : Int) (x5 : Int) (x6 : Int) (σ : mS) : Option mS :=
  (tgO σ x0 2).bind fun _ =>
  (D_X2_readSampleName x0 x3 σ).bind fun r1 =>
  D_X2_readRule_109 x0 x1 x3 r1.1 x5 x6 r1.2
set_option maxRecDepth 100000 in
set_option maxHeartbeats 4000000 in
theorem lk_X2_readRule_74 {G : mG} {x0 : Nat} {x1 : Int} {x3 : Int} {x5 : Int} {x6 : Int} {σ : mS} {R : mS} (hD : D_X2_readRule_74 x0 x1 x3 x5 x6 σ = some R) : Ev G M_X2_readRule 74 [(0, vr x0), (1, vi x1), (3, vi x3), (5, vi x5), (6, vi x6)] [] σ (.inl none) R := by
  unfold D_X2_readRule_74 at hD
  refine ev_aload_n dX2_readRule_74 0 rfl rfl ?_
  refine ev_iload_n dX2_readRule_75 2 rfl rfl ?_
  obtain ⟨_, g0, hD⟩ := bd hD
  obtain ⟨r1, g, hD⟩ := bd hD
  refine ew_callVv (as := [vi x3]) (a := x0) (rest := []) dX2_readRule_76 v_X2_readSampleName w_940 rfl (Nat.le_of_ble_eq_true rfl) rfl rfl g0 (Nat.le_of_ble_eq_true rfl) (Nat.le_of_ble_eq_true rfl) (ct_X2_readSampleName g) ?_
  refine ev_istore dX2_readRule_79 (Nat.le_of_ble_eq_true rfl) rfl ?_
  refine ev_goto (tgt := 109) dX2_readRule_81 (by decide) ?_
  refine Ev.pick [1, 2, 3, 0, 4, 5] rfl ?_
  exact lk_X2_readRule_109 hD
def D_X2_readRule_55 (x0 : Nat) (x1 : Int) (y0 : Int) (σ : mS) : Option mS :=
  if x1 = 0 then
    D_X2_readRule_74 x0 x1 y0 0 ((-1)) σ
  else
    if x1 ≠ 1 then
      if x1 ≠ 4 then
        (tgO σ x0 2).bind fun _ =>
        (D_X2_readNumber x0 0 999 σ).bind fun r1 =>
        D_X2_readRule_109 x0 x1 y0 ((-1)) r1.1 ((-1)) r1.2
      else
        (tgO σ x0 2).bind fun _ =>
        (D_X2_readPhaseName x0 y0 σ).bind fun r2 =>
        D_X2_readRule_109 x0 x1 y0 r2.1 0 ((-1)) r2.2
    else
      D_X2_readRule_74 x0 x1 y0 0 ((-1)) σ
set_option maxRecDepth 100000 in
set_option maxHeartbeats 4000000 in
theorem lk_X2_readRule_55 {G : mG} {x0 : Nat} {x1 : Int} {y0 : Int} {σ : mS} {R : mS} (hD : D_X2_readRule_55 x0 x1 y0 σ = some R) : Ev G M_X2_readRule 55 [(0, vr x0), (1, vi x1)] [vi y0] σ (.inl none) R := by
  unfold D_X2_readRule_55 at hD
  refine ev_istore_n dX2_readRule_55 rfl (Nat.le_of_ble_eq_true rfl) rfl ?_
  refine ev_iconst dX2_readRule_56 (mi_c rfl) ?_
  refine ev_istore dX2_readRule_57 (Nat.le_of_ble_eq_true rfl) rfl ?_
  refine ev_iconst dX2_readRule_59 (mi_c rfl) ?_
  refine ev_istore dX2_readRule_60 (Nat.le_of_ble_eq_true rfl) rfl ?_
  refine ev_iconst dX2_readRule_62 (mi_c rfl) ?_
  refine ev_istore dX2_readRule_63 (Nat.le_of_ble_eq_true rfl) rfl ?_
  refine ev_iload_n dX2_readRule_65 5 rfl rfl ?_
  by_cases c : x1 = 0
  · rw [if_pos c] at hD
    refine ev_if_eq_t (tgt := 74) dX2_readRule_66 (by decide) c ?_
    refine Ev.pick [4, 5, 3, 1, 0] rfl ?_
    exact lk_X2_readRule_74 hD
  · rw [if_neg c] at hD
    refine ev_if_eq_f 74 dX2_readRule_66 (by decide) c ?_
    refine ev_iload_n dX2_readRule_69 5 rfl rfl ?_
    refine ev_iconst dX2_readRule_70 (mi_c rfl) ?_
    by_cases c : x1 ≠ 1
    · rw [if_pos c] at hD
      refine ev_icmp_ne_t (tgt := 84) dX2_readRule_71 (by decide) c ?_
      refine ev_iload_n dX2_readRule_84 5 rfl rfl ?_
      refine ev_iconst dX2_readRule_85 (mi_c rfl) ?_
      by_cases c : x1 ≠ 4
      · rw [if_pos c] at hD
        refine ev_icmp_ne_t (tgt := 99) dX2_readRule_86 (by decide) c ?_
        refine ev_aload_n dX2_readRule_99 4 rfl rfl ?_
        refine ev_iconst dX2_readRule_100 (mi_c rfl) ?_
        refine ev_sp dX2_readRule_101 rfl ?_
        obtain ⟨_, g0, hD⟩ := bd hD
        obtain ⟨r1, g, hD⟩ := bd hD
        refine ew_callVv (as := [vi 0, vi 999]) (a := x0) (rest := []) dX2_readRule_104 v_X2_readNumber w_884 rfl (Nat.le_of_ble_eq_true rfl) rfl rfl g0 (Nat.le_of_ble_eq_true rfl) (Nat.le_of_ble_eq_true rfl) (ct_X2_readNumber g) ?_
        refine ev_istore dX2_readRule_107 (Nat.le_of_ble_eq_true rfl) rfl ?_
        refine Ev.pick [4, 5, 3, 2, 0, 1] rfl ?_
        exact lk_X2_readRule_109 hD
      · rw [if_neg c] at hD
        refine ev_icmp_ne_f 99 dX2_readRule_86 (by decide) c ?_
        refine ev_aload_n dX2_readRule_89 4 rfl rfl ?_
        refine ev_iload_n dX2_readRule_90 3 rfl rfl ?_
        obtain ⟨_, g0, hD⟩ := bd hD
        obtain ⟨r2, g, hD⟩ := bd hD
        refine ew_callVv (as := [vi y0]) (a := x0) (rest := []) dX2_readRule_91 v_X2_readPhaseName w_932 rfl (Nat.le_of_ble_eq_true rfl) rfl rfl g0 (Nat.le_of_ble_eq_true rfl) (Nat.le_of_ble_eq_true rfl) (ct_X2_readPhaseName g) ?_
        refine ev_istore dX2_readRule_94 (Nat.le_of_ble_eq_true rfl) rfl ?_
        refine ev_goto (tgt := 109) dX2_readRule_96 (by decide) ?_
        refine Ev.pick [4, 5, 3, 0, 2, 1] rfl ?_
        exact lk_X2_readRule_109 hD
    · rw [if_neg c] at hD
      refine ev_icmp_ne_f 84 dX2_readRule_71 (by decide) c ?_
      refine Ev.pick [4, 5, 3, 1, 0] rfl ?_
      exact lk_X2_readRule_74 hD
def D_X2_readRule_37 (x0 : Nat) (x1 : Int) (y0 : Int) (σ : mS) : Option mS :=
  if y0 = 0 then
    (tgO σ x0 2).bind fun _ =>
    (D_X2_readSampleName x0 ((-1)) σ).bind fun r1 =>
    D_X2_readRule_55 x0 x1 r1.1 r1.2
  else
    (tgO σ x0 2).bind fun _ =>
    (D_X2_readPhaseName x0 ((-1)) σ).bind fun r2 =>
    D_X2_readRule_55 x0 x1 r2.1 r2.2
set_option maxRecDepth 100000 in
set_option maxHeartbeats 4000000 in
theorem lk_X2_readRule_37 {G : mG} {x0 : Nat} {x1 : Int} {y0 : Int} {σ : mS} {R : mS} (hD : D_X2_readRule_37 x0 x1 y0 σ = some R) : Ev G M_X2_readRule 37 [(0, vr x0), (1, vi x1)] [vi y0] σ (.inl none) R := by
  unfold D_X2_readRule_37 at hD
  refine ev_istore_n dX2_readRule_37 rfl (Nat.le_of_ble_eq_true rfl) rfl ?_
  refine ev_iload_n dX2_readRule_38 0 rfl rfl ?_
  by_cases c : y0 = 0
  · rw [if_pos c] at hD
    refine ev_if_eq_t (tgt := 50) dX2_readRule_39 (by decide) c ?_
    refine ev_aload_n dX2_readRule_50 1 rfl rfl ?_
    refine ev_iconst dX2_readRule_51 (mi_c rfl) ?_
    obtain ⟨_, g0, hD⟩ := bd hD
    obtain ⟨r1, g, hD⟩ := bd hD
    refine ew_callVv (as := [vi ((-1))]) (a := x0) (rest := []) dX2_readRule_52 v_X2_readSampleName w_940 rfl (Nat.le_of_ble_eq_true rfl) rfl rfl g0 (Nat.le_of_ble_eq_true rfl) (Nat.le_of_ble_eq_true rfl) (ct_X2_readSampleName g) ?_
    refine Ev.pick [1, 2] rfl ?_
    exact lk_X2_readRule_55 hD
  · rw [if_neg c] at hD
    refine ev_if_eq_f 50 dX2_readRule_39 (by decide) c ?_
    refine ev_aload_n dX2_readRule_42 1 rfl rfl ?_
    refine ev_iconst dX2_readRule_43 (mi_c rfl) ?_
    obtain ⟨_, g0, hD⟩ := bd hD
    obtain ⟨r2, g, hD⟩ := bd hD
    refine ew_callVv (as := [vi ((-1))]) (a := x0) (rest := []) dX2_readRule_44 v_X2_readPhaseName w_932 rfl (Nat.le_of_ble_eq_true rfl) rfl rfl g0 (Nat.le_of_ble_eq_true rfl) (Nat.le_of_ble_eq_true rfl) (ct_X2_readPhaseName g) ?_
    refine ev_goto (tgt := 55) dX2_readRule_47 (by decide) ?_
    refine Ev.pick [1, 2] rfl ?_
    exact lk_X2_readRule_55 hD
def D_X2_readRule_32 (x0 : Nat) (x1 : Int) (σ : mS) : Option mS :=
  D_X2_readRule_37 x0 x1 1 σ
set_option maxRecDepth 100000 in
set_option maxHeartbeats 4000000 in
theorem lk_X2_readRule_32 {G : mG} {x0 : Nat} {x1 : Int} {σ : mS} {R : mS} (hD : D_X2_readRule_32 x0 x1 σ = some R) : Ev G M_X2_readRule 32 [(0, vr x0), (1, vi x1)] [] σ (.inl none) R := by
  unfold D_X2_readRule_32 at hD
  refine ev_iconst dX2_readRule_32 (mi_c rfl) ?_
  refine ev_goto (tgt := 37) dX2_readRule_33 (by decide) ?_
  exact lk_X2_readRule_37 hD
def D_X2_readRule (x0 : Nat) (x1 : Int) (σ : mS) : Option mS :=
  (gR σ x0 2 0).bind fun v1 =>
  (gI σ v1 5 5).bind fun v2 =>
  if v2 < 24 then
    if x1 = 4 then
      D_X2_readRule_32 x0 x1 σ
    else
      if x1 ≠ 5 then
        D_X2_readRule_37 x0 x1 0 σ
      else
        D_X2_readRule_32 x0 x1 σ
  else
    (gI σ x0 2 6).bind fun v3 =>
    (tgO σ x0 2).bind fun _ =>
    (D_X2_fail x0 3 v3 σ).bind fun r4 =>
    some r4
set_option maxRecDepth 100000 in
set_option maxHeartbeats 4000000 in
theorem lk_X2_readRule {G : mG} {x0 : Nat} {x1 : Int} {σ : mS} {R : mS} (hD : D_X2_readRule x0 x1 σ = some R) : Ev G M_X2_readRule 0 [(0, vr x0), (1, vi x1)] [] σ (.inl none) R := by
  unfold D_X2_readRule at hD
  refine ev_aload_n dX2_readRule_0 0 rfl rfl ?_
  obtain ⟨v1, g, hD⟩ := bd hD
  refine ew_getR 2 0 dX2_readRule_1 rfl (Nat.le_of_ble_eq_true rfl) w_339 in_X2 rfl g ?_
  obtain ⟨v2, g, hD⟩ := bd hD
  refine ew_getI 5 5 dX2_readRule_4 rfl (Nat.le_of_ble_eq_true rfl) w_287 in_X5 rfl g ?_
  refine ev_bp dX2_readRule_7 rfl ?_
  by_cases c : v2 < 24
  · rw [if_pos c] at hD
    refine ev_icmp_lt_t (tgt := 22) dX2_readRule_9 (by decide) c ?_
    refine ev_iload_n dX2_readRule_22 1 rfl rfl ?_
    refine ev_iconst dX2_readRule_23 (mi_c rfl) ?_
    by_cases c : x1 = 4
    · rw [if_pos c] at hD
      refine ev_icmp_eq_t (tgt := 32) dX2_readRule_24 (by decide) c ?_
      exact lk_X2_readRule_32 hD
    · rw [if_neg c] at hD
      refine ev_icmp_eq_f 32 dX2_readRule_24 (by decide) c ?_
      refine ev_iload_n dX2_readRule_27 1 rfl rfl ?_
      refine ev_iconst dX2_readRule_28 (mi_c rfl) ?_
      by_cases c : x1 ≠ 5
      · rw [if_pos c] at hD
        refine ev_icmp_ne_t (tgt := 36) dX2_readRule_29 (by decide) c ?_
        refine ev_iconst dX2_readRule_36 (mi_c rfl) ?_
        exact lk_X2_readRule_37 hD
      · rw [if_neg c] at hD
        refine ev_icmp_ne_f 36 dX2_readRule_29 (by decide) c ?_
        exact lk_X2_readRule_32 hD
  · rw [if_neg c] at hD
    refine ev_icmp_lt_f 22 dX2_readRule_9 (by decide) c ?_
    refine ev_aload_n dX2_readRule_12 0 rfl rfl ?_
    refine ev_iconst dX2_readRule_13 (mi_c rfl) ?_
    refine ev_aload_n dX2_readRule_14 0 rfl rfl ?_
    obtain ⟨v3, g, hD⟩ := bd hD
    refine ew_getI 2 6 dX2_readRule_15 rfl (Nat.le_of_ble_eq_true rfl) w_348 in_X2 rfl g ?_
    obtain ⟨_, g0, hD⟩ := bd hD
    obtain ⟨r4, g, hD⟩ := bd hD
    refine ew_callV0 (as := [vi 3, vi v3]) (a := x0) (rest := []) dX2_readRule_18 v_X2_fail w_804 rfl (Nat.le_of_ble_eq_true rfl) rfl rfl g0 (Nat.le_of_ble_eq_true rfl) (Nat.le_of_ble_eq_true rfl) (ct_X2_fail g) ?_
    cases hD
    exact ev_ret none dX2_readRule_21 True.intro
theorem ct_X2_readRule {G : mG} {x0 : Nat} {x1 : Int} {σ : mS} {R : mS} (hD : D_X2_readRule x0 x1 σ = some R) : Ct G M_X2_readRule [vr x0, vi x1] σ (.inl none) R := ct_of rfl (by decide +kernel) rfl (Nat.le_of_ble_eq_true rfl) rfl (lk_X2_readRule hD)
def D_X2_readLine_24 (x0 : Nat) (σ : mS) : Option mS :=
  (gI σ x0 2 6).bind fun v1 =>
  (tgO σ x0 2).bind fun _ =>
  (D_X2_fail x0 1 v1 σ).bind fun r2 =>
  some r2
set_option maxRecDepth 100000 in
set_option maxHeartbeats 4000000 in
theorem lk_X2_readLine_24 {G : mG} {x0 : Nat} {σ : mS} {R : mS} (hD : D_X2_readLine_24 x0 σ = some R) : Ev G M_X2_readLine 24 [(0, vr x0)] [] σ (.inl none) R := by
  unfold D_X2_readLine_24 at hD
  refine ev_aload_n dX2_readLine_24 0 rfl rfl ?_
  refine ev_iconst dX2_readLine_25 (mi_c rfl) ?_
  refine ev_aload_n dX2_readLine_26 0 rfl rfl ?_
  obtain ⟨v1, g, hD⟩ := bd hD
  refine ew_getI 2 6 dX2_readLine_27 rfl (Nat.le_of_ble_eq_true rfl) w_348 in_X2 rfl g ?_
  obtain ⟨_, g0, hD⟩ := bd hD
  obtain ⟨r2, g, hD⟩ := bd hD
  refine ew_callV0 (as := [vi 1, vi v1]) (a := x0) (rest := []) dX2_readLine_30 v_X2_fail w_804 rfl (Nat.le_of_ble_eq_true rfl) rfl rfl g0 (Nat.le_of_ble_eq_true rfl) (Nat.le_of_ble_eq_true rfl) (ct_X2_fail g) ?_
  cases hD
  exact ev_ret none dX2_readLine_33 True.intro
def D_X2_readLine_120 (σ : mS) : Option mS :=
  some σ
set_option maxRecDepth 100000 in
set_option maxHeartbeats 4000000 in
theorem lk_X2_readLine_120 {G : mG} {σ : mS} {R : mS} (hD : D_X2_readLine_120  σ = some R) : Ev G M_X2_readLine 120 [] [] σ (.inl none) R := by
  unfold D_X2_readLine_120 at hD
  cases hD
  exact ev_ret none dX2_readLine_120 True.intro
def D_X2_readLine_34 (x0 : Nat) (x1 : Int) (x2 : Int) (σ : mS) : Option mS :=
  if x2 = 6 then
    (tgO σ x0 2).bind fun _ =>
    (D_X2_readCurve x0 x1 σ).bind fun r1 =>
    D_X2_readLine_120  r1
  else
  if x2 = 7 then
    (tgO σ x0 2).bind fun _ =>
    (D_X2_readSample x0 σ).bind fun r2 =>
    D_X2_readLine_120  r2
  else
  if x2 = 8 then
    (tgO σ x0 2).bind fun _ =>
    (D_X2_readRings x0 σ).bind fun r3 =>
    D_X2_readLine_120  r3
  else
  if x2 = 9 then
    (tgO σ x0 2).bind fun _ =>
    (D_X2_readPhase x0 σ).bind fun r4 =>
    D_X2_readLine_120  r4
  else
  if x2 = 10 then
    (tgO σ x0 2).bind fun _ =>
    (D_X2_readSigma x0 σ).bind fun r5 =>
    D_X2_readLine_120  r5
  else
  if x2 = 11 then
    (tgO σ x0 2).bind fun _ =>
    (D_X2_readReserve x0 σ).bind fun r6 =>
    D_X2_readLine_120  r6
  else
    (tgO σ x0 2).bind fun _ =>
    (D_X2_readRule x0 x2 σ).bind fun r7 =>
    D_X2_readLine_120  r7
set_option maxRecDepth 100000 in
set_option maxHeartbeats 4000000 in
theorem lk_X2_readLine_34 {G : mG} {x0 : Nat} {x1 : Int} {x2 : Int} {σ : mS} {R : mS} (hD : D_X2_readLine_34 x0 x1 x2 σ = some R) : Ev G M_X2_readLine 34 [(0, vr x0), (1, vi x1), (2, vi x2)] [] σ (.inl none) R := by
  unfold D_X2_readLine_34 at hD
  refine ev_iload_n dX2_readLine_34 2 rfl rfl ?_
  by_cases c0 : x2 = 6
  · rw [if_pos c0] at hD
    refine ev_tableIn (off := 37) (tgt := 72) dX2_readLine_35 (by omega) (by omega) (by rw [c0]; rfl) (by decide) ?_
    refine ev_aload_n dX2_readLine_72 0 rfl rfl ?_
    refine ev_iload_n dX2_readLine_73 1 rfl rfl ?_
    obtain ⟨_, g0, hD⟩ := bd hD
    obtain ⟨r1, g, hD⟩ := bd hD
    refine ew_callV0 (as := [vi x1]) (a := x0) (rest := []) dX2_readLine_74 v_X2_readCurve w_876 rfl (Nat.le_of_ble_eq_true rfl) rfl rfl g0 (Nat.le_of_ble_eq_true rfl) (Nat.le_of_ble_eq_true rfl) (ct_X2_readCurve g) ?_
    refine ev_goto (tgt := 120) dX2_readLine_77 (by decide) ?_
    refine Ev.pick [] rfl ?_
    exact lk_X2_readLine_120 hD
  rw [if_neg c0] at hD
  by_cases c1 : x2 = 7
  · rw [if_pos c1] at hD
    refine ev_tableIn (off := 45) (tgt := 80) dX2_readLine_35 (by omega) (by omega) (by rw [c1]; rfl) (by decide) ?_
    refine ev_aload_n dX2_readLine_80 0 rfl rfl ?_
    obtain ⟨_, g0, hD⟩ := bd hD
    obtain ⟨r2, g, hD⟩ := bd hD
    refine ew_callV0 (as := []) (a := x0) (rest := []) dX2_readLine_81 v_X2_readSample w_892 rfl (Nat.le_of_ble_eq_true rfl) rfl rfl g0 (Nat.le_of_ble_eq_true rfl) (Nat.le_of_ble_eq_true rfl) (ct_X2_readSample g) ?_
    refine ev_goto (tgt := 120) dX2_readLine_84 (by decide) ?_
    refine Ev.pick [] rfl ?_
    exact lk_X2_readLine_120 hD
  rw [if_neg c1] at hD
  by_cases c2 : x2 = 8
  · rw [if_pos c2] at hD
    refine ev_tableIn (off := 52) (tgt := 87) dX2_readLine_35 (by omega) (by omega) (by rw [c2]; rfl) (by decide) ?_
    refine ev_aload_n dX2_readLine_87 0 rfl rfl ?_
    obtain ⟨_, g0, hD⟩ := bd hD
    obtain ⟨r3, g, hD⟩ := bd hD
    refine ew_callV0 (as := []) (a := x0) (rest := []) dX2_readLine_88 v_X2_readRings w_907 rfl (Nat.le_of_ble_eq_true rfl) rfl rfl g0 (Nat.le_of_ble_eq_true rfl) (Nat.le_of_ble_eq_true rfl) (ct_X2_readRings g) ?_
    refine ev_goto (tgt := 120) dX2_readLine_91 (by decide) ?_
    refine Ev.pick [] rfl ?_
    exact lk_X2_readLine_120 hD
  rw [if_neg c2] at hD
  by_cases c3 : x2 = 9
  · rw [if_pos c3] at hD
    refine ev_tableIn (off := 59) (tgt := 94) dX2_readLine_35 (by omega) (by omega) (by rw [c3]; rfl) (by decide) ?_
    refine ev_aload_n dX2_readLine_94 0 rfl rfl ?_
    obtain ⟨_, g0, hD⟩ := bd hD
    obtain ⟨r4, g, hD⟩ := bd hD
    refine ew_callV0 (as := []) (a := x0) (rest := []) dX2_readLine_95 v_X2_readPhase w_911 rfl (Nat.le_of_ble_eq_true rfl) rfl rfl g0 (Nat.le_of_ble_eq_true rfl) (Nat.le_of_ble_eq_true rfl) (ct_X2_readPhase g) ?_
    refine ev_goto (tgt := 120) dX2_readLine_98 (by decide) ?_
    refine Ev.pick [] rfl ?_
    exact lk_X2_readLine_120 hD
  rw [if_neg c3] at hD
  by_cases c4 : x2 = 10
  · rw [if_pos c4] at hD
    refine ev_tableIn (off := 66) (tgt := 101) dX2_readLine_35 (by omega) (by omega) (by rw [c4]; rfl) (by decide) ?_
    refine ev_aload_n dX2_readLine_101 0 rfl rfl ?_
    obtain ⟨_, g0, hD⟩ := bd hD
    obtain ⟨r5, g, hD⟩ := bd hD
    refine ew_callV0 (as := []) (a := x0) (rest := []) dX2_readLine_102 v_X2_readSigma w_919 rfl (Nat.le_of_ble_eq_true rfl) rfl rfl g0 (Nat.le_of_ble_eq_true rfl) (Nat.le_of_ble_eq_true rfl) (ct_X2_readSigma g) ?_
    refine ev_goto (tgt := 120) dX2_readLine_105 (by decide) ?_
    refine Ev.pick [] rfl ?_
    exact lk_X2_readLine_120 hD
  rw [if_neg c4] at hD
  by_cases c5 : x2 = 11
  · rw [if_pos c5] at hD
    refine ev_tableIn (off := 73) (tgt := 108) dX2_readLine_35 (by omega) (by omega) (by rw [c5]; rfl) (by decide) ?_
    refine ev_aload_n dX2_readLine_108 0 rfl rfl ?_
    obtain ⟨_, g0, hD⟩ := bd hD
    obtain ⟨r6, g, hD⟩ := bd hD
    refine ew_callV0 (as := []) (a := x0) (rest := []) dX2_readLine_109 v_X2_readReserve w_923 rfl (Nat.le_of_ble_eq_true rfl) rfl rfl g0 (Nat.le_of_ble_eq_true rfl) (Nat.le_of_ble_eq_true rfl) (ct_X2_readReserve g) ?_
    refine ev_goto (tgt := 120) dX2_readLine_112 (by decide) ?_
    refine Ev.pick [] rfl ?_
    exact lk_X2_readLine_120 hD
  rw [if_neg c5] at hD
  refine ev_tableOut (tgt := 115) dX2_readLine_35 (by omega) (by decide) ?_
  refine ev_aload_n dX2_readLine_115 0 rfl rfl ?_
  refine ev_iload_n dX2_readLine_116 2 rfl rfl ?_
  obtain ⟨_, g0, hD⟩ := bd hD
  obtain ⟨r7, g, hD⟩ := bd hD
  refine ew_callV0 (as := [vi x2]) (a := x0) (rest := []) dX2_readLine_117 v_X2_readRule w_928 rfl (Nat.le_of_ble_eq_true rfl) rfl rfl g0 (Nat.le_of_ble_eq_true rfl) (Nat.le_of_ble_eq_true rfl) (ct_X2_readRule g) ?_
  refine Ev.pick [] rfl ?_
  exact lk_X2_readLine_120 hD
def D_X2_readLine (x0 : Nat) (x1 : Int) (σ : mS) : Option mS :=
  (tgO σ x0 2).bind fun _ =>
  (D_X2_readWord x0 σ).bind fun r1 =>
  (tgO r1 x0 2).bind fun _ =>
  (D_X2_keyword x0 r1).bind fun r2 =>
  if r2 = ((-1)) then
    D_X2_readLine_24 x0 r1
  else
    if x1 = 0 then
      D_X2_readLine_34 x0 x1 r2 r1
    else
      if r2 = 6 then
        D_X2_readLine_34 x0 x1 r2 r1
      else
        D_X2_readLine_24 x0 r1
set_option maxRecDepth 100000 in
set_option maxHeartbeats 4000000 in
theorem lk_X2_readLine {G : mG} {x0 : Nat} {x1 : Int} {σ : mS} {R : mS} (hD : D_X2_readLine x0 x1 σ = some R) : Ev G M_X2_readLine 0 [(0, vr x0), (1, vi x1)] [] σ (.inl none) R := by
  unfold D_X2_readLine at hD
  refine ev_aload_n dX2_readLine_0 0 rfl rfl ?_
  obtain ⟨_, g0, hD⟩ := bd hD
  obtain ⟨r1, g, hD⟩ := bd hD
  refine ew_callV0 (as := []) (a := x0) (rest := []) dX2_readLine_1 v_X2_readWord w_793 rfl (Nat.le_of_ble_eq_true rfl) rfl rfl g0 (Nat.le_of_ble_eq_true rfl) (Nat.le_of_ble_eq_true rfl) (ct_X2_readWord g) ?_
  refine ev_aload_n dX2_readLine_4 0 rfl rfl ?_
  obtain ⟨_, g0, hD⟩ := bd hD
  obtain ⟨r2, g, hD⟩ := bd hD
  refine ew_callVv (as := []) (a := x0) (rest := []) dX2_readLine_5 v_X2_keyword w_808 rfl (Nat.le_of_ble_eq_true rfl) rfl rfl g0 (Nat.le_of_ble_eq_true rfl) (Nat.le_of_ble_eq_true rfl) (ct_X2_keyword g) ?_
  refine ev_istore_n dX2_readLine_8 rfl (Nat.le_of_ble_eq_true rfl) rfl ?_
  refine ev_iload_n dX2_readLine_9 0 rfl rfl ?_
  refine ev_iconst dX2_readLine_10 (mi_c rfl) ?_
  by_cases c : r2 = ((-1))
  · rw [if_pos c] at hD
    refine ev_icmp_eq_t (tgt := 24) dX2_readLine_11 (by decide) c ?_
    refine Ev.pick [1] rfl ?_
    exact lk_X2_readLine_24 hD
  · rw [if_neg c] at hD
    refine ev_icmp_eq_f 24 dX2_readLine_11 (by decide) c ?_
    refine ev_iload_n dX2_readLine_14 2 rfl rfl ?_
    by_cases c : x1 = 0
    · rw [if_pos c] at hD
      refine ev_if_eq_t (tgt := 34) dX2_readLine_15 (by decide) c ?_
      refine Ev.pick [1, 2, 0] rfl ?_
      exact lk_X2_readLine_34 hD
    · rw [if_neg c] at hD
      refine ev_if_eq_f 34 dX2_readLine_15 (by decide) c ?_
      refine ev_iload_n dX2_readLine_18 0 rfl rfl ?_
      refine ev_bp dX2_readLine_19 rfl ?_
      by_cases c : r2 = 6
      · rw [if_pos c] at hD
        refine ev_icmp_eq_t (tgt := 34) dX2_readLine_21 (by decide) c ?_
        refine Ev.pick [1, 2, 0] rfl ?_
        exact lk_X2_readLine_34 hD
      · rw [if_neg c] at hD
        refine ev_icmp_eq_f 34 dX2_readLine_21 (by decide) c ?_
        refine Ev.pick [1] rfl ?_
        exact lk_X2_readLine_24 hD
theorem ct_X2_readLine {G : mG} {x0 : Nat} {x1 : Int} {σ : mS} {R : mS} (hD : D_X2_readLine x0 x1 σ = some R) : Ct G M_X2_readLine [vr x0, vi x1] σ (.inl none) R := ct_of rfl (by decide +kernel) rfl (Nat.le_of_ble_eq_true rfl) rfl (lk_X2_readLine hD)
def D_X2_read_44 : Nat → Nat → Int → mS → Option mS
  | 0, _, _, _ => none
  | f + 1, x0, x2, σ =>
    if 500 ≤ x2 then
      some σ
    else
      (gI σ x0 2 1).bind fun v1 =>
      if v1 ≠ 0 then
        some σ
      else
        (tgO σ x0 2).bind fun _ =>
        (D_X2_peek x0 σ).bind fun r2 =>
        if r2.1 = ((-1)) then
          some r2.2
        else
          (tgO r2.2 x0 2).bind fun _ =>
          (D_X2_readLine x0 0 r2.2).bind fun r3 =>
          (D_X2_read_44 f) x0 (mw (x2 + 1)) r3
set_option maxRecDepth 100000 in
set_option maxHeartbeats 4000000 in
theorem lk_X2_read_44 {G : mG} (f : Nat) : ∀ {x0 : Nat} {x2 : Int} {σ : mS} {R : mS}, D_X2_read_44 f x0 x2 σ = some R → ∀ {r : mX} {τ : mS}, Ev G M_X2_read 77 [] [] R r τ → Ev G M_X2_read 44 [(0, vr x0), (2, vi x2)] [] σ r τ := by
  induction f with
  | zero =>
    intros
    rename_i hD _ _ _
    cases hD
  | succ f ih =>
    intro x0 x2 σ R hD r τ hk
    have hrec := @ih
    rw [D_X2_read_44] at hD
    refine ev_iload_n dX2_read_44 1 rfl rfl ?_
    refine ev_sp dX2_read_45 rfl ?_
    by_cases c : 500 ≤ x2
    · rw [if_pos c] at hD
      refine ev_icmp_ge_t (tgt := 77) dX2_read_48 (by decide) c ?_
      cases hD
      refine Ev.pick [] rfl ?_
      exact hk
    · rw [if_neg c] at hD
      refine ev_icmp_ge_f 77 dX2_read_48 (by decide) c ?_
      refine ev_aload_n dX2_read_51 0 rfl rfl ?_
      obtain ⟨v1, g, hD⟩ := bd hD
      refine ew_getI 2 1 dX2_read_52 rfl (Nat.le_of_ble_eq_true rfl) w_341 in_X2 rfl g ?_
      by_cases c : v1 ≠ 0
      · rw [if_pos c] at hD
        refine ev_if_ne_t (tgt := 77) dX2_read_55 (by decide) c ?_
        cases hD
        refine Ev.pick [] rfl ?_
        exact hk
      · rw [if_neg c] at hD
        refine ev_if_ne_f 77 dX2_read_55 (by decide) c ?_
        refine ev_aload_n dX2_read_58 0 rfl rfl ?_
        obtain ⟨_, g0, hD⟩ := bd hD
        obtain ⟨r2, g, hD⟩ := bd hD
        refine ew_callVv (as := []) (a := x0) (rest := []) dX2_read_59 v_X2_peek w_797 rfl (Nat.le_of_ble_eq_true rfl) rfl rfl g0 (Nat.le_of_ble_eq_true rfl) (Nat.le_of_ble_eq_true rfl) (ct_X2_peek g) ?_
        refine ev_iconst dX2_read_62 (mi_c rfl) ?_
        by_cases c : r2.1 = ((-1))
        · rw [if_pos c] at hD
          refine ev_icmp_eq_t (tgt := 77) dX2_read_63 (by decide) c ?_
          cases hD
          refine Ev.pick [] rfl ?_
          exact hk
        · rw [if_neg c] at hD
          refine ev_icmp_eq_f 77 dX2_read_63 (by decide) c ?_
          refine ev_aload_n dX2_read_66 0 rfl rfl ?_
          refine ev_iconst dX2_read_67 (mi_c rfl) ?_
          obtain ⟨_, g0, hD⟩ := bd hD
          obtain ⟨r3, g, hD⟩ := bd hD
          refine ew_callV0 (as := [vi 0]) (a := x0) (rest := []) dX2_read_68 v_X2_readLine w_789 rfl (Nat.le_of_ble_eq_true rfl) rfl rfl g0 (Nat.le_of_ble_eq_true rfl) (Nat.le_of_ble_eq_true rfl) (ct_X2_readLine g) ?_
          refine ev_iinc dX2_read_71 1 rfl (Nat.le_of_ble_eq_true rfl) rfl ?_
          refine ev_goto (tgt := 44) dX2_read_74 (by decide) ?_
          refine Ev.pick [1, 0] rfl ?_
          exact hrec hD hk
def D_X2_read_77 (σ : mS) : Option mS :=
  some σ
set_option maxRecDepth 100000 in
set_option maxHeartbeats 4000000 in
theorem lk_X2_read_77 {G : mG} {σ : mS} {R : mS} (hD : D_X2_read_77  σ = some R) : Ev G M_X2_read 77 [] [] σ (.inl none) R := by
  unfold D_X2_read_77 at hD
  cases hD
  exact ev_ret none dX2_read_77 True.intro
def D_X2_read (x0 : Nat) (x1 : Int) (σ : mS) : Option mS :=
  (gR σ x0 2 0).bind fun v1 =>
  (tgO σ v1 5).bind fun _ =>
  (D_X5_forget v1 σ).bind fun r2 =>
  (pI r2 x0 2 1 0).bind fun s3 =>
  (pI s3 x0 2 2 ((-1))).bind fun s4 =>
  (pI s4 x0 2 4 x1).bind fun s5 =>
  (pI s5 x0 2 5 0).bind fun s6 =>
  (pB s6 x0 2 8 0).bind fun s7 =>
  (pB s7 x0 2 9 0).bind fun s8 =>
  (tgO s8 x0 2).bind fun _ =>
  (D_X2_readLine x0 1 s8).bind fun r9 =>
  (D_X2_read_44 mFU x0 0 r9).bind fun r10 =>
  D_X2_read_77  r10
set_option maxRecDepth 100000 in
set_option maxHeartbeats 4000000 in
theorem lk_X2_read {G : mG} {x0 : Nat} {x1 : Int} {σ : mS} {R : mS} (hD : D_X2_read x0 x1 σ = some R) : Ev G M_X2_read 0 [(0, vr x0), (1, vi x1)] [] σ (.inl none) R := by
  unfold D_X2_read at hD
  refine ev_aload_n dX2_read_0 0 rfl rfl ?_
  obtain ⟨v1, g, hD⟩ := bd hD
  refine ew_getR 2 0 dX2_read_1 rfl (Nat.le_of_ble_eq_true rfl) w_339 in_X2 rfl g ?_
  obtain ⟨_, g0, hD⟩ := bd hD
  obtain ⟨r2, g, hD⟩ := bd hD
  refine ew_callV0 (as := []) (a := v1) (rest := []) dX2_read_4 v_X5_forget w_785 rfl (Nat.le_of_ble_eq_true rfl) rfl rfl g0 (Nat.le_of_ble_eq_true rfl) (Nat.le_of_ble_eq_true rfl) (ct_X5_forget g) ?_
  refine ev_aload_n dX2_read_7 0 rfl rfl ?_
  refine ev_iconst dX2_read_8 (mi_c rfl) ?_
  obtain ⟨s3, g, hD⟩ := bd hD
  refine ew_putI 2 1 dX2_read_9 rfl (Nat.le_of_ble_eq_true rfl) w_341 in_X2 tyX2_ok nmX2 (Or.inl rfl) rfl g ?_
  refine ev_aload_n dX2_read_12 0 rfl rfl ?_
  refine ev_iconst dX2_read_13 (mi_c rfl) ?_
  obtain ⟨s4, g, hD⟩ := bd hD
  refine ew_putI 2 2 dX2_read_14 rfl (Nat.le_of_ble_eq_true rfl) w_343 in_X2 tyX2_ok nmX2 (Or.inl rfl) rfl g ?_
  refine ev_aload_n dX2_read_17 0 rfl rfl ?_
  refine ev_iload_n dX2_read_18 1 rfl rfl ?_
  obtain ⟨s5, g, hD⟩ := bd hD
  refine ew_putI 2 4 dX2_read_19 rfl (Nat.le_of_ble_eq_true rfl) w_346 in_X2 tyX2_ok nmX2 (Or.inl rfl) rfl g ?_
  refine ev_aload_n dX2_read_22 0 rfl rfl ?_
  refine ev_iconst dX2_read_23 (mi_c rfl) ?_
  obtain ⟨s6, g, hD⟩ := bd hD
  refine ew_putI 2 5 dX2_read_24 rfl (Nat.le_of_ble_eq_true rfl) w_347 in_X2 tyX2_ok nmX2 (Or.inl rfl) rfl g ?_
  refine ev_aload_n dX2_read_27 0 rfl rfl ?_
  refine ev_iconst dX2_read_28 (mi_c rfl) ?_
  obtain ⟨s7, g, hD⟩ := bd hD
  refine ew_putB 2 8 dX2_read_29 rfl (Nat.le_of_ble_eq_true rfl) w_350 in_X2 tyX2_ok nmX2 (Or.inl rfl) rfl g ?_
  refine ev_aload_n dX2_read_32 0 rfl rfl ?_
  refine ev_iconst dX2_read_33 (mi_c rfl) ?_
  obtain ⟨s8, g, hD⟩ := bd hD
  refine ew_putB 2 9 dX2_read_34 rfl (Nat.le_of_ble_eq_true rfl) w_351 in_X2 tyX2_ok nmX2 (Or.inl rfl) rfl g ?_
  refine ev_aload_n dX2_read_37 0 rfl rfl ?_
  refine ev_iconst dX2_read_38 (mi_c rfl) ?_
  obtain ⟨_, g0, hD⟩ := bd hD
  obtain ⟨r9, g, hD⟩ := bd hD
  refine ew_callV0 (as := [vi 1]) (a := x0) (rest := []) dX2_read_39 v_X2_readLine w_789 rfl (Nat.le_of_ble_eq_true rfl) rfl rfl g0 (Nat.le_of_ble_eq_true rfl) (Nat.le_of_ble_eq_true rfl) (ct_X2_readLine g) ?_
  refine ev_iconst dX2_read_42 (mi_c rfl) ?_
  refine ev_istore_n dX2_read_43 rfl (Nat.le_of_ble_eq_true rfl) rfl ?_
  obtain ⟨r10, g, hD⟩ := bd hD
  refine Ev.pick [1, 0] rfl ?_
  refine lk_X2_read_44 mFU g ?_
  exact lk_X2_read_77 hD
theorem ct_X2_read {G : mG} {x0 : Nat} {x1 : Int} {σ : mS} {R : mS} (hD : D_X2_read x0 x1 σ = some R) : Ct G M_X2_read [vr x0, vi x1] σ (.inl none) R := ct_of rfl (by decide +kernel) rfl (Nat.le_of_ble_eq_true rfl) rfl (lk_X2_read hD)
