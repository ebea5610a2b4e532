def D_X9_lays_58 : Nat → Nat → Int → mS → Option mS
  | 0, _, _, _ => none
  | f + 1, x0, x2, σ =>
    (gI σ x0 8 6).bind fun v1 =>
    if v1 ≤ x2 then
      some σ
    else
      (gI σ x0 8 16).bind fun v2 =>
      if v2 ≠ 0 then
        some σ
      else
        (tgO σ x0 8).bind fun _ =>
        (D_X9_findsFirst x0 x2 σ).bind fun r3 =>
        (D_X9_lays_58 f) x0 (mw (x2 + 1)) r3
set_option maxRecDepth 100000 in
set_option maxHeartbeats 4000000 in
theorem lk_X9_lays_58 {G : mG} (f : Nat) : ∀ {x0 : Nat} {x2 : Int} {σ : mS} {R : mS}, D_X9_lays_58 f x0 x2 σ = some R → ∀ {r : mX} {τ : mS}, Ev G M_X9_lays 84 [(0, vr x0)] [] R r τ → Ev G M_X9_lays 58 [(0, vr x0), (2, vi x2)] [] σ r τ := by
  induction f with
  | zero =>
    intros
    rename_i hD _ _ _
    cases hD
  | succ f ih =>
    intro x0 x2 σ R hD r τ hk
    have hrec := @ih
    rw [D_X9_lays_58] at hD
    refine ev_iload_n dX9_lays_58 1 rfl rfl ?_
    refine ev_aload_n dX9_lays_59 0 rfl rfl ?_
    obtain ⟨v1, g, hD⟩ := bd hD
    refine ew_getI 8 6 dX9_lays_60 rfl (Nat.le_of_ble_eq_true rfl) w_1271 in_X9 rfl g ?_
    by_cases c : v1 ≤ x2
    · rw [if_pos c] at hD
      refine ev_icmp_ge_t (tgt := 84) dX9_lays_63 (by decide) c ?_
      cases hD
      refine Ev.pick [0] rfl ?_
      exact hk
    · rw [if_neg c] at hD
      refine ev_icmp_ge_f 84 dX9_lays_63 (by decide) c ?_
      refine ev_aload_n dX9_lays_66 0 rfl rfl ?_
      obtain ⟨v2, g, hD⟩ := bd hD
      refine ew_getI 8 16 dX9_lays_67 rfl (Nat.le_of_ble_eq_true rfl) w_1281 in_X9 rfl g ?_
      by_cases c : v2 ≠ 0
      · rw [if_pos c] at hD
        refine ev_if_ne_t (tgt := 84) dX9_lays_70 (by decide) c ?_
        cases hD
        refine Ev.pick [0] rfl ?_
        exact hk
      · rw [if_neg c] at hD
        refine ev_if_ne_f 84 dX9_lays_70 (by decide) c ?_
        refine ev_aload_n dX9_lays_73 0 rfl rfl ?_
        refine ev_iload_n dX9_lays_74 1 rfl rfl ?_
        obtain ⟨_, g0, hD⟩ := bd hD
        obtain ⟨r3, g, hD⟩ := bd hD
        refine ew_callV0 (as := [vi x2]) (a := x0) (rest := []) dX9_lays_75 v_X9_findsFirst w_1625 rfl (Nat.le_of_ble_eq_true rfl) rfl rfl g0 (Nat.le_of_ble_eq_true rfl) (Nat.le_of_ble_eq_true rfl) (ct_X9_findsFirst g) ?_
        refine ev_iinc dX9_lays_78 1 rfl (Nat.le_of_ble_eq_true rfl) rfl ?_
        refine ev_goto (tgt := 58) dX9_lays_81 (by decide) ?_
        refine Ev.pick [1, 0] rfl ?_
        exact hrec hD hk
def D_X9_lays_106 : Nat → Nat → Int → Int → mS → Option mS
  | 0, _, _, _, _ => none
  | f + 1, x0, x2, x3, σ =>
    if 1000 ≤ x3 then
      some σ
    else
      (gR σ x0 8 14).bind fun v1 =>
      (lR σ v1 x2).bind fun v2 =>
      (gR σ x0 8 13).bind fun v3 =>
      (lR σ v3 x2).bind fun v4 =>
      (lB σ v4 x3).bind fun v5 =>
      (sB σ v2 x3 v5).bind fun s6 =>
      (D_X9_lays_106 f) x0 x2 (mw (x3 + 1)) s6
set_option maxRecDepth 100000 in
set_option maxHeartbeats 4000000 in
theorem lk_X9_lays_106 {G : mG} (f : Nat) : ∀ {x0 : Nat} {x2 : Int} {x3 : Int} {σ : mS} {R : mS}, D_X9_lays_106 f x0 x2 x3 σ = some R → ∀ {r : mX} {τ : mS}, Ev G M_X9_lays 135 [(0, vr x0), (2, vi x2)] [] R r τ → Ev G M_X9_lays 106 [(0, vr x0), (2, vi x2), (3, vi x3)] [] σ r τ := by
  induction f with
  | zero =>
    intros
    rename_i hD _ _ _
    cases hD
  | succ f ih =>
    intro x0 x2 x3 σ R hD r τ hk
    have hrec := @ih
    rw [D_X9_lays_106] at hD
    refine ev_iload_n dX9_lays_106 2 rfl rfl ?_
    refine ev_sp dX9_lays_107 rfl ?_
    by_cases c : 1000 ≤ x3
    · rw [if_pos c] at hD
      refine ev_icmp_ge_t (tgt := 135) dX9_lays_110 (by decide) c ?_
      cases hD
      refine Ev.pick [0, 1] rfl ?_
      exact hk
    · rw [if_neg c] at hD
      refine ev_icmp_ge_f 135 dX9_lays_110 (by decide) c ?_
      refine ev_aload_n dX9_lays_113 0 rfl rfl ?_
      obtain ⟨v1, g, hD⟩ := bd hD
      refine ew_getR 8 14 dX9_lays_114 rfl (Nat.le_of_ble_eq_true rfl) w_1279 in_X9 rfl g ?_
      refine ev_iload_n dX9_lays_117 1 rfl rfl ?_
      obtain ⟨v2, g, hD⟩ := bd hD
      refine ew_aald dX9_lays_118 g ?_
      refine ev_iload_n dX9_lays_119 2 rfl rfl ?_
      refine ev_aload_n dX9_lays_120 0 rfl rfl ?_
      obtain ⟨v3, g, hD⟩ := bd hD
      refine ew_getR 8 13 dX9_lays_121 rfl (Nat.le_of_ble_eq_true rfl) w_1278 in_X9 rfl g ?_
      refine ev_iload_n dX9_lays_124 1 rfl rfl ?_
      obtain ⟨v4, g, hD⟩ := bd hD
      refine ew_aald dX9_lays_125 g ?_
      refine ev_iload_n dX9_lays_126 2 rfl rfl ?_
      obtain ⟨v5, g, hD⟩ := bd hD
      refine ew_bald dX9_lays_127 g ?_
      obtain ⟨s6, g, hD⟩ := bd hD
      refine ew_bast dX9_lays_128 g ?_
      refine ev_iinc dX9_lays_129 2 rfl (Nat.le_of_ble_eq_true rfl) rfl ?_
      refine ev_goto (tgt := 106) dX9_lays_132 (by decide) ?_
      refine Ev.pick [1, 2, 0] rfl ?_
      exact hrec hD hk
def D_X9_lays_91 : Nat → Nat → Int → mS → Option mS
  | 0, _, _, _ => none
  | f + 1, x0, x2, σ =>
    (gI σ x0 8 6).bind fun v1 =>
    if v1 ≤ x2 then
      some σ
    else
      (tgO σ x0 8).bind fun _ =>
      (D_X9_laysFirst x0 x2 σ).bind fun r2 =>
      (D_X9_lays_106 mFU x0 x2 0 r2).bind fun r3 =>
      (tgO r3 x0 8).bind fun _ =>
      (D_X9_meets x0 ((-1)) x2 r3).bind fun r4 =>
      (D_X9_lays_91 f) x0 (mw (x2 + 1)) r4
set_option maxRecDepth 100000 in
set_option maxHeartbeats 4000000 in
theorem lk_X9_lays_91 {G : mG} (f : Nat) : ∀ {x0 : Nat} {x2 : Int} {σ : mS} {R : mS}, D_X9_lays_91 f x0 x2 σ = some R → ∀ {r : mX} {τ : mS}, Ev G M_X9_lays 147 [(0, vr x0)] [] R r τ → Ev G M_X9_lays 91 [(0, vr x0), (2, vi x2)] [] σ r τ := by
  induction f with
  | zero =>
    intros
    rename_i hD _ _ _
    cases hD
  | succ f ih =>
    intro x0 x2 σ R hD r τ hk
    have hrec := @ih
    rw [D_X9_lays_91] at hD
    refine ev_iload_n dX9_lays_91 1 rfl rfl ?_
    refine ev_aload_n dX9_lays_92 0 rfl rfl ?_
    obtain ⟨v1, g, hD⟩ := bd hD
    refine ew_getI 8 6 dX9_lays_93 rfl (Nat.le_of_ble_eq_true rfl) w_1271 in_X9 rfl g ?_
    by_cases c : v1 ≤ x2
    · rw [if_pos c] at hD
      refine ev_icmp_ge_t (tgt := 147) dX9_lays_96 (by decide) c ?_
      cases hD
      refine Ev.pick [0] rfl ?_
      exact hk
    · rw [if_neg c] at hD
      refine ev_icmp_ge_f 147 dX9_lays_96 (by decide) c ?_
      refine ev_aload_n dX9_lays_99 0 rfl rfl ?_
      refine ev_iload_n dX9_lays_100 1 rfl rfl ?_
      obtain ⟨_, g0, hD⟩ := bd hD
      obtain ⟨r2, g, hD⟩ := bd hD
      refine ew_callV0 (as := [vi x2]) (a := x0) (rest := []) dX9_lays_101 v_X9_laysFirst w_1642 rfl (Nat.le_of_ble_eq_true rfl) rfl rfl g0 (Nat.le_of_ble_eq_true rfl) (Nat.le_of_ble_eq_true rfl) (ct_X9_laysFirst g) ?_
      refine ev_iconst dX9_lays_104 (mi_c rfl) ?_
      refine ev_istore_n dX9_lays_105 rfl (Nat.le_of_ble_eq_true rfl) rfl ?_
      obtain ⟨r3, g, hD⟩ := bd hD
      refine Ev.pick [1, 2, 0] rfl ?_
      refine lk_X9_lays_106 mFU g ?_
      refine ev_aload_n dX9_lays_135 0 rfl rfl ?_
      refine ev_iconst dX9_lays_136 (mi_c rfl) ?_
      refine ev_iload_n dX9_lays_137 1 rfl rfl ?_
      obtain ⟨_, g0, hD⟩ := bd hD
      obtain ⟨r4, g, hD⟩ := bd hD
      refine ew_callV0 (as := [vi ((-1)), vi x2]) (a := x0) (rest := []) dX9_lays_138 v_X9_meets w_1646 rfl (Nat.le_of_ble_eq_true rfl) rfl rfl g0 (Nat.le_of_ble_eq_true rfl) (Nat.le_of_ble_eq_true rfl) (ct_X9_meets g) ?_
      refine ev_iinc dX9_lays_141 1 rfl (Nat.le_of_ble_eq_true rfl) rfl ?_
      refine ev_goto (tgt := 91) dX9_lays_144 (by decide) ?_
      refine Ev.pick [1, 0] rfl ?_
      exact hrec hD hk
def D_X9_lays_149 : Nat → Nat → Int → mS → Option mS
  | 0, _, _, _ => none
  | f + 1, x0, x2, σ =>
    if 24 ≤ x2 then
      some σ
    else
      (gR σ x0 8 25).bind fun v1 =>
      (sI σ v1 x2 0).bind fun s2 =>
      (D_X9_lays_149 f) x0 (mw (x2 + 1)) s2
set_option maxRecDepth 100000 in
set_option maxHeartbeats 4000000 in
theorem lk_X9_lays_149 {G : mG} (f : Nat) : ∀ {x0 : Nat} {x2 : Int} {σ : mS} {R : mS}, D_X9_lays_149 f x0 x2 σ = some R → ∀ {r : mX} {τ : mS}, Ev G M_X9_lays 168 [(0, vr x0)] [] R r τ → Ev G M_X9_lays 149 [(0, vr x0), (2, vi x2)] [] σ r τ := by
  induction f with
  | zero =>
    intros
    rename_i hD _ _ _
    cases hD
  | succ f ih =>
    intro x0 x2 σ R hD r τ hk
    have hrec := @ih
    rw [D_X9_lays_149] at hD
    refine ev_iload_n dX9_lays_149 1 rfl rfl ?_
    refine ev_bp dX9_lays_150 rfl ?_
    by_cases c : 24 ≤ x2
    · rw [if_pos c] at hD
      refine ev_icmp_ge_t (tgt := 168) dX9_lays_152 (by decide) c ?_
      cases hD
      refine Ev.pick [0] rfl ?_
      exact hk
    · rw [if_neg c] at hD
      refine ev_icmp_ge_f 168 dX9_lays_152 (by decide) c ?_
      refine ev_aload_n dX9_lays_155 0 rfl rfl ?_
      obtain ⟨v1, g, hD⟩ := bd hD
      refine ew_getR 8 25 dX9_lays_156 rfl (Nat.le_of_ble_eq_true rfl) w_1290 in_X9 rfl g ?_
      refine ev_iload_n dX9_lays_159 1 rfl rfl ?_
      refine ev_iconst dX9_lays_160 (mi_c rfl) ?_
      obtain ⟨s2, g, hD⟩ := bd hD
      refine ew_iast dX9_lays_161 g ?_
      refine ev_iinc dX9_lays_162 1 rfl (Nat.le_of_ble_eq_true rfl) rfl ?_
      refine ev_goto (tgt := 149) dX9_lays_165 (by decide) ?_
      refine Ev.pick [1, 0] rfl ?_
      exact hrec hD hk
def D_X9_lays_208 (rec : Nat → Int → mS → Option mS) (x0 : Nat) (x2 : Int) (σ : mS) : Option mS :=
  rec x0 (mw (x2 + 1)) σ
set_option maxRecDepth 100000 in
set_option maxHeartbeats 4000000 in
theorem lk_X9_lays_208 {G : mG} {rec : Nat → Int → mS → Option mS} {x0 : Nat} {x2 : Int} {σ : mS} {R : mS} {r : mX} {τ : mS} (hD : D_X9_lays_208 rec x0 x2 σ = some R) (hrec : ∀ {x0 : Nat} {x2 : Int} {σ : mS} {R : mS}, rec x0 x2 σ = some R → ∀ {r : mX} {τ : mS}, Ev G M_X9_lays 214 [(0, vr x0)] [] R r τ → Ev G M_X9_lays 185 [(0, vr x0), (2, vi x2)] [] σ r τ) (hk : Ev G M_X9_lays 214 [(0, vr x0)] [] R r τ) : Ev G M_X9_lays 208 [(0, vr x0), (2, vi x2)] [] σ r τ := by
  unfold D_X9_lays_208 at hD
  refine ev_iinc dX9_lays_208 1 rfl (Nat.le_of_ble_eq_true rfl) rfl ?_
  refine ev_goto (tgt := 185) dX9_lays_211 (by decide) ?_
  refine Ev.pick [1, 0] rfl ?_
  exact hrec hD hk
def D_X9_lays_185 : Nat → Nat → Int → mS → Option mS
  | 0, _, _, _ => none
  | f + 1, x0, x2, σ =>
    (gR σ x0 8 2).bind fun v1 =>
    (lI σ v1 2).bind fun v2 =>
    if v2 ≤ x2 then
      some σ
    else
      (gI σ x0 8 19).bind fun v3 =>
      if x2 = v3 then
        D_X9_lays_208 (D_X9_lays_185 f) x0 x2 σ
      else
        (tgO σ x0 8).bind fun _ =>
        (D_X9_applies x0 x2 σ).bind fun r4 =>
        D_X9_lays_208 (D_X9_lays_185 f) x0 x2 r4
set_option maxRecDepth 100000 in
set_option maxHeartbeats 4000000 in
theorem lk_X9_lays_185 {G : mG} (f : Nat) : ∀ {x0 : Nat} {x2 : Int} {σ : mS} {R : mS}, D_X9_lays_185 f x0 x2 σ = some R → ∀ {r : mX} {τ : mS}, Ev G M_X9_lays 214 [(0, vr x0)] [] R r τ → Ev G M_X9_lays 185 [(0, vr x0), (2, vi x2)] [] σ r τ := by
  induction f with
  | zero =>
    intros
    rename_i hD _ _ _
    cases hD
  | succ f ih =>
    intro x0 x2 σ R hD r τ hk
    have hrec := @ih
    rw [D_X9_lays_185] at hD
    refine ev_iload_n dX9_lays_185 1 rfl rfl ?_
    refine ev_aload_n dX9_lays_186 0 rfl rfl ?_
    obtain ⟨v1, g, hD⟩ := bd hD
    refine ew_getR 8 2 dX9_lays_187 rfl (Nat.le_of_ble_eq_true rfl) w_1267 in_X9 rfl g ?_
    refine ev_iconst dX9_lays_190 (mi_c rfl) ?_
    obtain ⟨v2, g, hD⟩ := bd hD
    refine ew_iald dX9_lays_191 g ?_
    by_cases c : v2 ≤ x2
    · rw [if_pos c] at hD
      refine ev_icmp_ge_t (tgt := 214) dX9_lays_192 (by decide) c ?_
      cases hD
      refine Ev.pick [0] rfl ?_
      exact hk
    · rw [if_neg c] at hD
      refine ev_icmp_ge_f 214 dX9_lays_192 (by decide) c ?_
      refine ev_iload_n dX9_lays_195 1 rfl rfl ?_
      refine ev_aload_n dX9_lays_196 0 rfl rfl ?_
      obtain ⟨v3, g, hD⟩ := bd hD
      refine ew_getI 8 19 dX9_lays_197 rfl (Nat.le_of_ble_eq_true rfl) w_1284 in_X9 rfl g ?_
      by_cases c : x2 = v3
      · rw [if_pos c] at hD
        refine ev_icmp_eq_t (tgt := 208) dX9_lays_200 (by decide) c ?_
        exact lk_X9_lays_208 hD hrec hk
      · rw [if_neg c] at hD
        refine ev_icmp_eq_f 208 dX9_lays_200 (by decide) c ?_
        refine ev_aload_n dX9_lays_203 0 rfl rfl ?_
        refine ev_iload_n dX9_lays_204 1 rfl rfl ?_
        obtain ⟨_, g0, hD⟩ := bd hD
        obtain ⟨r4, g, hD⟩ := bd hD
        refine ew_callV0 (as := [vi x2]) (a := x0) (rest := []) dX9_lays_205 v_X9_applies w_1654 rfl (Nat.le_of_ble_eq_true rfl) rfl rfl g0 (Nat.le_of_ble_eq_true rfl) (Nat.le_of_ble_eq_true rfl) (ct_X9_applies g) ?_
        exact lk_X9_lays_208 hD hrec hk
def D_X9_lays_168 : Nat → Nat → mS → Option mS
  | 0, _, _ => none
  | f + 1, x0, σ =>
    (pI σ x0 8 23 0).bind fun s1 =>
    (gI s1 x0 8 20).bind fun v2 =>
    (pI s1 x0 8 20 (mw (v2 + 1))).bind fun s3 =>
    (D_X9_lays_185 mFU x0 0 s3).bind fun r4 =>
    (gI r4 x0 8 23).bind fun v5 =>
    if 0 < v5 then
      (D_X9_lays_168 f) x0 r4
    else
      some r4
set_option maxRecDepth 100000 in
set_option maxHeartbeats 4000000 in
theorem lk_X9_lays_168 {G : mG} (f : Nat) : ∀ {x0 : Nat} {σ : mS} {R : mS}, D_X9_lays_168 f x0 σ = some R → ∀ {r : mX} {τ : mS}, Ev G M_X9_lays 221 [] [] R r τ → Ev G M_X9_lays 168 [(0, vr x0)] [] σ r τ := by
  induction f with
  | zero =>
    intros
    rename_i hD _ _ _
    cases hD
  | succ f ih =>
    intro x0 σ R hD r τ hk
    have hrec := @ih
    rw [D_X9_lays_168] at hD
    refine ev_aload_n dX9_lays_168 0 rfl rfl ?_
    refine ev_iconst dX9_lays_169 (mi_c rfl) ?_
    obtain ⟨s1, g, hD⟩ := bd hD
    refine ew_putI 8 23 dX9_lays_170 rfl (Nat.le_of_ble_eq_true rfl) w_1288 in_X9 tyX9_ok nmX9 (Or.inl rfl) rfl g ?_
    refine ev_aload_n dX9_lays_173 0 rfl rfl ?_
    refine ev_dup dX9_lays_174 rfl ?_
    obtain ⟨v2, g, hD⟩ := bd hD
    refine ew_getI 8 20 dX9_lays_175 rfl (Nat.le_of_ble_eq_true rfl) w_1285 in_X9 rfl g ?_
    refine ev_iconst dX9_lays_178 (mi_c rfl) ?_
    refine ev_iadd dX9_lays_179 ?_
    obtain ⟨s3, g, hD⟩ := bd hD
    refine ew_putI 8 20 dX9_lays_180 rfl (Nat.le_of_ble_eq_true rfl) w_1285 in_X9 tyX9_ok nmX9 (Or.inl rfl) rfl g ?_
    refine ev_iconst dX9_lays_183 (mi_c rfl) ?_
    refine ev_istore_n dX9_lays_184 rfl (Nat.le_of_ble_eq_true rfl) rfl ?_
    obtain ⟨r4, g, hD⟩ := bd hD
    refine Ev.pick [1, 0] rfl ?_
    refine lk_X9_lays_185 mFU g ?_
    refine ev_aload_n dX9_lays_214 0 rfl rfl ?_
    obtain ⟨v5, g, hD⟩ := bd hD
    refine ew_getI 8 23 dX9_lays_215 rfl (Nat.le_of_ble_eq_true rfl) w_1288 in_X9 rfl g ?_
    by_cases c : 0 < v5
    · rw [if_pos c] at hD
      refine ev_if_gt_t (tgt := 168) dX9_lays_218 (by decide) c ?_
      exact hrec hD hk
    · rw [if_neg c] at hD
      refine ev_if_gt_f 168 dX9_lays_218 (by decide) c ?_
      cases hD
      refine Ev.pick [] rfl ?_
      exact hk
def D_X9_lays_84 (x0 : Nat) (σ : mS) : Option mS :=
  (pB σ x0 8 16 1).bind fun s1 =>
  (D_X9_lays_91 mFU x0 0 s1).bind fun r2 =>
  (D_X9_lays_149 mFU x0 0 r2).bind fun r3 =>
  (D_X9_lays_168 mFU x0 r3).bind fun r4 =>
  some r4
set_option maxRecDepth 100000 in
set_option maxHeartbeats 4000000 in
theorem lk_X9_lays_84 {G : mG} {x0 : Nat} {σ : mS} {R : mS} (hD : D_X9_lays_84 x0 σ = some R) : Ev G M_X9_lays 84 [(0, vr x0)] [] σ (.inl none) R := by
  unfold D_X9_lays_84 at hD
  refine ev_aload_n dX9_lays_84 0 rfl rfl ?_
  refine ev_iconst dX9_lays_85 (mi_c rfl) ?_
  obtain ⟨s1, g, hD⟩ := bd hD
  refine ew_putB 8 16 dX9_lays_86 rfl (Nat.le_of_ble_eq_true rfl) w_1281 in_X9 tyX9_ok nmX9 (Or.inl rfl) rfl g ?_
  refine ev_iconst dX9_lays_89 (mi_c rfl) ?_
  refine ev_istore_n dX9_lays_90 rfl (Nat.le_of_ble_eq_true rfl) rfl ?_
  obtain ⟨r2, g, hD⟩ := bd hD
  refine Ev.pick [1, 0] rfl ?_
  refine lk_X9_lays_91 mFU g ?_
  refine ev_iconst dX9_lays_147 (mi_c rfl) ?_
  refine ev_istore_n dX9_lays_148 rfl (Nat.le_of_ble_eq_true rfl) rfl ?_
  obtain ⟨r3, g, hD⟩ := bd hD
  refine Ev.pick [1, 0] rfl ?_
  refine lk_X9_lays_149 mFU g ?_
  obtain ⟨r4, g, hD⟩ := bd hD
  refine lk_X9_lays_168 mFU g ?_
  cases hD
  exact ev_ret none dX9_lays_221 True.intro
def D_X9_lays_41 (x0 : Nat) (x1 : Int) (σ : mS) : Option mS :=
  (pB σ x0 8 28 x1).bind fun s1 =>
  (pB s1 x0 8 24 0).bind fun s2 =>
  (pI s2 x0 8 20 0).bind fun s3 =>
  (D_X9_lays_58 mFU x0 0 s3).bind fun r4 =>
  D_X9_lays_84 x0 r4
set_option maxRecDepth 100000 in
set_option maxHeartbeats 4000000 in
theorem lk_X9_lays_41 {G : mG} {x0 : Nat} {x1 : Int} {σ : mS} {R : mS} (hD : D_X9_lays_41 x0 x1 σ = some R) : Ev G M_X9_lays 41 [(0, vr x0), (1, vi x1)] [] σ (.inl none) R := by
  unfold D_X9_lays_41 at hD
  refine ev_aload_n dX9_lays_41 0 rfl rfl ?_
  refine ev_iload_n dX9_lays_42 1 rfl rfl ?_
  obtain ⟨s1, g, hD⟩ := bd hD
  refine ew_putB 8 28 dX9_lays_43 rfl (Nat.le_of_ble_eq_true rfl) w_1293 in_X9 tyX9_ok nmX9 (Or.inl rfl) rfl g ?_
  refine ev_aload_n dX9_lays_46 0 rfl rfl ?_
  refine ev_iconst dX9_lays_47 (mi_c rfl) ?_
  obtain ⟨s2, g, hD⟩ := bd hD
  refine ew_putB 8 24 dX9_lays_48 rfl (Nat.le_of_ble_eq_true rfl) w_1289 in_X9 tyX9_ok nmX9 (Or.inl rfl) rfl g ?_
  refine ev_aload_n dX9_lays_51 0 rfl rfl ?_
  refine ev_iconst dX9_lays_52 (mi_c rfl) ?_
  obtain ⟨s3, g, hD⟩ := bd hD
  refine ew_putI 8 20 dX9_lays_53 rfl (Nat.le_of_ble_eq_true rfl) w_1285 in_X9 tyX9_ok nmX9 (Or.inl rfl) rfl g ?_
  refine ev_iconst dX9_lays_56 (mi_c rfl) ?_
  refine ev_istore_n dX9_lays_57 rfl (Nat.le_of_ble_eq_true rfl) rfl ?_
  obtain ⟨r4, g, hD⟩ := bd hD
  refine Ev.pick [1, 0] rfl ?_
  refine lk_X9_lays_58 mFU g ?_
  exact lk_X9_lays_84 hD
def D_X9_lays_21 (x0 : Nat) (y0 : Int) (σ : mS) : Option mS :=
  if y0 = 0 then
    D_X9_lays_41 x0 y0 σ
  else
    (gI σ x0 8 28).bind fun v1 =>
    if v1 = 0 then
      D_X9_lays_41 x0 y0 σ
    else
      (gI σ x0 8 16).bind fun v2 =>
      if v2 = 0 then
        D_X9_lays_41 x0 y0 σ
      else
        some σ
set_option maxRecDepth 100000 in
set_option maxHeartbeats 4000000 in
theorem lk_X9_lays_21 {G : mG} {x0 : Nat} {y0 : Int} {σ : mS} {R : mS} (hD : D_X9_lays_21 x0 y0 σ = some R) : Ev G M_X9_lays 21 [(0, vr x0)] [vi y0] σ (.inl none) R := by
  unfold D_X9_lays_21 at hD
  refine ev_istore_n dX9_lays_21 rfl (Nat.le_of_ble_eq_true rfl) rfl ?_
  refine ev_iload_n dX9_lays_22 0 rfl rfl ?_
  by_cases c : y0 = 0
  · rw [if_pos c] at hD
    refine ev_if_eq_t (tgt := 41) dX9_lays_23 (by decide) c ?_
    refine Ev.pick [1, 0] rfl ?_
    exact lk_X9_lays_41 hD
  · rw [if_neg c] at hD
    refine ev_if_eq_f 41 dX9_lays_23 (by decide) c ?_
    refine ev_aload_n dX9_lays_26 1 rfl rfl ?_
    obtain ⟨v1, g, hD⟩ := bd hD
    refine ew_getI 8 28 dX9_lays_27 rfl (Nat.le_of_ble_eq_true rfl) w_1293 in_X9 rfl g ?_
    by_cases c : v1 = 0
    · rw [if_pos c] at hD
      refine ev_if_eq_t (tgt := 41) dX9_lays_30 (by decide) c ?_
      refine Ev.pick [1, 0] rfl ?_
      exact lk_X9_lays_41 hD
    · rw [if_neg c] at hD
      refine ev_if_eq_f 41 dX9_lays_30 (by decide) c ?_
      refine ev_aload_n dX9_lays_33 1 rfl rfl ?_
      obtain ⟨v2, g, hD⟩ := bd hD
      refine ew_getI 8 16 dX9_lays_34 rfl (Nat.le_of_ble_eq_true rfl) w_1281 in_X9 rfl g ?_
      by_cases c : v2 = 0
      · rw [if_pos c] at hD
        refine ev_if_eq_t (tgt := 41) dX9_lays_37 (by decide) c ?_
        refine Ev.pick [1, 0] rfl ?_
        exact lk_X9_lays_41 hD
      · rw [if_neg c] at hD
        refine ev_if_eq_f 41 dX9_lays_37 (by decide) c ?_
        cases hD
        exact ev_ret none dX9_lays_40 True.intro
def D_X9_lays_20 (x0 : Nat) (σ : mS) : Option mS :=
  D_X9_lays_21 x0 0 σ
set_option maxRecDepth 100000 in
set_option maxHeartbeats 4000000 in
theorem lk_X9_lays_20 {G : mG} {x0 : Nat} {σ : mS} {R : mS} (hD : D_X9_lays_20 x0 σ = some R) : Ev G M_X9_lays 20 [(0, vr x0)] [] σ (.inl none) R := by
  unfold D_X9_lays_20 at hD
  refine ev_iconst dX9_lays_20 (mi_c rfl) ?_
  exact lk_X9_lays_21 hD
def D_X9_lays (x0 : Nat) (σ : mS) : Option mS :=
  (gI σ x0 8 19).bind fun v1 =>
  if v1 ≠ ((-1)) then
    D_X9_lays_20 x0 σ
  else
    (gI σ x0 8 17).bind fun v2 =>
    if v2 ≠ ((-1)) then
      D_X9_lays_20 x0 σ
    else
      D_X9_lays_21 x0 1 σ
set_option maxRecDepth 100000 in
set_option maxHeartbeats 4000000 in
theorem lk_X9_lays {G : mG} {x0 : Nat} {σ : mS} {R : mS} (hD : D_X9_lays x0 σ = some R) : Ev G M_X9_lays 0 [(0, vr x0)] [] σ (.inl none) R := by
  unfold D_X9_lays at hD
  refine ev_aload_n dX9_lays_0 0 rfl rfl ?_
  obtain ⟨v1, g, hD⟩ := bd hD
  refine ew_getI 8 19 dX9_lays_1 rfl (Nat.le_of_ble_eq_true rfl) w_1284 in_X9 rfl g ?_
  refine ev_iconst dX9_lays_4 (mi_c rfl) ?_
  by_cases c : v1 ≠ ((-1))
  · rw [if_pos c] at hD
    refine ev_icmp_ne_t (tgt := 20) dX9_lays_5 (by decide) c ?_
    exact lk_X9_lays_20 hD
  · rw [if_neg c] at hD
    refine ev_icmp_ne_f 20 dX9_lays_5 (by decide) c ?_
    refine ev_aload_n dX9_lays_8 0 rfl rfl ?_
    obtain ⟨v2, g, hD⟩ := bd hD
    refine ew_getI 8 17 dX9_lays_9 rfl (Nat.le_of_ble_eq_true rfl) w_1282 in_X9 rfl g ?_
    refine ev_iconst dX9_lays_12 (mi_c rfl) ?_
    by_cases c : v2 ≠ ((-1))
    · rw [if_pos c] at hD
      refine ev_icmp_ne_t (tgt := 20) dX9_lays_13 (by decide) c ?_
      exact lk_X9_lays_20 hD
    · rw [if_neg c] at hD
      refine ev_icmp_ne_f 20 dX9_lays_13 (by decide) c ?_
      refine ev_iconst dX9_lays_16 (mi_c rfl) ?_
      refine ev_goto (tgt := 21) dX9_lays_17 (by decide) ?_
      exact lk_X9_lays_21 hD
theorem ct_X9_lays {G : mG} {x0 : Nat} {σ : mS} {R : mS} (hD : D_X9_lays x0 σ = some R) : Ct G M_X9_lays [vr x0] σ (.inl none) R := ct_of rfl (by decide +kernel) rfl (Nat.le_of_ble_eq_true rfl) rfl (lk_X9_lays hD)
def D_X9_yearsAll_4 : Nat → Nat → Int → Int → mS → Option Int
  | 0, _, _, _, _ => none
  | f + 1, x0, x1, x2, σ =>
    (gI σ x0 8 6).bind fun v1 =>
    if v1 ≤ x2 then
      some x1
    else
      (gR σ x0 8 14).bind fun v2 =>
      (lR σ v2 x2).bind fun v3 =>
      (tgO σ x0 8).bind fun _ =>
      (D_X9_size x0 v3 σ).bind fun r4 =>
      (D_X9_yearsAll_4 f) x0 (mw (x1 + r4)) (mw (x2 + 1)) σ
set_option maxRecDepth 100000 in
set_option maxHeartbeats 4000000 in
theorem lk_X9_yearsAll_4 {G : mG} (f : Nat) : ∀ {x0 : Nat} {x1 : Int} {x2 : Int} {σ : mS} {R : Int}, D_X9_yearsAll_4 f x0 x1 x2 σ = some R → ∀ {r : mX} {τ : mS}, Ev G M_X9_yearsAll 31 [(1, vi (R))] [] σ r τ → Ev G M_X9_yearsAll 4 [(0, vr x0), (1, vi x1), (2, vi x2)] [] σ r τ := by
  induction f with
  | zero =>
    intros
    rename_i hD _ _ _
    cases hD
  | succ f ih =>
    intro x0 x1 x2 σ R hD r τ hk
    have hrec := @ih
    rw [D_X9_yearsAll_4] at hD
    refine ev_iload_n dX9_yearsAll_4 2 rfl rfl ?_
    refine ev_aload_n dX9_yearsAll_5 0 rfl rfl ?_
    obtain ⟨v1, g, hD⟩ := bd hD
    refine ew_getI 8 6 dX9_yearsAll_6 rfl (Nat.le_of_ble_eq_true rfl) w_1271 in_X9 rfl g ?_
    by_cases c : v1 ≤ x2
    · rw [if_pos c] at hD
      refine ev_icmp_ge_t (tgt := 31) dX9_yearsAll_9 (by decide) c ?_
      cases hD
      refine Ev.pick [1] rfl ?_
      exact hk
    · rw [if_neg c] at hD
      refine ev_icmp_ge_f 31 dX9_yearsAll_9 (by decide) c ?_
      refine ev_iload_n dX9_yearsAll_12 1 rfl rfl ?_
      refine ev_aload_n dX9_yearsAll_13 0 rfl rfl ?_
      refine ev_aload_n dX9_yearsAll_14 0 rfl rfl ?_
      obtain ⟨v2, g, hD⟩ := bd hD
      refine ew_getR 8 14 dX9_yearsAll_15 rfl (Nat.le_of_ble_eq_true rfl) w_1279 in_X9 rfl g ?_
      refine ev_iload_n dX9_yearsAll_18 2 rfl rfl ?_
      obtain ⟨v3, g, hD⟩ := bd hD
      refine ew_aald dX9_yearsAll_19 g ?_
      obtain ⟨_, g0, hD⟩ := bd hD
      obtain ⟨r4, g, hD⟩ := bd hD
      refine ew_callVv (as := [vr v3]) (a := x0) (rest := [vi x1]) dX9_yearsAll_20 v_X9_size w_1650 rfl (Nat.le_of_ble_eq_true rfl) rfl rfl g0 (Nat.le_of_ble_eq_true rfl) (Nat.le_of_ble_eq_true rfl) (ct_X9_size g) ?_
      refine ev_iadd dX9_yearsAll_23 ?_
      refine ev_istore_n dX9_yearsAll_24 rfl (Nat.le_of_ble_eq_true rfl) rfl ?_
      refine ev_iinc dX9_yearsAll_25 2 rfl (Nat.le_of_ble_eq_true rfl) rfl ?_
      refine ev_goto (tgt := 4) dX9_yearsAll_28 (by decide) ?_
      refine Ev.pick [2, 1, 0] rfl ?_
      exact hrec hD hk
def D_X9_yearsAll (x0 : Nat) (σ : mS) : Option Int :=
  (D_X9_yearsAll_4 mFU x0 0 0 σ).bind fun r1 =>
  some r1
set_option maxRecDepth 100000 in
set_option maxHeartbeats 4000000 in
theorem lk_X9_yearsAll {G : mG} {x0 : Nat} {σ : mS} {R : Int} (hD : D_X9_yearsAll x0 σ = some R) : Ev G M_X9_yearsAll 0 [(0, vr x0)] [] σ (.inl (some (vi R))) σ := by
  unfold D_X9_yearsAll at hD
  refine ev_iconst dX9_yearsAll_0 (mi_c rfl) ?_
  refine ev_istore_n dX9_yearsAll_1 rfl (Nat.le_of_ble_eq_true rfl) rfl ?_
  refine ev_iconst dX9_yearsAll_2 (mi_c rfl) ?_
  refine ev_istore_n dX9_yearsAll_3 rfl (Nat.le_of_ble_eq_true rfl) rfl ?_
  obtain ⟨r1, g, hD⟩ := bd hD
  refine Ev.pick [2, 1, 0] rfl ?_
  refine lk_X9_yearsAll_4 mFU g ?_
  refine ev_iload_n dX9_yearsAll_31 0 rfl rfl ?_
  cases hD
  exact ev_ret (some (vi _)) dX9_yearsAll_32 True.intro
theorem ct_X9_yearsAll {G : mG} {x0 : Nat} {σ : mS} {R : Int} (hD : D_X9_yearsAll x0 σ = some R) : Ct G M_X9_yearsAll [vr x0] σ (.inl (some (vi R))) σ := ct_of rfl (by decide +kernel) rfl (Nat.le_of_ble_eq_true rfl) rfl (lk_X9_yearsAll hD)
def D_X9_empties_31 (rec : Nat → Int → Int → mS → Option Int) (x0 : Nat) (x2 : Int) (y0 : Int) (y1 : Int) (σ : mS) : Option Int :=
  rec x0 (mw (y1 + y0)) (mw (x2 + 1)) σ
set_option maxRecDepth 100000 in
set_option maxHeartbeats 4000000 in
theorem lk_X9_empties_31 {G : mG} {rec : Nat → Int → Int → mS → Option Int} {x0 : Nat} {x2 : Int} {y0 : Int} {y1 : Int} {σ : mS} {R : Int} {r : mX} {τ : mS} (hD : D_X9_empties_31 rec x0 x2 y0 y1 σ = some R) (hrec : ∀ {x0 : Nat} {x1 : Int} {x2 : Int} {σ : mS} {R : Int}, rec x0 x1 x2 σ = some R → ∀ {r : mX} {τ : mS}, Ev G M_X9_empties 39 [(1, vi (R))] [] σ r τ → Ev G M_X9_empties 4 [(0, vr x0), (1, vi x1), (2, vi x2)] [] σ r τ) (hk : Ev G M_X9_empties 39 [(1, vi (R))] [] σ r τ) : Ev G M_X9_empties 31 [(0, vr x0), (2, vi x2)] [vi y0, vi y1] σ r τ := by
  unfold D_X9_empties_31 at hD
  refine ev_iadd dX9_empties_31 ?_
  refine ev_istore_n dX9_empties_32 rfl (Nat.le_of_ble_eq_true rfl) rfl ?_
  refine ev_iinc dX9_empties_33 2 rfl (Nat.le_of_ble_eq_true rfl) rfl ?_
  refine ev_goto (tgt := 4) dX9_empties_36 (by decide) ?_
  refine Ev.pick [2, 1, 0] rfl ?_
  exact hrec hD hk
def D_X9_empties_4 : Nat → Nat → Int → Int → mS → Option Int
  | 0, _, _, _, _ => none
  | f + 1, x0, x1, x2, σ =>
    (gI σ x0 8 6).bind fun v1 =>
    if v1 ≤ x2 then
      some x1
    else
      (gR σ x0 8 14).bind fun v2 =>
      (lR σ v2 x2).bind fun v3 =>
      (tgO σ x0 8).bind fun _ =>
      (D_X9_size x0 v3 σ).bind fun r4 =>
      if r4 ≠ 0 then
        D_X9_empties_31 (D_X9_empties_4 f) x0 x2 0 x1 σ
      else
        D_X9_empties_31 (D_X9_empties_4 f) x0 x2 1 x1 σ
set_option maxRecDepth 100000 in
set_option maxHeartbeats 4000000 in
theorem lk_X9_empties_4 {G : mG} (f : Nat) : ∀ {x0 : Nat} {x1 : Int} {x2 : Int} {σ : mS} {R : Int}, D_X9_empties_4 f x0 x1 x2 σ = some R → ∀ {r : mX} {τ : mS}, Ev G M_X9_empties 39 [(1, vi (R))] [] σ r τ → Ev G M_X9_empties 4 [(0, vr x0), (1, vi x1), (2, vi x2)] [] σ r τ := by
  induction f with
  | zero =>
    intros
    rename_i hD _ _ _
    cases hD
  | succ f ih =>
    intro x0 x1 x2 σ R hD r τ hk
    have hrec := @ih
    rw [D_X9_empties_4] at hD
    refine ev_iload_n dX9_empties_4 2 rfl rfl ?_
    refine ev_aload_n dX9_empties_5 0 rfl rfl ?_
    obtain ⟨v1, g, hD⟩ := bd hD
    refine ew_getI 8 6 dX9_empties_6 rfl (Nat.le_of_ble_eq_true rfl) w_1271 in_X9 rfl g ?_
    by_cases c : v1 ≤ x2
    · rw [if_pos c] at hD
      refine ev_icmp_ge_t (tgt := 39) dX9_empties_9 (by decide) c ?_
      cases hD
      refine Ev.pick [1] rfl ?_
      exact hk
    · rw [if_neg c] at hD
      refine ev_icmp_ge_f 39 dX9_empties_9 (by decide) c ?_
      refine ev_iload_n dX9_empties_12 1 rfl rfl ?_
      refine ev_aload_n dX9_empties_13 0 rfl rfl ?_
      refine ev_aload_n dX9_empties_14 0 rfl rfl ?_
      obtain ⟨v2, g, hD⟩ := bd hD
      refine ew_getR 8 14 dX9_empties_15 rfl (Nat.le_of_ble_eq_true rfl) w_1279 in_X9 rfl g ?_
      refine ev_iload_n dX9_empties_18 2 rfl rfl ?_
      obtain ⟨v3, g, hD⟩ := bd hD
      refine ew_aald dX9_empties_19 g ?_
      obtain ⟨_, g0, hD⟩ := bd hD
      obtain ⟨r4, g, hD⟩ := bd hD
      refine ew_callVv (as := [vr v3]) (a := x0) (rest := [vi x1]) dX9_empties_20 v_X9_size w_1650 rfl (Nat.le_of_ble_eq_true rfl) rfl rfl g0 (Nat.le_of_ble_eq_true rfl) (Nat.le_of_ble_eq_true rfl) (ct_X9_size g) ?_
      by_cases c : r4 ≠ 0
      · rw [if_pos c] at hD
        refine ev_if_ne_t (tgt := 30) dX9_empties_23 (by decide) c ?_
        refine ev_iconst dX9_empties_30 (mi_c rfl) ?_
        refine Ev.pick [0, 2] rfl ?_
        exact lk_X9_empties_31 hD hrec hk
      · rw [if_neg c] at hD
        refine ev_if_ne_f 30 dX9_empties_23 (by decide) c ?_
        refine ev_iconst dX9_empties_26 (mi_c rfl) ?_
        refine ev_goto (tgt := 31) dX9_empties_27 (by decide) ?_
        refine Ev.pick [0, 2] rfl ?_
        exact lk_X9_empties_31 hD hrec hk
def D_X9_empties (x0 : Nat) (σ : mS) : Option Int :=
  (D_X9_empties_4 mFU x0 0 0 σ).bind fun r1 =>
  some r1
set_option maxRecDepth 100000 in
set_option maxHeartbeats 4000000 in
theorem lk_X9_empties {G : mG} {x0 : Nat} {σ : mS} {R : Int} (hD : D_X9_empties x0 σ = some R) : Ev G M_X9_empties 0 [(0, vr x0)] [] σ (.inl (some (vi R))) σ := by
  unfold D_X9_empties at hD
  refine ev_iconst dX9_empties_0 (mi_c rfl) ?_
  refine ev_istore_n dX9_empties_1 rfl (Nat.le_of_ble_eq_true rfl) rfl ?_
  refine ev_iconst dX9_empties_2 (mi_c rfl) ?_
  refine ev_istore_n dX9_empties_3 rfl (Nat.le_of_ble_eq_true rfl) rfl ?_
  obtain ⟨r1, g, hD⟩ := bd hD
  refine Ev.pick [2, 1, 0] rfl ?_
  refine lk_X9_empties_4 mFU g ?_
  refine ev_iload_n dX9_empties_39 0 rfl rfl ?_
  cases hD
  exact ev_ret (some (vi _)) dX9_empties_40 True.intro
theorem ct_X9_empties {G : mG} {x0 : Nat} {σ : mS} {R : Int} (hD : D_X9_empties x0 σ = some R) : Ct G M_X9_empties [vr x0] σ (.inl (some (vi R))) σ := ct_of rfl (by decide +kernel) rfl (Nat.le_of_ble_eq_true rfl) rfl (lk_X9_empties hD)
def D_X9_puts_3 : Nat → Nat → Int → Int → mS → Option mS
  | 0, _, _, _, _ => none
  | f + 1, x0, x1, x2, σ =>
    if x2 < 0 then
      some σ
    else
      (gR σ x0 8 29).bind fun v1 =>
      (gI σ x0 8 37).bind fun v2 =>
      (sB σ v1 v2 (mi2b (mshr x1 x2))).bind fun s3 =>
      (gI s3 x0 8 37).bind fun v4 =>
      (pI s3 x0 8 37 (mw (v4 + 1))).bind fun s5 =>
      (D_X9_puts_3 f) x0 x1 (mw (x2 + (-8))) s5
set_option maxRecDepth 100000 in
set_option maxHeartbeats 4000000 in
theorem lk_X9_puts_3 {G : mG} (f : Nat) : ∀ {x0 : Nat} {x1 : Int} {x2 : Int} {σ : mS} {R : mS}, D_X9_puts_3 f x0 x1 x2 σ = some R → ∀ {r : mX} {τ : mS}, Ev G M_X9_puts 36 [] [] R r τ → Ev G M_X9_puts 3 [(0, vr x0), (1, vi x1), (2, vi x2)] [] σ r τ := by
  induction f with
  | zero =>
    intros
    rename_i hD _ _ _
    cases hD
  | succ f ih =>
    intro x0 x1 x2 σ R hD r τ hk
    have hrec := @ih
    rw [D_X9_puts_3] at hD
    refine ev_iload_n dX9_puts_3 2 rfl rfl ?_
    by_cases c : x2 < 0
    · rw [if_pos c] at hD
      refine ev_if_lt_t (tgt := 36) dX9_puts_4 (by decide) c ?_
      cases hD
      refine Ev.pick [] rfl ?_
      exact hk
    · rw [if_neg c] at hD
      refine ev_if_lt_f 36 dX9_puts_4 (by decide) c ?_
      refine ev_aload_n dX9_puts_7 0 rfl rfl ?_
      obtain ⟨v1, g, hD⟩ := bd hD
      refine ew_getR 8 29 dX9_puts_8 rfl (Nat.le_of_ble_eq_true rfl) w_1294 in_X9 rfl g ?_
      refine ev_aload_n dX9_puts_11 0 rfl rfl ?_
      obtain ⟨v2, g, hD⟩ := bd hD
      refine ew_getI 8 37 dX9_puts_12 rfl (Nat.le_of_ble_eq_true rfl) w_1302 in_X9 rfl g ?_
      refine ev_iload_n dX9_puts_15 1 rfl rfl ?_
      refine ev_iload_n dX9_puts_16 2 rfl rfl ?_
      refine ev_ishr dX9_puts_17 ?_
      refine ev_i2b dX9_puts_18 ?_
      obtain ⟨s3, g, hD⟩ := bd hD
      refine ew_bast dX9_puts_19 g ?_
      refine ev_aload_n dX9_puts_20 0 rfl rfl ?_
      refine ev_dup dX9_puts_21 rfl ?_
      obtain ⟨v4, g, hD⟩ := bd hD
      refine ew_getI 8 37 dX9_puts_22 rfl (Nat.le_of_ble_eq_true rfl) w_1302 in_X9 rfl g ?_
      refine ev_iconst dX9_puts_25 (mi_c rfl) ?_
      refine ev_iadd dX9_puts_26 ?_
      obtain ⟨s5, g, hD⟩ := bd hD
      refine ew_putI 8 37 dX9_puts_27 rfl (Nat.le_of_ble_eq_true rfl) w_1302 in_X9 tyX9_ok nmX9 (Or.inl rfl) rfl g ?_
      refine ev_iinc dX9_puts_30 2 rfl (Nat.le_of_ble_eq_true rfl) rfl ?_
      refine ev_goto (tgt := 3) dX9_puts_33 (by decide) ?_
      refine Ev.pick [1, 2, 0] rfl ?_
      exact hrec hD hk
def D_X9_puts (x0 : Nat) (x1 : Int) (σ : mS) : Option mS :=
  (D_X9_puts_3 mFU x0 x1 24 σ).bind fun r1 =>
  some r1
set_option maxRecDepth 100000 in
set_option maxHeartbeats 4000000 in
theorem lk_X9_puts {G : mG} {x0 : Nat} {x1 : Int} {σ : mS} {R : mS} (hD : D_X9_puts x0 x1 σ = some R) : Ev G M_X9_puts 0 [(0, vr x0), (1, vi x1)] [] σ (.inl none) R := by
  unfold D_X9_puts at hD
  refine ev_bp dX9_puts_0 rfl ?_
  refine ev_istore_n dX9_puts_2 rfl (Nat.le_of_ble_eq_true rfl) rfl ?_
  obtain ⟨r1, g, hD⟩ := bd hD
  refine Ev.pick [1, 2, 0] rfl ?_
  refine lk_X9_puts_3 mFU g ?_
  cases hD
  exact ev_ret none dX9_puts_36 True.intro
theorem ct_X9_puts {G : mG} {x0 : Nat} {x1 : Int} {σ : mS} {R : mS} (hD : D_X9_puts x0 x1 σ = some R) : Ct G M_X9_puts [vr x0, vi x1] σ (.inl none) R := ct_of rfl (by decide +kernel) rfl (Nat.le_of_ble_eq_true rfl) rfl (lk_X9_puts hD)
def D_X9_feed (x0 : Nat) (x1 : Int) (x2 : Int) (x3 : Int) (x4 : Int) (x5 : Int) (σ : mS) : Option (Int × mS) :=
  (pI σ x0 8 0 0).bind fun s1 =>
  (gI s1 x0 8 37).bind fun v2 =>
  if (mw (v2 + 20)) ≤ 500 then
    (tgO s1 x0 8).bind fun _ =>
    (D_X9_puts x0 x1 s1).bind fun r3 =>
    (tgO r3 x0 8).bind fun _ =>
    (D_X9_puts x0 x2 r3).bind fun r4 =>
    (tgO r4 x0 8).bind fun _ =>
    (D_X9_puts x0 x3 r4).bind fun r5 =>
    (tgO r5 x0 8).bind fun _ =>
    (D_X9_puts x0 x4 r5).bind fun r6 =>
    (tgO r6 x0 8).bind fun _ =>
    (D_X9_puts x0 x5 r6).bind fun r7 =>
    (gI r7 x0 8 37).bind fun v8 =>
    some (v8, r7)
  else
    some (((-1)), s1)
set_option maxRecDepth 100000 in
set_option maxHeartbeats 4000000 in
theorem lk_X9_feed {G : mG} {x0 : Nat} {x1 : Int} {x2 : Int} {x3 : Int} {x4 : Int} {x5 : Int} {σ : mS} {R : (Int × mS)} (hD : D_X9_feed x0 x1 x2 x3 x4 x5 σ = some R) : Ev G M_X9_feed 0 [(0, vr x0), (1, vi x1), (2, vi x2), (3, vi x3), (4, vi x4), (5, vi x5)] [] σ (.inl (some (vi R.1))) R.2 := by
  unfold D_X9_feed at hD
  refine ev_aload_n dX9_feed_0 0 rfl rfl ?_
  refine ev_iconst dX9_feed_1 (mi_c rfl) ?_
  obtain ⟨s1, g, hD⟩ := bd hD
  refine ew_putI 8 0 dX9_feed_2 rfl (Nat.le_of_ble_eq_true rfl) w_1265 in_X9 tyX9_ok nmX9 (Or.inl rfl) rfl g ?_
  refine ev_aload_n dX9_feed_5 0 rfl rfl ?_
  obtain ⟨v2, g, hD⟩ := bd hD
  refine ew_getI 8 37 dX9_feed_6 rfl (Nat.le_of_ble_eq_true rfl) w_1302 in_X9 rfl g ?_
  refine ev_bp dX9_feed_9 rfl ?_
  refine ev_iadd dX9_feed_11 ?_
  refine ev_sp dX9_feed_12 rfl ?_
  by_cases c : (mw (v2 + 20)) ≤ 500
  · rw [if_pos c] at hD
    refine ev_icmp_le_t (tgt := 20) dX9_feed_15 (by decide) c ?_
    refine ev_aload_n dX9_feed_20 0 rfl rfl ?_
    refine ev_iload_n dX9_feed_21 1 rfl rfl ?_
    obtain ⟨_, g0, hD⟩ := bd hD
    obtain ⟨r3, g, hD⟩ := bd hD
    refine ew_callV0 (as := [vi x1]) (a := x0) (rest := []) dX9_feed_22 v_X9_puts w_1430 rfl (Nat.le_of_ble_eq_true rfl) rfl rfl g0 (Nat.le_of_ble_eq_true rfl) (Nat.le_of_ble_eq_true rfl) (ct_X9_puts g) ?_
    refine ev_aload_n dX9_feed_25 0 rfl rfl ?_
    refine ev_iload_n dX9_feed_26 2 rfl rfl ?_
    obtain ⟨_, g0, hD⟩ := bd hD
    obtain ⟨r4, g, hD⟩ := bd hD
    refine ew_callV0 (as := [vi x2]) (a := x0) (rest := []) dX9_feed_27 v_X9_puts w_1430 rfl (Nat.le_of_ble_eq_true rfl) rfl rfl g0 (Nat.le_of_ble_eq_true rfl) (Nat.le_of_ble_eq_true rfl) (ct_X9_puts g) ?_
    refine ev_aload_n dX9_feed_30 0 rfl rfl ?_
    refine ev_iload_n dX9_feed_31 3 rfl rfl ?_
    obtain ⟨_, g0, hD⟩ := bd hD
    obtain ⟨r5, g, hD⟩ := bd hD
    refine ew_callV0 (as := [vi x3]) (a := x0) (rest := []) dX9_feed_32 v_X9_puts w_1430 rfl (Nat.le_of_ble_eq_true rfl) rfl rfl g0 (Nat.le_of_ble_eq_true rfl) (Nat.le_of_ble_eq_true rfl) (ct_X9_puts g) ?_
    refine ev_aload_n dX9_feed_35 0 rfl rfl ?_
    refine ev_iload dX9_feed_36 4 rfl ?_
    obtain ⟨_, g0, hD⟩ := bd hD
    obtain ⟨r6, g, hD⟩ := bd hD
    refine ew_callV0 (as := [vi x4]) (a := x0) (rest := []) dX9_feed_38 v_X9_puts w_1430 rfl (Nat.le_of_ble_eq_true rfl) rfl rfl g0 (Nat.le_of_ble_eq_true rfl) (Nat.le_of_ble_eq_true rfl) (ct_X9_puts g) ?_
    refine ev_aload_n dX9_feed_41 0 rfl rfl ?_
    refine ev_iload dX9_feed_42 5 rfl ?_
    obtain ⟨_, g0, hD⟩ := bd hD
    obtain ⟨r7, g, hD⟩ := bd hD
    refine ew_callV0 (as := [vi x5]) (a := x0) (rest := []) dX9_feed_44 v_X9_puts w_1430 rfl (Nat.le_of_ble_eq_true rfl) rfl rfl g0 (Nat.le_of_ble_eq_true rfl) (Nat.le_of_ble_eq_true rfl) (ct_X9_puts g) ?_
    refine ev_aload_n dX9_feed_47 0 rfl rfl ?_
    obtain ⟨v8, g, hD⟩ := bd hD
    refine ew_getI 8 37 dX9_feed_48 rfl (Nat.le_of_ble_eq_true rfl) w_1302 in_X9 rfl g ?_
    cases hD
    exact ev_ret (some (vi _)) dX9_feed_51 True.intro
  · rw [if_neg c] at hD
    refine ev_icmp_le_f 20 dX9_feed_15 (by decide) c ?_
    refine ev_iconst dX9_feed_18 (mi_c rfl) ?_
    cases hD
    exact ev_ret (some (vi _)) dX9_feed_19 True.intro
theorem ct_X9_feed {G : mG} {x0 : Nat} {x1 : Int} {x2 : Int} {x3 : Int} {x4 : Int} {x5 : Int} {σ : mS} {R : (Int × mS)} (hD : D_X9_feed x0 x1 x2 x3 x4 x5 σ = some R) : Ct G M_X9_feed [vr x0, vi x1, vi x2, vi x3, vi x4, vi x5] σ (.inl (some (vi R.1))) R.2 := ct_of rfl (by decide +kernel) rfl (Nat.le_of_ble_eq_true rfl) rfl (lk_X9_feed hD)
def D_X9_wrong (x0 : Nat) (x1 : Int) (x2 : Int) (σ : mS) : Option mS :=
  (gI σ x0 8 42).bind fun v1 =>
  if v1 ≤ 0 then
    (pI σ x0 8 42 x1).bind fun s2 =>
    (pI s2 x0 8 43 x2).bind fun s3 =>
    some s3
  else
    some σ
set_option maxRecDepth 100000 in
set_option maxHeartbeats 4000000 in
theorem lk_X9_wrong {G : mG} {x0 : Nat} {x1 : Int} {x2 : Int} {σ : mS} {R : mS} (hD : D_X9_wrong x0 x1 x2 σ = some R) : Ev G M_X9_wrong 0 [(0, vr x0), (1, vi x1), (2, vi x2)] [] σ (.inl none) R := by
  unfold D_X9_wrong at hD
  refine ev_aload_n dX9_wrong_0 0 rfl rfl ?_
  obtain ⟨v1, g, hD⟩ := bd hD
  refine ew_getI 8 42 dX9_wrong_1 rfl (Nat.le_of_ble_eq_true rfl) w_1307 in_X9 rfl g ?_
  by_cases c : v1 ≤ 0
  · rw [if_pos c] at hD
    refine ev_if_le_t (tgt := 8) dX9_wrong_4 (by decide) c ?_
    refine ev_aload_n dX9_wrong_8 0 rfl rfl ?_
    refine ev_iload_n dX9_wrong_9 1 rfl rfl ?_
    obtain ⟨s2, g, hD⟩ := bd hD
    refine ew_putI 8 42 dX9_wrong_10 rfl (Nat.le_of_ble_eq_true rfl) w_1307 in_X9 tyX9_ok nmX9 (Or.inl rfl) rfl g ?_
    refine ev_aload_n dX9_wrong_13 0 rfl rfl ?_
    refine ev_iload_n dX9_wrong_14 2 rfl rfl ?_
    obtain ⟨s3, g, hD⟩ := bd hD
    refine ew_putI 8 43 dX9_wrong_15 rfl (Nat.le_of_ble_eq_true rfl) w_1308 in_X9 tyX9_ok nmX9 (Or.inl rfl) rfl g ?_
    cases hD
    exact ev_ret none dX9_wrong_18 True.intro
  · rw [if_neg c] at hD
    refine ev_if_le_f 8 dX9_wrong_4 (by decide) c ?_
    cases hD
    exact ev_ret none dX9_wrong_7 True.intro
theorem ct_X9_wrong {G : mG} {x0 : Nat} {x1 : Int} {x2 : Int} {σ : mS} {R : mS} (hD : D_X9_wrong x0 x1 x2 σ = some R) : Ct G M_X9_wrong [vr x0, vi x1, vi x2] σ (.inl none) R := ct_of rfl (by decide +kernel) rfl (Nat.le_of_ble_eq_true rfl) rfl (lk_X9_wrong hD)
def D_X9_sign_62 (y0 : Int) (σ : mS) : Option (Int × mS) :=
  some (y0, σ)
set_option maxRecDepth 100000 in
set_option maxHeartbeats 4000000 in
theorem lk_X9_sign_62 {G : mG} {y0 : Int} {σ : mS} {R : (Int × mS)} (hD : D_X9_sign_62 y0 σ = some R) : Ev G M_X9_sign 62 [] [vi y0] σ (.inl (some (vi R.1))) R.2 := by
  unfold D_X9_sign_62 at hD
  cases hD
  exact ev_ret (some (vi _)) dX9_sign_62 True.intro
def D_X9_sign_38 (x0 : Nat) (σ : mS) : Option (Int × mS) :=
  (gI σ x0 8 39).bind fun v1 =>
  (gI σ x0 8 38).bind fun v2 =>
  if v2 ≤ v1 then
    D_X9_sign_62 0 σ
  else
    (gR σ x0 8 30).bind fun v3 =>
    (gI σ x0 8 39).bind fun v4 =>
    (lB σ v3 v4).bind fun v5 =>
    D_X9_sign_62 v5 σ
set_option maxRecDepth 100000 in
set_option maxHeartbeats 4000000 in
theorem lk_X9_sign_38 {G : mG} {x0 : Nat} {σ : mS} {R : (Int × mS)} (hD : D_X9_sign_38 x0 σ = some R) : Ev G M_X9_sign 38 [(0, vr x0)] [] σ (.inl (some (vi R.1))) R.2 := by
  unfold D_X9_sign_38 at hD
  refine ev_aload_n dX9_sign_38 0 rfl rfl ?_
  obtain ⟨v1, g, hD⟩ := bd hD
  refine ew_getI 8 39 dX9_sign_39 rfl (Nat.le_of_ble_eq_true rfl) w_1304 in_X9 rfl g ?_
  refine ev_aload_n dX9_sign_42 0 rfl rfl ?_
  obtain ⟨v2, g, hD⟩ := bd hD
  refine ew_getI 8 38 dX9_sign_43 rfl (Nat.le_of_ble_eq_true rfl) w_1303 in_X9 rfl g ?_
  by_cases c : v2 ≤ v1
  · rw [if_pos c] at hD
    refine ev_icmp_ge_t (tgt := 61) dX9_sign_46 (by decide) c ?_
    refine ev_iconst dX9_sign_61 (mi_c rfl) ?_
    refine Ev.pick [] rfl ?_
    exact lk_X9_sign_62 hD
  · rw [if_neg c] at hD
    refine ev_icmp_ge_f 61 dX9_sign_46 (by decide) c ?_
    refine ev_aload_n dX9_sign_49 0 rfl rfl ?_
    obtain ⟨v3, g, hD⟩ := bd hD
    refine ew_getR 8 30 dX9_sign_50 rfl (Nat.le_of_ble_eq_true rfl) w_1295 in_X9 rfl g ?_
    refine ev_aload_n dX9_sign_53 0 rfl rfl ?_
    obtain ⟨v4, g, hD⟩ := bd hD
    refine ew_getI 8 39 dX9_sign_54 rfl (Nat.le_of_ble_eq_true rfl) w_1304 in_X9 rfl g ?_
    obtain ⟨v5, g, hD⟩ := bd hD
    refine ew_bald dX9_sign_57 g ?_
    refine ev_goto (tgt := 62) dX9_sign_58 (by decide) ?_
    refine Ev.pick [] rfl ?_
    exact lk_X9_sign_62 hD
def D_X9_sign_0 : Nat → Nat → mS → Option mS
  | 0, _, _ => none
  | f + 1, x0, σ =>
    (gI σ x0 8 39).bind fun v1 =>
    (gI σ x0 8 38).bind fun v2 =>
    if v2 ≤ v1 then
      some σ
    else
      (gR σ x0 8 30).bind fun v3 =>
      (gI σ x0 8 39).bind fun v4 =>
      (lB σ v3 v4).bind fun v5 =>
      if v5 ≠ 32 then
        some σ
      else
        (gI σ x0 8 39).bind fun v6 =>
        (pI σ x0 8 39 (mw (v6 + 1))).bind fun s7 =>
        (D_X9_sign_0 f) x0 s7
set_option maxRecDepth 100000 in
set_option maxHeartbeats 4000000 in
theorem lk_X9_sign_0 {G : mG} (f : Nat) : ∀ {x0 : Nat} {σ : mS} {R : mS}, D_X9_sign_0 f x0 σ = some R → ∀ {r : mX} {τ : mS}, Ev G M_X9_sign 38 [(0, vr x0)] [] R r τ → Ev G M_X9_sign 0 [(0, vr x0)] [] σ r τ := by
  induction f with
  | zero =>
    intros
    rename_i hD _ _ _
    cases hD
  | succ f ih =>
    intro x0 σ R hD r τ hk
    have hrec := @ih
    rw [D_X9_sign_0] at hD
    refine ev_aload_n dX9_sign_0 0 rfl rfl ?_
    obtain ⟨v1, g, hD⟩ := bd hD
    refine ew_getI 8 39 dX9_sign_1 rfl (Nat.le_of_ble_eq_true rfl) w_1304 in_X9 rfl g ?_
    refine ev_aload_n dX9_sign_4 0 rfl rfl ?_
    obtain ⟨v2, g, hD⟩ := bd hD
    refine ew_getI 8 38 dX9_sign_5 rfl (Nat.le_of_ble_eq_true rfl) w_1303 in_X9 rfl g ?_
    by_cases c : v2 ≤ v1
    · rw [if_pos c] at hD
      refine ev_icmp_ge_t (tgt := 38) dX9_sign_8 (by decide) c ?_
      cases hD
      exact hk
    · rw [if_neg c] at hD
      refine ev_icmp_ge_f 38 dX9_sign_8 (by decide) c ?_
      refine ev_aload_n dX9_sign_11 0 rfl rfl ?_
      obtain ⟨v3, g, hD⟩ := bd hD
      refine ew_getR 8 30 dX9_sign_12 rfl (Nat.le_of_ble_eq_true rfl) w_1295 in_X9 rfl g ?_
      refine ev_aload_n dX9_sign_15 0 rfl rfl ?_
      obtain ⟨v4, g, hD⟩ := bd hD
      refine ew_getI 8 39 dX9_sign_16 rfl (Nat.le_of_ble_eq_true rfl) w_1304 in_X9 rfl g ?_
      obtain ⟨v5, g, hD⟩ := bd hD
      refine ew_bald dX9_sign_19 g ?_
      refine ev_bp dX9_sign_20 rfl ?_
      by_cases c : v5 ≠ 32
      · rw [if_pos c] at hD
        refine ev_icmp_ne_t (tgt := 38) dX9_sign_22 (by decide) c ?_
        cases hD
        exact hk
      · rw [if_neg c] at hD
        refine ev_icmp_ne_f 38 dX9_sign_22 (by decide) c ?_
        refine ev_aload_n dX9_sign_25 0 rfl rfl ?_
        refine ev_dup dX9_sign_26 rfl ?_
        obtain ⟨v6, g, hD⟩ := bd hD
        refine ew_getI 8 39 dX9_sign_27 rfl (Nat.le_of_ble_eq_true rfl) w_1304 in_X9 rfl g ?_
        refine ev_iconst dX9_sign_30 (mi_c rfl) ?_
        refine ev_iadd dX9_sign_31 ?_
        obtain ⟨s7, g, hD⟩ := bd hD
        refine ew_putI 8 39 dX9_sign_32 rfl (Nat.le_of_ble_eq_true rfl) w_1304 in_X9 tyX9_ok nmX9 (Or.inl rfl) rfl g ?_
        refine ev_goto (tgt := 0) dX9_sign_35 (by decide) ?_
        exact hrec hD hk
def D_X9_sign (x0 : Nat) (σ : mS) : Option (Int × mS) :=
  (gI σ x0 8 39).bind fun v1 =>
  (gI σ x0 8 38).bind fun v2 =>
  if v2 ≤ v1 then
    D_X9_sign_38 x0 σ
  else
    (gR σ x0 8 30).bind fun v3 =>
    (gI σ x0 8 39).bind fun v4 =>
    (lB σ v3 v4).bind fun v5 =>
    if v5 ≠ 32 then
      D_X9_sign_38 x0 σ
    else
      (gI σ x0 8 39).bind fun v6 =>
      (pI σ x0 8 39 (mw (v6 + 1))).bind fun s7 =>
      (D_X9_sign_0 mFU x0 s7).bind fun r8 =>
      D_X9_sign_38 x0 r8
set_option maxRecDepth 100000 in
set_option maxHeartbeats 4000000 in
theorem lk_X9_sign {G : mG} {x0 : Nat} {σ : mS} {R : (Int × mS)} (hD : D_X9_sign x0 σ = some R) : Ev G M_X9_sign 0 [(0, vr x0)] [] σ (.inl (some (vi R.1))) R.2 := by
  unfold D_X9_sign at hD
  refine ev_aload_n dX9_sign_0 0 rfl rfl ?_
  obtain ⟨v1, g, hD⟩ := bd hD
  refine ew_getI 8 39 dX9_sign_1 rfl (Nat.le_of_ble_eq_true rfl) w_1304 in_X9 rfl g ?_
  refine ev_aload_n dX9_sign_4 0 rfl rfl ?_
  obtain ⟨v2, g, hD⟩ := bd hD
  refine ew_getI 8 38 dX9_sign_5 rfl (Nat.le_of_ble_eq_true rfl) w_1303 in_X9 rfl g ?_
  by_cases c : v2 ≤ v1
  · rw [if_pos c] at hD
    refine ev_icmp_ge_t (tgt := 38) dX9_sign_8 (by decide) c ?_
    exact lk_X9_sign_38 hD
  · rw [if_neg c] at hD
    refine ev_icmp_ge_f 38 dX9_sign_8 (by decide) c ?_
    refine ev_aload_n dX9_sign_11 0 rfl rfl ?_
    obtain ⟨v3, g, hD⟩ := bd hD
    refine ew_getR 8 30 dX9_sign_12 rfl (Nat.le_of_ble_eq_true rfl) w_1295 in_X9 rfl g ?_
    refine ev_aload_n dX9_sign_15 0 rfl rfl ?_
    obtain ⟨v4, g, hD⟩ := bd hD
    refine ew_getI 8 39 dX9_sign_16 rfl (Nat.le_of_ble_eq_true rfl) w_1304 in_X9 rfl g ?_
    obtain ⟨v5, g, hD⟩ := bd hD
    refine ew_bald dX9_sign_19 g ?_
    refine ev_bp dX9_sign_20 rfl ?_
    by_cases c : v5 ≠ 32
    · rw [if_pos c] at hD
      refine ev_icmp_ne_t (tgt := 38) dX9_sign_22 (by decide) c ?_
      exact lk_X9_sign_38 hD
    · rw [if_neg c] at hD
      refine ev_icmp_ne_f 38 dX9_sign_22 (by decide) c ?_
      refine ev_aload_n dX9_sign_25 0 rfl rfl ?_
      refine ev_dup dX9_sign_26 rfl ?_
      obtain ⟨v6, g, hD⟩ := bd hD
      refine ew_getI 8 39 dX9_sign_27 rfl (Nat.le_of_ble_eq_true rfl) w_1304 in_X9 rfl g ?_
      refine ev_iconst dX9_sign_30 (mi_c rfl) ?_
      refine ev_iadd dX9_sign_31 ?_
      obtain ⟨s7, g, hD⟩ := bd hD
      refine ew_putI 8 39 dX9_sign_32 rfl (Nat.le_of_ble_eq_true rfl) w_1304 in_X9 tyX9_ok nmX9 (Or.inl rfl) rfl g ?_
      refine ev_goto (tgt := 0) dX9_sign_35 (by decide) ?_
      obtain ⟨r8, g, hD⟩ := bd hD
      refine lk_X9_sign_0 mFU g ?_
      exact lk_X9_sign_38 hD
theorem ct_X9_sign {G : mG} {x0 : Nat} {σ : mS} {R : (Int × mS)} (hD : D_X9_sign x0 σ = some R) : Ct G M_X9_sign [vr x0] σ (.inl (some (vi R.1))) R.2 := ct_of rfl (by decide +kernel) rfl (Nat.le_of_ble_eq_true rfl) rfl (lk_X9_sign hD)
def D_X9_isSign_31 (y0 : Int) (σ : mS) : Option (Int × mS) :=
  (bO y0).bind fun v1 =>
  some (v1, σ)
set_option maxRecDepth 100000 in
set_option maxHeartbeats 4000000 in
theorem lk_X9_isSign_31 {G : mG} {y0 : Int} {σ : mS} {R : (Int × mS)} (hD : D_X9_isSign_31 y0 σ = some R) : Ev G M_X9_isSign 31 [] [vi y0] σ (.inl (some (vi R.1))) R.2 := by
  unfold D_X9_isSign_31 at hD
  obtain ⟨v1, gb, hD⟩ := bd hD
  cases hD
  exact ew_retb dX9_isSign_31 rfl gb
def D_X9_isSign_30 (σ : mS) : Option (Int × mS) :=
  D_X9_isSign_31 0 σ
set_option maxRecDepth 100000 in
set_option maxHeartbeats 4000000 in
theorem lk_X9_isSign_30 {G : mG} {σ : mS} {R : (Int × mS)} (hD : D_X9_isSign_30  σ = some R) : Ev G M_X9_isSign 30 [] [] σ (.inl (some (vi R.1))) R.2 := by
  unfold D_X9_isSign_30 at hD
  refine ev_iconst dX9_isSign_30 (mi_c rfl) ?_
  exact lk_X9_isSign_31 hD
def D_X9_isSign (x0 : Nat) (x1 : Int) (σ : mS) : Option (Int × mS) :=
  (gI σ x0 8 42).bind fun v1 =>
  if v1 ≠ 0 then
    D_X9_isSign_30  σ
  else
    (tgO σ x0 8).bind fun _ =>
    (D_X9_sign x0 σ).bind fun r2 =>
    if r2.1 ≠ x1 then
      D_X9_isSign_30  r2.2
    else
      (gI r2.2 x0 8 39).bind fun v3 =>
      (gI r2.2 x0 8 38).bind fun v4 =>
      if v4 ≤ v3 then
        D_X9_isSign_30  r2.2
      else
        D_X9_isSign_31 1 r2.2
set_option maxRecDepth 100000 in
set_option maxHeartbeats 4000000 in
theorem lk_X9_isSign {G : mG} {x0 : Nat} {x1 : Int} {σ : mS} {R : (Int × mS)} (hD : D_X9_isSign x0 x1 σ = some R) : Ev G M_X9_isSign 0 [(0, vr x0), (1, vi x1)] [] σ (.inl (some (vi R.1))) R.2 := by
  unfold D_X9_isSign at hD
  refine ev_aload_n dX9_isSign_0 0 rfl rfl ?_
  obtain ⟨v1, g, hD⟩ := bd hD
  refine ew_getI 8 42 dX9_isSign_1 rfl (Nat.le_of_ble_eq_true rfl) w_1307 in_X9 rfl g ?_
  by_cases c : v1 ≠ 0
  · rw [if_pos c] at hD
    refine ev_if_ne_t (tgt := 30) dX9_isSign_4 (by decide) c ?_
    refine Ev.pick [] rfl ?_
    exact lk_X9_isSign_30 hD
  · rw [if_neg c] at hD
    refine ev_if_ne_f 30 dX9_isSign_4 (by decide) c ?_
    refine ev_aload_n dX9_isSign_7 0 rfl rfl ?_
    obtain ⟨_, g0, hD⟩ := bd hD
    obtain ⟨r2, g, hD⟩ := bd hD
    refine ew_callVv (as := []) (a := x0) (rest := []) dX9_isSign_8 v_X9_sign w_1458 rfl (Nat.le_of_ble_eq_true rfl) rfl rfl g0 (Nat.le_of_ble_eq_true rfl) (Nat.le_of_ble_eq_true rfl) (ct_X9_sign g) ?_
    refine ev_iload_n dX9_isSign_11 1 rfl rfl ?_
    by_cases c : r2.1 ≠ x1
    · rw [if_pos c] at hD
      refine ev_icmp_ne_t (tgt := 30) dX9_isSign_12 (by decide) c ?_
      refine Ev.pick [] rfl ?_
      exact lk_X9_isSign_30 hD
    · rw [if_neg c] at hD
      refine ev_icmp_ne_f 30 dX9_isSign_12 (by decide) c ?_
      refine ev_aload_n dX9_isSign_15 0 rfl rfl ?_
      obtain ⟨v3, g, hD⟩ := bd hD
      refine ew_getI 8 39 dX9_isSign_16 rfl (Nat.le_of_ble_eq_true rfl) w_1304 in_X9 rfl g ?_
      refine ev_aload_n dX9_isSign_19 0 rfl rfl ?_
      obtain ⟨v4, g, hD⟩ := bd hD
      refine ew_getI 8 38 dX9_isSign_20 rfl (Nat.le_of_ble_eq_true rfl) w_1303 in_X9 rfl g ?_
      by_cases c : v4 ≤ v3
      · rw [if_pos c] at hD
        refine ev_icmp_ge_t (tgt := 30) dX9_isSign_23 (by decide) c ?_
        refine Ev.pick [] rfl ?_
        exact lk_X9_isSign_30 hD
      · rw [if_neg c] at hD
        refine ev_icmp_ge_f 30 dX9_isSign_23 (by decide) c ?_
        refine ev_iconst dX9_isSign_26 (mi_c rfl) ?_
        refine ev_goto (tgt := 31) dX9_isSign_27 (by decide) ?_
        refine Ev.pick [] rfl ?_
        exact lk_X9_isSign_31 hD
theorem ct_X9_isSign {G : mG} {x0 : Nat} {x1 : Int} {σ : mS} {R : (Int × mS)} (hD : D_X9_isSign x0 x1 σ = some R) : Ct G M_X9_isSign [vr x0, vi x1] σ (.inl (some (vi R.1))) R.2 := ct_of rfl (by decide +kernel) rfl (Nat.le_of_ble_eq_true rfl) rfl (lk_X9_isSign hD)
def D_X9_isDigit_30 (y0 : Int) (σ : mS) : Option (Int × mS) :=
  (bO y0).bind fun v1 =>
  some (v1, σ)
set_option maxRecDepth 100000 in
set_option maxHeartbeats 4000000 in
theorem lk_X9_isDigit_30 {G : mG} {y0 : Int} {σ : mS} {R : (Int × mS)} (hD : D_X9_isDigit_30 y0 σ = some R) : Ev G M_X9_isDigit 30 [] [vi y0] σ (.inl (some (vi R.1))) R.2 := by
  unfold D_X9_isDigit_30 at hD
  obtain ⟨v1, gb, hD⟩ := bd hD
  cases hD
  exact ew_retb dX9_isDigit_30 rfl gb
def D_X9_isDigit_29 (σ : mS) : Option (Int × mS) :=
  D_X9_isDigit_30 0 σ
set_option maxRecDepth 100000 in
set_option maxHeartbeats 4000000 in
theorem lk_X9_isDigit_29 {G : mG} {σ : mS} {R : (Int × mS)} (hD : D_X9_isDigit_29  σ = some R) : Ev G M_X9_isDigit 29 [] [] σ (.inl (some (vi R.1))) R.2 := by
  unfold D_X9_isDigit_29 at hD
  refine ev_iconst dX9_isDigit_29 (mi_c rfl) ?_
  exact lk_X9_isDigit_30 hD
def D_X9_isDigit (x0 : Nat) (σ : mS) : Option (Int × mS) :=
  (gI σ x0 8 42).bind fun v1 =>
  if v1 ≠ 0 then
    D_X9_isDigit_29  σ
  else
    (tgO σ x0 8).bind fun _ =>
    (D_X9_sign x0 σ).bind fun r2 =>
    if r2.1 < 48 then
      D_X9_isDigit_29  r2.2
    else
      (tgO r2.2 x0 8).bind fun _ =>
      (D_X9_sign x0 r2.2).bind fun r3 =>
      if 57 < r3.1 then
        D_X9_isDigit_29  r3.2
      else
        D_X9_isDigit_30 1 r3.2
set_option maxRecDepth 100000 in
set_option maxHeartbeats 4000000 in
theorem lk_X9_isDigit {G : mG} {x0 : Nat} {σ : mS} {R : (Int × mS)} (hD : D_X9_isDigit x0 σ = some R) : Ev G M_X9_isDigit 0 [(0, vr x0)] [] σ (.inl (some (vi R.1))) R.2 := by
  unfold D_X9_isDigit at hD
  refine ev_aload_n dX9_isDigit_0 0 rfl rfl ?_
  obtain ⟨v1, g, hD⟩ := bd hD
  refine ew_getI 8 42 dX9_isDigit_1 rfl (Nat.le_of_ble_eq_true rfl) w_1307 in_X9 rfl g ?_
  by_cases c : v1 ≠ 0
  · rw [if_pos c] at hD
    refine ev_if_ne_t (tgt := 29) dX9_isDigit_4 (by decide) c ?_
    refine Ev.pick [] rfl ?_
    exact lk_X9_isDigit_29 hD
  · rw [if_neg c] at hD
    refine ev_if_ne_f 29 dX9_isDigit_4 (by decide) c ?_
    refine ev_aload_n dX9_isDigit_7 0 rfl rfl ?_
    obtain ⟨_, g0, hD⟩ := bd hD
    obtain ⟨r2, g, hD⟩ := bd hD
    refine ew_callVv (as := []) (a := x0) (rest := []) dX9_isDigit_8 v_X9_sign w_1458 rfl (Nat.le_of_ble_eq_true rfl) rfl rfl g0 (Nat.le_of_ble_eq_true rfl) (Nat.le_of_ble_eq_true rfl) (ct_X9_sign g) ?_
    refine ev_bp dX9_isDigit_11 rfl ?_
    by_cases c : r2.1 < 48
    · rw [if_pos c] at hD
      refine ev_icmp_lt_t (tgt := 29) dX9_isDigit_13 (by decide) c ?_
      refine Ev.pick [] rfl ?_
      exact lk_X9_isDigit_29 hD
    · rw [if_neg c] at hD
      refine ev_icmp_lt_f 29 dX9_isDigit_13 (by decide) c ?_
      refine ev_aload_n dX9_isDigit_16 0 rfl rfl ?_
      obtain ⟨_, g0, hD⟩ := bd hD
      obtain ⟨r3, g, hD⟩ := bd hD
      refine ew_callVv (as := []) (a := x0) (rest := []) dX9_isDigit_17 v_X9_sign w_1458 rfl (Nat.le_of_ble_eq_true rfl) rfl rfl g0 (Nat.le_of_ble_eq_true rfl) (Nat.le_of_ble_eq_true rfl) (ct_X9_sign g) ?_
      refine ev_bp dX9_isDigit_20 rfl ?_
      by_cases c : 57 < r3.1
      · rw [if_pos c] at hD
        refine ev_icmp_gt_t (tgt := 29) dX9_isDigit_22 (by decide) c ?_
        refine Ev.pick [] rfl ?_
        exact lk_X9_isDigit_29 hD
      · rw [if_neg c] at hD
        refine ev_icmp_gt_f 29 dX9_isDigit_22 (by decide) c ?_
        refine ev_iconst dX9_isDigit_25 (mi_c rfl) ?_
        refine ev_goto (tgt := 30) dX9_isDigit_26 (by decide) ?_
        refine Ev.pick [] rfl ?_
        exact lk_X9_isDigit_30 hD
theorem ct_X9_isDigit {G : mG} {x0 : Nat} {σ : mS} {R : (Int × mS)} (hD : D_X9_isDigit x0 σ = some R) : Ct G M_X9_isDigit [vr x0] σ (.inl (some (vi R.1))) R.2 := ct_of rfl (by decide +kernel) rfl (Nat.le_of_ble_eq_true rfl) rfl (lk_X9_isDigit hD)
def D_X9_isSmall_35 (y0 : Int) (σ : mS) : Option Int :=
  (bO y0).bind fun v1 =>
  some v1
set_option maxRecDepth 100000 in
set_option maxHeartbeats 4000000 in
theorem lk_X9_isSmall_35 {G : mG} {y0 : Int} {σ : mS} {R : Int} (hD : D_X9_isSmall_35 y0 σ = some R) : Ev G M_X9_isSmall 35 [] [vi y0] σ (.inl (some (vi R))) σ := by
  unfold D_X9_isSmall_35 at hD
  obtain ⟨v1, gb, hD⟩ := bd hD
  cases hD
  exact ew_retb dX9_isSmall_35 rfl gb
def D_X9_isSmall_34 (σ : mS) : Option Int :=
  D_X9_isSmall_35 0 σ
set_option maxRecDepth 100000 in
set_option maxHeartbeats 4000000 in
theorem lk_X9_isSmall_34 {G : mG} {σ : mS} {R : Int} (hD : D_X9_isSmall_34  σ = some R) : Ev G M_X9_isSmall 34 [] [] σ (.inl (some (vi R))) σ := by
  unfold D_X9_isSmall_34 at hD
  refine ev_iconst dX9_isSmall_34 (mi_c rfl) ?_
  exact lk_X9_isSmall_35 hD
def D_X9_isSmall (x0 : Nat) (x1 : Int) (σ : mS) : Option Int :=
  (gI σ x0 8 38).bind fun v1 =>
  if v1 ≤ x1 then
    D_X9_isSmall_34  σ
  else
    (gR σ x0 8 30).bind fun v2 =>
    (lB σ v2 x1).bind fun v3 =>
    if v3 < 97 then
      D_X9_isSmall_34  σ
    else
      (gR σ x0 8 30).bind fun v4 =>
      (lB σ v4 x1).bind fun v5 =>
      if 122 < v5 then
        D_X9_isSmall_34  σ
      else
        D_X9_isSmall_35 1 σ
set_option maxRecDepth 100000 in
set_option maxHeartbeats 4000000 in
theorem lk_X9_isSmall {G : mG} {x0 : Nat} {x1 : Int} {σ : mS} {R : Int} (hD : D_X9_isSmall x0 x1 σ = some R) : Ev G M_X9_isSmall 0 [(0, vr x0), (1, vi x1)] [] σ (.inl (some (vi R))) σ := by
  unfold D_X9_isSmall at hD
  refine ev_iload_n dX9_isSmall_0 1 rfl rfl ?_
  refine ev_aload_n dX9_isSmall_1 0 rfl rfl ?_
  obtain ⟨v1, g, hD⟩ := bd hD
  refine ew_getI 8 38 dX9_isSmall_2 rfl (Nat.le_of_ble_eq_true rfl) w_1303 in_X9 rfl g ?_
  by_cases c : v1 ≤ x1
  · rw [if_pos c] at hD
    refine ev_icmp_ge_t (tgt := 34) dX9_isSmall_5 (by decide) c ?_
    refine Ev.pick [] rfl ?_
    exact lk_X9_isSmall_34 hD
  · rw [if_neg c] at hD
    refine ev_icmp_ge_f 34 dX9_isSmall_5 (by decide) c ?_
    refine ev_aload_n dX9_isSmall_8 0 rfl rfl ?_
    obtain ⟨v2, g, hD⟩ := bd hD
    refine ew_getR 8 30 dX9_isSmall_9 rfl (Nat.le_of_ble_eq_true rfl) w_1295 in_X9 rfl g ?_
    refine ev_iload_n dX9_isSmall_12 1 rfl rfl ?_
    obtain ⟨v3, g, hD⟩ := bd hD
    refine ew_bald dX9_isSmall_13 g ?_
    refine ev_bp dX9_isSmall_14 rfl ?_
    by_cases c : v3 < 97
    · rw [if_pos c] at hD
      refine ev_icmp_lt_t (tgt := 34) dX9_isSmall_16 (by decide) c ?_
      refine Ev.pick [] rfl ?_
      exact lk_X9_isSmall_34 hD
    · rw [if_neg c] at hD
      refine ev_icmp_lt_f 34 dX9_isSmall_16 (by decide) c ?_
      refine ev_aload_n dX9_isSmall_19 0 rfl rfl ?_
      obtain ⟨v4, g, hD⟩ := bd hD
      refine ew_getR 8 30 dX9_isSmall_20 rfl (Nat.le_of_ble_eq_true rfl) w_1295 in_X9 rfl g ?_
      refine ev_iload_n dX9_isSmall_23 1 rfl rfl ?_
      obtain ⟨v5, g, hD⟩ := bd hD
      refine ew_bald dX9_isSmall_24 g ?_
      refine ev_bp dX9_isSmall_25 rfl ?_
      by_cases c : 122 < v5
      · rw [if_pos c] at hD
        refine ev_icmp_gt_t (tgt := 34) dX9_isSmall_27 (by decide) c ?_
        refine Ev.pick [] rfl ?_
        exact lk_X9_isSmall_34 hD
      · rw [if_neg c] at hD
        refine ev_icmp_gt_f 34 dX9_isSmall_27 (by decide) c ?_
        refine ev_iconst dX9_isSmall_30 (mi_c rfl) ?_
        refine ev_goto (tgt := 35) dX9_isSmall_31 (by decide) ?_
        refine Ev.pick [] rfl ?_
        exact lk_X9_isSmall_35 hD
theorem ct_X9_isSmall {G : mG} {x0 : Nat} {x1 : Int} {σ : mS} {R : Int} (hD : D_X9_isSmall x0 x1 σ = some R) : Ct G M_X9_isSmall [vr x0, vi x1] σ (.inl (some (vi R))) σ := ct_of rfl (by decide +kernel) rfl (Nat.le_of_ble_eq_true rfl) rfl (lk_X9_isSmall hD)
def D_X9_isWordHere_28 (y0 : Int) (σ : mS) : Option (Int × mS) :=
  (bO y0).bind fun v1 =>
  some (v1, σ)
set_option maxRecDepth 100000 in
set_option maxHeartbeats 4000000 in
theorem lk_X9_isWordHere_28 {G : mG} {y0 : Int} {σ : mS} {R : (Int × mS)} (hD : D_X9_isWordHere_28 y0 σ = some R) : Ev G M_X9_isWordHere 28 [] [vi y0] σ (.inl (some (vi R.1))) R.2 := by
  unfold D_X9_isWordHere_28 at hD
  obtain ⟨v1, gb, hD⟩ := bd hD
  cases hD
  exact ew_retb dX9_isWordHere_28 rfl gb
def D_X9_isWordHere_27 (σ : mS) : Option (Int × mS) :=
  D_X9_isWordHere_28 0 σ
set_option maxRecDepth 100000 in
set_option maxHeartbeats 4000000 in
theorem lk_X9_isWordHere_27 {G : mG} {σ : mS} {R : (Int × mS)} (hD : D_X9_isWordHere_27  σ = some R) : Ev G M_X9_isWordHere 27 [] [] σ (.inl (some (vi R.1))) R.2 := by
  unfold D_X9_isWordHere_27 at hD
  refine ev_iconst dX9_isWordHere_27 (mi_c rfl) ?_
  exact lk_X9_isWordHere_28 hD
def D_X9_isWordHere (x0 : Nat) (σ : mS) : Option (Int × mS) :=
  (tgO σ x0 8).bind fun _ =>
  (D_X9_sign x0 σ).bind fun r1 =>
  (gI r1.2 x0 8 42).bind fun v2 =>
  if v2 ≠ 0 then
    D_X9_isWordHere_27  r1.2
  else
    (gI r1.2 x0 8 39).bind fun v3 =>
    (tgO r1.2 x0 8).bind fun _ =>
    (D_X9_isSmall x0 v3 r1.2).bind fun r4 =>
    if r4 = 0 then
      D_X9_isWordHere_27  r1.2
    else
      D_X9_isWordHere_28 1 r1.2
set_option maxRecDepth 100000 in
set_option maxHeartbeats 4000000 in
theorem lk_X9_isWordHere {G : mG} {x0 : Nat} {σ : mS} {R : (Int × mS)} (hD : D_X9_isWordHere x0 σ = some R) : Ev G M_X9_isWordHere 0 [(0, vr x0)] [] σ (.inl (some (vi R.1))) R.2 := by
  unfold D_X9_isWordHere at hD
  refine ev_aload_n dX9_isWordHere_0 0 rfl rfl ?_
  obtain ⟨_, g0, hD⟩ := bd hD
  obtain ⟨r1, g, hD⟩ := bd hD
  refine ew_callVv (as := []) (a := x0) (rest := []) dX9_isWordHere_1 v_X9_sign w_1458 rfl (Nat.le_of_ble_eq_true rfl) rfl rfl g0 (Nat.le_of_ble_eq_true rfl) (Nat.le_of_ble_eq_true rfl) (ct_X9_sign g) ?_
  refine ev_pop dX9_isWordHere_4 rfl ?_
  refine ev_aload_n dX9_isWordHere_5 0 rfl rfl ?_
  obtain ⟨v2, g, hD⟩ := bd hD
  refine ew_getI 8 42 dX9_isWordHere_6 rfl (Nat.le_of_ble_eq_true rfl) w_1307 in_X9 rfl g ?_
  by_cases c : v2 ≠ 0
  · rw [if_pos c] at hD
    refine ev_if_ne_t (tgt := 27) dX9_isWordHere_9 (by decide) c ?_
    refine Ev.pick [] rfl ?_
    exact lk_X9_isWordHere_27 hD
  · rw [if_neg c] at hD
    refine ev_if_ne_f 27 dX9_isWordHere_9 (by decide) c ?_
    refine ev_aload_n dX9_isWordHere_12 0 rfl rfl ?_
    refine ev_aload_n dX9_isWordHere_13 0 rfl rfl ?_
    obtain ⟨v3, g, hD⟩ := bd hD
    refine ew_getI 8 39 dX9_isWordHere_14 rfl (Nat.le_of_ble_eq_true rfl) w_1304 in_X9 rfl g ?_
    obtain ⟨_, g0, hD⟩ := bd hD
    obtain ⟨r4, g, hD⟩ := bd hD
    refine ew_callVv (as := [vi v3]) (a := x0) (rest := []) dX9_isWordHere_17 v_X9_isSmall w_1462 rfl (Nat.le_of_ble_eq_true rfl) rfl rfl g0 (Nat.le_of_ble_eq_true rfl) (Nat.le_of_ble_eq_true rfl) (ct_X9_isSmall g) ?_
    by_cases c : r4 = 0
    · rw [if_pos c] at hD
      refine ev_if_eq_t (tgt := 27) dX9_isWordHere_20 (by decide) c ?_
      refine Ev.pick [] rfl ?_
      exact lk_X9_isWordHere_27 hD
    · rw [if_neg c] at hD
      refine ev_if_eq_f 27 dX9_isWordHere_20 (by decide) c ?_
      refine ev_iconst dX9_isWordHere_23 (mi_c rfl) ?_
      refine ev_goto (tgt := 28) dX9_isWordHere_24 (by decide) ?_
      refine Ev.pick [] rfl ?_
      exact lk_X9_isWordHere_28 hD
theorem ct_X9_isWordHere {G : mG} {x0 : Nat} {σ : mS} {R : (Int × mS)} (hD : D_X9_isWordHere x0 σ = some R) : Ct G M_X9_isWordHere [vr x0] σ (.inl (some (vi R.1))) R.2 := ct_of rfl (by decide +kernel) rfl (Nat.le_of_ble_eq_true rfl) rfl (lk_X9_isWordHere hD)
def D_X9_ends_5 : Nat → Nat → Int → mS → Option Int
  | 0, _, _, _ => none
  | f + 1, x0, x1, σ =>
    (tgO σ x0 8).bind fun _ =>
    (D_X9_isSmall x0 x1 σ).bind fun r1 =>
    if r1 = 0 then
      some x1
    else
      (D_X9_ends_5 f) x0 (mw (x1 + 1)) σ
set_option maxRecDepth 100000 in
set_option maxHeartbeats 4000000 in
theorem lk_X9_ends_5 {G : mG} (f : Nat) : ∀ {x0 : Nat} {x1 : Int} {σ : mS} {R : Int}, D_X9_ends_5 f x0 x1 σ = some R → ∀ {r : mX} {τ : mS}, Ev G M_X9_ends 19 [(1, vi (R))] [] σ r τ → Ev G M_X9_ends 5 [(0, vr x0), (1, vi x1)] [] σ r τ := by
  induction f with
  | zero =>
    intros
    rename_i hD _ _ _
    cases hD
  | succ f ih =>
    intro x0 x1 σ R hD r τ hk
    have hrec := @ih
    rw [D_X9_ends_5] at hD
    refine ev_aload_n dX9_ends_5 0 rfl rfl ?_
    refine ev_iload_n dX9_ends_6 1 rfl rfl ?_
    obtain ⟨_, g0, hD⟩ := bd hD
    obtain ⟨r1, g, hD⟩ := bd hD
    refine ew_callVv (as := [vi x1]) (a := x0) (rest := []) dX9_ends_7 v_X9_isSmall w_1462 rfl (Nat.le_of_ble_eq_true rfl) rfl rfl g0 (Nat.le_of_ble_eq_true rfl) (Nat.le_of_ble_eq_true rfl) (ct_X9_isSmall g) ?_
    by_cases c : r1 = 0
    · rw [if_pos c] at hD
      refine ev_if_eq_t (tgt := 19) dX9_ends_10 (by decide) c ?_
      cases hD
      refine Ev.pick [1] rfl ?_
      exact hk
    · rw [if_neg c] at hD
      refine ev_if_eq_f 19 dX9_ends_10 (by decide) c ?_
      refine ev_iinc dX9_ends_13 1 rfl (Nat.le_of_ble_eq_true rfl) rfl ?_
      refine ev_goto (tgt := 5) dX9_ends_16 (by decide) ?_
      refine Ev.pick [1, 0] rfl ?_
      exact hrec hD hk
def D_X9_ends (x0 : Nat) (σ : mS) : Option Int :=
  (gI σ x0 8 39).bind fun v1 =>
  (D_X9_ends_5 mFU x0 v1 σ).bind fun r2 =>
  some r2
set_option maxRecDepth 100000 in
set_option maxHeartbeats 4000000 in
theorem lk_X9_ends {G : mG} {x0 : Nat} {σ : mS} {R : Int} (hD : D_X9_ends x0 σ = some R) : Ev G M_X9_ends 0 [(0, vr x0)] [] σ (.inl (some (vi R))) σ := by
  unfold D_X9_ends at hD
  refine ev_aload_n dX9_ends_0 0 rfl rfl ?_
  obtain ⟨v1, g, hD⟩ := bd hD
  refine ew_getI 8 39 dX9_ends_1 rfl (Nat.le_of_ble_eq_true rfl) w_1304 in_X9 rfl g ?_
  refine ev_istore_n dX9_ends_4 rfl (Nat.le_of_ble_eq_true rfl) rfl ?_
  obtain ⟨r2, g, hD⟩ := bd hD
  refine Ev.pick [1, 0] rfl ?_
  refine lk_X9_ends_5 mFU g ?_
  refine ev_iload_n dX9_ends_19 0 rfl rfl ?_
  cases hD
  exact ev_ret (some (vi _)) dX9_ends_20 True.intro
theorem ct_X9_ends {G : mG} {x0 : Nat} {σ : mS} {R : Int} (hD : D_X9_ends x0 σ = some R) : Ct G M_X9_ends [vr x0] σ (.inl (some (vi R))) σ := ct_of rfl (by decide +kernel) rfl (Nat.le_of_ble_eq_true rfl) rfl (lk_X9_ends hD)
def D_X9_passes_23 (σ : mS) : Option (Int × mS) :=
  (bO 0).bind fun v1 =>
  some (v1, σ)
set_option maxRecDepth 100000 in
set_option maxHeartbeats 4000000 in
theorem lk_X9_passes_23 {G : mG} {σ : mS} {R : (Int × mS)} (hD : D_X9_passes_23  σ = some R) : Ev G M_X9_passes 23 [] [] σ (.inl (some (vi R.1))) R.2 := by
  unfold D_X9_passes_23 at hD
  refine ev_iconst dX9_passes_23 (mi_c rfl) ?_
  obtain ⟨v1, gb, hD⟩ := bd hD
  cases hD
  exact ew_retb dX9_passes_24 rfl gb
def D_X9_passes_27 : Nat → Nat → Nat → Int → mS → Option (Unit ⊕ Int)
  | 0, _, _, _, _ => none
  | f + 1, x0, x1, x2, σ =>
    (sLn x1).bind fun v1 =>
    if v1 ≤ x2 then
      some (Sum.inl ())
    else
      (gR σ x0 8 30).bind fun v2 =>
      (gI σ x0 8 39).bind fun v3 =>
      (lB σ v2 (mw (v3 + x2))).bind fun v4 =>
      (sCh x1 x2).bind fun v5 =>
      if v4 = v5 then
        (D_X9_passes_27 f) x0 x1 (mw (x2 + 1)) σ
      else
        (bO 0).bind fun v6 =>
        some (Sum.inr v6)
set_option maxRecDepth 100000 in
set_option maxHeartbeats 4000000 in
theorem lk_X9_passes_27 {G : mG} (f : Nat) : ∀ {x0 : Nat} {x1 : Nat} {x2 : Int} {σ : mS} {R : (Unit ⊕ Int)}, D_X9_passes_27 f x0 x1 x2 σ = some R → ∀ {r : mX} {τ : mS}, (∀ z, R = (Sum.inl z) → Ev G M_X9_passes 62 [(0, vr x0), (1, vr x1)] [] σ r τ) ∧ (∀ z, R = (Sum.inr z) → r = .inl (some (vi z)) ∧ τ = σ) → Ev G M_X9_passes 27 [(0, vr x0), (1, vr x1), (2, vi x2)] [] σ r τ := by
  induction f with
  | zero =>
    intros
    rename_i hD _ _ _
    cases hD
  | succ f ih =>
    intro x0 x1 x2 σ R hD r τ hk
    have hrec := @ih
    rw [D_X9_passes_27] at hD
    refine ev_iload_n dX9_passes_27 2 rfl rfl ?_
    refine ev_aload_n dX9_passes_28 1 rfl rfl ?_
    obtain ⟨v1, g, hD⟩ := bd hD
    refine ew_slen dX9_passes_29 ml_X9_229 g (Nat.le_of_ble_eq_true rfl) (Nat.le_of_ble_eq_true rfl) (Nat.le_of_ble_eq_true rfl) ?_
    by_cases c : v1 ≤ x2
    · rw [if_pos c] at hD
      refine ev_icmp_ge_t (tgt := 62) dX9_passes_32 (by decide) c ?_
      cases hD
      refine Ev.pick [0, 1] rfl ?_
      exact hk.1 _ rfl
    · rw [if_neg c] at hD
      refine ev_icmp_ge_f 62 dX9_passes_32 (by decide) c ?_
      refine ev_aload_n dX9_passes_35 0 rfl rfl ?_
      obtain ⟨v2, g, hD⟩ := bd hD
      refine ew_getR 8 30 dX9_passes_36 rfl (Nat.le_of_ble_eq_true rfl) w_1295 in_X9 rfl g ?_
      refine ev_aload_n dX9_passes_39 0 rfl rfl ?_
      obtain ⟨v3, g, hD⟩ := bd hD
      refine ew_getI 8 39 dX9_passes_40 rfl (Nat.le_of_ble_eq_true rfl) w_1304 in_X9 rfl g ?_
      refine ev_iload_n dX9_passes_43 2 rfl rfl ?_
      refine ev_iadd dX9_passes_44 ?_
      obtain ⟨v4, g, hD⟩ := bd hD
      refine ew_bald dX9_passes_45 g ?_
      refine ev_aload_n dX9_passes_46 1 rfl rfl ?_
      refine ev_iload_n dX9_passes_47 2 rfl rfl ?_
      obtain ⟨v5, g, hD⟩ := bd hD
      refine ew_schar dX9_passes_48 ml_X9_234 g (Nat.le_of_ble_eq_true rfl) (Nat.le_of_ble_eq_true rfl) (Nat.le_of_ble_eq_true rfl) ?_
      by_cases c : v4 = v5
      · rw [if_pos c] at hD
        refine ev_icmp_eq_t (tgt := 56) dX9_passes_51 (by decide) c ?_
        refine ev_iinc dX9_passes_56 2 rfl (Nat.le_of_ble_eq_true rfl) rfl ?_
        refine ev_goto (tgt := 27) dX9_passes_59 (by decide) ?_
        refine Ev.pick [1, 2, 0] rfl ?_
        exact hrec hD hk
      · rw [if_neg c] at hD
        refine ev_icmp_eq_f 56 dX9_passes_51 (by decide) c ?_
        refine ev_iconst dX9_passes_54 (mi_c rfl) ?_
        obtain ⟨v6, gb, hD⟩ := bd hD
        cases hD
        obtain ⟨rfl, rfl⟩ := hk.2 _ rfl
        exact ew_retb dX9_passes_55 rfl gb
def D_X9_passes (x0 : Nat) (x1 : Nat) (σ : mS) : Option (Int × mS) :=
  (tgO σ x0 8).bind fun _ =>
  (D_X9_isWordHere x0 σ).bind fun r1 =>
  if r1.1 = 0 then
    D_X9_passes_23  r1.2
  else
    (tgO r1.2 x0 8).bind fun _ =>
    (D_X9_ends x0 r1.2).bind fun r2 =>
    (gI r1.2 x0 8 39).bind fun v3 =>
    (sLn x1).bind fun v4 =>
    if (mw (r2 - v3)) = v4 then
      (D_X9_passes_27 mFU x0 x1 0 r1.2).bind fun r5 =>
      match r5 with
      | (Sum.inl z6) =>
        (gI r1.2 x0 8 39).bind fun v7 =>
        (pI r1.2 x0 8 40 v7).bind fun s8 =>
        (gI s8 x0 8 39).bind fun v9 =>
        (sLn x1).bind fun v10 =>
        (pI s8 x0 8 39 (mw (v9 + v10))).bind fun s11 =>
        (bO 1).bind fun v12 =>
        some (v12, s11)
      | (Sum.inr z13) =>
        some (z13, r1.2)
    else
      D_X9_passes_23  r1.2
set_option maxRecDepth 100000 in
set_option maxHeartbeats 4000000 in
theorem lk_X9_passes {G : mG} {x0 : Nat} {x1 : Nat} {σ : mS} {R : (Int × mS)} (hD : D_X9_passes x0 x1 σ = some R) : Ev G M_X9_passes 0 [(0, vr x0), (1, vr x1)] [] σ (.inl (some (vi R.1))) R.2 := by
  unfold D_X9_passes at hD
  refine ev_aload_n dX9_passes_0 0 rfl rfl ?_
  obtain ⟨_, g0, hD⟩ := bd hD
  obtain ⟨r1, g, hD⟩ := bd hD
  refine ew_callVv (as := []) (a := x0) (rest := []) dX9_passes_1 v_X9_isWordHere w_1454 rfl (Nat.le_of_ble_eq_true rfl) rfl rfl g0 (Nat.le_of_ble_eq_true rfl) (Nat.le_of_ble_eq_true rfl) (ct_X9_isWordHere g) ?_
  by_cases c : r1.1 = 0
  · rw [if_pos c] at hD
    refine ev_if_eq_t (tgt := 23) dX9_passes_4 (by decide) c ?_
    refine Ev.pick [] rfl ?_
    exact lk_X9_passes_23 hD
  · rw [if_neg c] at hD
    refine ev_if_eq_f 23 dX9_passes_4 (by decide) c ?_
    refine ev_aload_n dX9_passes_7 0 rfl rfl ?_
    obtain ⟨_, g0, hD⟩ := bd hD
    obtain ⟨r2, g, hD⟩ := bd hD
    refine ew_callVv (as := []) (a := x0) (rest := []) dX9_passes_8 v_X9_ends w_1466 rfl (Nat.le_of_ble_eq_true rfl) rfl rfl g0 (Nat.le_of_ble_eq_true rfl) (Nat.le_of_ble_eq_true rfl) (ct_X9_ends g) ?_
    refine ev_aload_n dX9_passes_11 0 rfl rfl ?_
    obtain ⟨v3, g, hD⟩ := bd hD
    refine ew_getI 8 39 dX9_passes_12 rfl (Nat.le_of_ble_eq_true rfl) w_1304 in_X9 rfl g ?_
    refine ev_isub dX9_passes_15 ?_
    refine ev_aload_n dX9_passes_16 1 rfl rfl ?_
    obtain ⟨v4, g, hD⟩ := bd hD
    refine ew_slen dX9_passes_17 ml_X9_229 g (Nat.le_of_ble_eq_true rfl) (Nat.le_of_ble_eq_true rfl) (Nat.le_of_ble_eq_true rfl) ?_
    by_cases c : (mw (r2 - v3)) = v4
    · rw [if_pos c] at hD
      refine ev_icmp_eq_t (tgt := 25) dX9_passes_20 (by decide) c ?_
      refine ev_iconst dX9_passes_25 (mi_c rfl) ?_
      refine ev_istore_n dX9_passes_26 rfl (Nat.le_of_ble_eq_true rfl) rfl ?_
      obtain ⟨r5, g, hD⟩ := bd hD
      refine Ev.pick [1, 2, 0] rfl ?_
      rcases r5 with z6 | z13
      · refine lk_X9_passes_27 mFU g ⟨(fun _ hz => ?_), (fun _ hz => nomatch hz)⟩
        cases hz
        refine ev_aload_n dX9_passes_62 0 rfl rfl ?_
        refine ev_aload_n dX9_passes_63 0 rfl rfl ?_
        obtain ⟨v7, g, hD⟩ := bd hD
        refine ew_getI 8 39 dX9_passes_64 rfl (Nat.le_of_ble_eq_true rfl) w_1304 in_X9 rfl g ?_
        obtain ⟨s8, g, hD⟩ := bd hD
        refine ew_putI 8 40 dX9_passes_67 rfl (Nat.le_of_ble_eq_true rfl) w_1305 in_X9 tyX9_ok nmX9 (Or.inl rfl) rfl g ?_
        refine ev_aload_n dX9_passes_70 0 rfl rfl ?_
        refine ev_dup dX9_passes_71 rfl ?_
        obtain ⟨v9, g, hD⟩ := bd hD
        refine ew_getI 8 39 dX9_passes_72 rfl (Nat.le_of_ble_eq_true rfl) w_1304 in_X9 rfl g ?_
        refine ev_aload_n dX9_passes_75 1 rfl rfl ?_
        obtain ⟨v10, g, hD⟩ := bd hD
        refine ew_slen dX9_passes_76 ml_X9_229 g (Nat.le_of_ble_eq_true rfl) (Nat.le_of_ble_eq_true rfl) (Nat.le_of_ble_eq_true rfl) ?_
        refine ev_iadd dX9_passes_79 ?_
        obtain ⟨s11, g, hD⟩ := bd hD
        refine ew_putI 8 39 dX9_passes_80 rfl (Nat.le_of_ble_eq_true rfl) w_1304 in_X9 tyX9_ok nmX9 (Or.inl rfl) rfl g ?_
        refine ev_iconst dX9_passes_83 (mi_c rfl) ?_
        obtain ⟨v12, gb, hD⟩ := bd hD
        cases hD
        exact ew_retb dX9_passes_84 rfl gb
      · refine lk_X9_passes_27 mFU g ⟨(fun _ hz => nomatch hz), (fun _ hz => ?_)⟩
        cases hz
        cases hD
        exact ⟨rfl, rfl⟩
    · rw [if_neg c] at hD
      refine ev_icmp_eq_f 25 dX9_passes_20 (by decide) c ?_
      refine Ev.pick [] rfl ?_
      exact lk_X9_passes_23 hD
theorem ct_X9_passes {G : mG} {x0 : Nat} {x1 : Nat} {σ : mS} {R : (Int × mS)} (hD : D_X9_passes x0 x1 σ = some R) : Ct G M_X9_passes [vr x0, vr x1] σ (.inl (some (vi R.1))) R.2 := ct_of rfl (by decide +kernel) rfl (Nat.le_of_ble_eq_true rfl) rfl (lk_X9_passes hD)
def D_X9_must_30 (σ : mS) : Option mS :=
  some σ
set_option maxRecDepth 100000 in
set_option maxHeartbeats 4000000 in
theorem lk_X9_must_30 {G : mG} {σ : mS} {R : mS} (hD : D_X9_must_30  σ = some R) : Ev G M_X9_must 30 [] [] σ (.inl none) R := by
  unfold D_X9_must_30 at hD
  cases hD
  exact ev_ret none dX9_must_30 True.intro
def D_X9_must (x0 : Nat) (x1 : Int) (σ : mS) : Option mS :=
  (tgO σ x0 8).bind fun _ =>
  (D_X9_isSign x0 x1 σ).bind fun r1 =>
  if r1.1 = 0 then
    (gI r1.2 x0 8 39).bind fun v2 =>
    (tgO r1.2 x0 8).bind fun _ =>
    (D_X9_wrong x0 1 v2 r1.2).bind fun r3 =>
    D_X9_must_30  r3
  else
    (gI r1.2 x0 8 39).bind fun v4 =>
    (pI r1.2 x0 8 39 (mw (v4 + 1))).bind fun s5 =>
    D_X9_must_30  s5
set_option maxRecDepth 100000 in
set_option maxHeartbeats 4000000 in
theorem lk_X9_must {G : mG} {x0 : Nat} {x1 : Int} {σ : mS} {R : mS} (hD : D_X9_must x0 x1 σ = some R) : Ev G M_X9_must 0 [(0, vr x0), (1, vi x1)] [] σ (.inl none) R := by
  unfold D_X9_must at hD
  refine ev_aload_n dX9_must_0 0 rfl rfl ?_
  refine ev_iload_n dX9_must_1 1 rfl rfl ?_
  obtain ⟨_, g0, hD⟩ := bd hD
  obtain ⟨r1, g, hD⟩ := bd hD
  refine ew_callVv (as := [vi x1]) (a := x0) (rest := []) dX9_must_2 v_X9_isSign w_1490 rfl (Nat.le_of_ble_eq_true rfl) rfl rfl g0 (Nat.le_of_ble_eq_true rfl) (Nat.le_of_ble_eq_true rfl) (ct_X9_isSign g) ?_
  by_cases c : r1.1 = 0
  · rw [if_pos c] at hD
    refine ev_if_eq_t (tgt := 21) dX9_must_5 (by decide) c ?_
    refine ev_aload_n dX9_must_21 0 rfl rfl ?_
    refine ev_iconst dX9_must_22 (mi_c rfl) ?_
    refine ev_aload_n dX9_must_23 0 rfl rfl ?_
    obtain ⟨v2, g, hD⟩ := bd hD
    refine ew_getI 8 39 dX9_must_24 rfl (Nat.le_of_ble_eq_true rfl) w_1304 in_X9 rfl g ?_
    obtain ⟨_, g0, hD⟩ := bd hD
    obtain ⟨r3, g, hD⟩ := bd hD
    refine ew_callV0 (as := [vi 1, vi v2]) (a := x0) (rest := []) dX9_must_27 v_X9_wrong w_1472 rfl (Nat.le_of_ble_eq_true rfl) rfl rfl g0 (Nat.le_of_ble_eq_true rfl) (Nat.le_of_ble_eq_true rfl) (ct_X9_wrong g) ?_
    refine Ev.pick [] rfl ?_
    exact lk_X9_must_30 hD
  · rw [if_neg c] at hD
    refine ev_if_eq_f 21 dX9_must_5 (by decide) c ?_
    refine ev_aload_n dX9_must_8 0 rfl rfl ?_
    refine ev_dup dX9_must_9 rfl ?_
    obtain ⟨v4, g, hD⟩ := bd hD
    refine ew_getI 8 39 dX9_must_10 rfl (Nat.le_of_ble_eq_true rfl) w_1304 in_X9 rfl g ?_
    refine ev_iconst dX9_must_13 (mi_c rfl) ?_
    refine ev_iadd dX9_must_14 ?_
    obtain ⟨s5, g, hD⟩ := bd hD
    refine ew_putI 8 39 dX9_must_15 rfl (Nat.le_of_ble_eq_true rfl) w_1304 in_X9 tyX9_ok nmX9 (Or.inl rfl) rfl g ?_
    refine ev_goto (tgt := 30) dX9_must_18 (by decide) ?_
    refine Ev.pick [] rfl ?_
    exact lk_X9_must_30 hD
theorem ct_X9_must {G : mG} {x0 : Nat} {x1 : Int} {σ : mS} {R : mS} (hD : D_X9_must x0 x1 σ = some R) : Ct G M_X9_must [vr x0, vi x1] σ (.inl none) R := ct_of rfl (by decide +kernel) rfl (Nat.le_of_ble_eq_true rfl) rfl (lk_X9_must hD)
def D_X9_number_31 : Nat → Nat → Int → mS → Option (Int × mS)
  | 0, _, _, _ => none
  | f + 1, x0, x4, σ =>
    (gI σ x0 8 39).bind fun v1 =>
    (gI σ x0 8 38).bind fun v2 =>
    if v2 ≤ v1 then
      some (x4, σ)
    else
      (gR σ x0 8 30).bind fun v3 =>
      (gI σ x0 8 39).bind fun v4 =>
      (lB σ v3 v4).bind fun v5 =>
      if v5 < 48 then
        some (x4, σ)
      else
        (gR σ x0 8 30).bind fun v6 =>
        (gI σ x0 8 39).bind fun v7 =>
        (lB σ v6 v7).bind fun v8 =>
        if 57 < v8 then
          some (x4, σ)
        else
          (gR σ x0 8 30).bind fun v9 =>
          (gI σ x0 8 39).bind fun v10 =>
          (lB σ v9 v10).bind fun v11 =>
          (gI σ x0 8 39).bind fun v12 =>
          (pI σ x0 8 39 (mw (v12 + 1))).bind fun s13 =>
          (D_X9_number_31 f) x0 (if 1000000 < (mw ((mw ((mw (10 * x4)) + v11)) - 48)) then 1000000 else (mw ((mw ((mw (10 * x4)) + v11)) - 48))) s13
set_option maxRecDepth 100000 in
set_option maxHeartbeats 4000000 in
theorem lk_X9_number_31 {G : mG} {x1 : Int} {x2 : Int} {x3 : Int} (f : Nat) : ∀ {x0 : Nat} {x4 : Int} {σ : mS} {R : (Int × mS)}, D_X9_number_31 f x0 x4 σ = some R → ∀ {r : mX} {τ : mS}, Ev G M_X9_number 108 [(0, vr x0), (1, vi x1), (2, vi x2), (3, vi x3), (4, vi (R.1))] [] R.2 r τ → Ev G M_X9_number 31 [(0, vr x0), (1, vi x1), (2, vi x2), (3, vi x3), (4, vi x4)] [] σ r τ := by
  induction f with
  | zero =>
    intros
    rename_i hD _ _ _
    cases hD
  | succ f ih =>
    intro x0 x4 σ R hD r τ hk
    have hrec := @ih
    rw [D_X9_number_31] at hD
    refine ev_aload_n dX9_number_31 0 rfl rfl ?_
    obtain ⟨v1, g, hD⟩ := bd hD
    refine ew_getI 8 39 dX9_number_32 rfl (Nat.le_of_ble_eq_true rfl) w_1304 in_X9 rfl g ?_
    refine ev_aload_n dX9_number_35 0 rfl rfl ?_
    obtain ⟨v2, g, hD⟩ := bd hD
    refine ew_getI 8 38 dX9_number_36 rfl (Nat.le_of_ble_eq_true rfl) w_1303 in_X9 rfl g ?_
    by_cases c : v2 ≤ v1
    · rw [if_pos c] at hD
      refine ev_icmp_ge_t (tgt := 108) dX9_number_39 (by decide) c ?_
      cases hD
      exact hk
    · rw [if_neg c] at hD
      refine ev_icmp_ge_f 108 dX9_number_39 (by decide) c ?_
      refine ev_aload_n dX9_number_42 0 rfl rfl ?_
      obtain ⟨v3, g, hD⟩ := bd hD
      refine ew_getR 8 30 dX9_number_43 rfl (Nat.le_of_ble_eq_true rfl) w_1295 in_X9 rfl g ?_
      refine ev_aload_n dX9_number_46 0 rfl rfl ?_
      obtain ⟨v4, g, hD⟩ := bd hD
      refine ew_getI 8 39 dX9_number_47 rfl (Nat.le_of_ble_eq_true rfl) w_1304 in_X9 rfl g ?_
      obtain ⟨v5, g, hD⟩ := bd hD
      refine ew_bald dX9_number_50 g ?_
      refine ev_bp dX9_number_51 rfl ?_
      by_cases c : v5 < 48
      · rw [if_pos c] at hD
        refine ev_icmp_lt_t (tgt := 108) dX9_number_53 (by decide) c ?_
        cases hD
        exact hk
      · rw [if_neg c] at hD
        refine ev_icmp_lt_f 108 dX9_number_53 (by decide) c ?_
        refine ev_aload_n dX9_number_56 0 rfl rfl ?_
        obtain ⟨v6, g, hD⟩ := bd hD
        refine ew_getR 8 30 dX9_number_57 rfl (Nat.le_of_ble_eq_true rfl) w_1295 in_X9 rfl g ?_
        refine ev_aload_n dX9_number_60 0 rfl rfl ?_
        obtain ⟨v7, g, hD⟩ := bd hD
        refine ew_getI 8 39 dX9_number_61 rfl (Nat.le_of_ble_eq_true rfl) w_1304 in_X9 rfl g ?_
        obtain ⟨v8, g, hD⟩ := bd hD
        refine ew_bald dX9_number_64 g ?_
        refine ev_bp dX9_number_65 rfl ?_
        by_cases c : 57 < v8
        · rw [if_pos c] at hD
          refine ev_icmp_gt_t (tgt := 108) dX9_number_67 (by decide) c ?_
          cases hD
          exact hk
        · rw [if_neg c] at hD
          refine ev_icmp_gt_f 108 dX9_number_67 (by decide) c ?_
          refine ev_bp dX9_number_70 rfl ?_
          refine ev_iload dX9_number_72 4 rfl ?_
          refine ev_imul dX9_number_74 ?_
          refine ev_aload_n dX9_number_75 0 rfl rfl ?_
          obtain ⟨v9, g, hD⟩ := bd hD
          refine ew_getR 8 30 dX9_number_76 rfl (Nat.le_of_ble_eq_true rfl) w_1295 in_X9 rfl g ?_
          refine ev_aload_n dX9_number_79 0 rfl rfl ?_
          obtain ⟨v10, g, hD⟩ := bd hD
          refine ew_getI 8 39 dX9_number_80 rfl (Nat.le_of_ble_eq_true rfl) w_1304 in_X9 rfl g ?_
          obtain ⟨v11, g, hD⟩ := bd hD
          refine ew_bald dX9_number_83 g ?_
          refine ev_iadd dX9_number_84 ?_
          refine ev_bp dX9_number_85 rfl ?_
          refine ev_isub dX9_number_87 ?_
          refine ev_ldc dX9_number_88 w_1488 (mi_c rfl) ?_
          refine ev_mmin dX9_number_90 w_1489 w_572 w_133 w_573 (Nat.le_of_ble_eq_true rfl) (Nat.le_of_ble_eq_true rfl) (Nat.le_of_ble_eq_true rfl) ?_
          refine ev_istore dX9_number_93 (Nat.le_of_ble_eq_true rfl) rfl ?_
          refine ev_aload_n dX9_number_95 1 rfl rfl ?_
          refine ev_dup dX9_number_96 rfl ?_
          obtain ⟨v12, g, hD⟩ := bd hD
          refine ew_getI 8 39 dX9_number_97 rfl (Nat.le_of_ble_eq_true rfl) w_1304 in_X9 rfl g ?_
          refine ev_iconst dX9_number_100 (mi_c rfl) ?_
          refine ev_iadd dX9_number_101 ?_
          obtain ⟨s13, g, hD⟩ := bd hD
          refine ew_putI 8 39 dX9_number_102 rfl (Nat.le_of_ble_eq_true rfl) w_1304 in_X9 tyX9_ok nmX9 (Or.inl rfl) rfl g ?_
          refine ev_goto (tgt := 31) dX9_number_105 (by decide) ?_
          refine Ev.pick [1, 2, 3, 4, 0] rfl ?_
          exact hrec hD hk
def D_X9_number_137 (y0 : Int) (σ : mS) : Option (Int × mS) :=
  some (y0, σ)
set_option maxRecDepth 100000 in
set_option maxHeartbeats 4000000 in
theorem lk_X9_number_137 {G : mG} {y0 : Int} {σ : mS} {R : (Int × mS)} (hD : D_X9_number_137 y0 σ = some R) : Ev G M_X9_number 137 [] [vi y0] σ (.inl (some (vi R.1))) R.2 := by
  unfold D_X9_number_137 at hD
  cases hD
  exact ev_ret (some (vi _)) dX9_number_137 True.intro
def D_X9_number_124 (x0 : Nat) (x1 : Int) (x4 : Int) (σ : mS) : Option (Int × mS) :=
  (gI σ x0 8 42).bind fun v1 =>
  if v1 ≠ 0 then
    D_X9_number_137 x1 σ
  else
    D_X9_number_137 x4 σ
set_option maxRecDepth 100000 in
set_option maxHeartbeats 4000000 in
theorem lk_X9_number_124 {G : mG} {x0 : Nat} {x1 : Int} {x4 : Int} {σ : mS} {R : (Int × mS)} (hD : D_X9_number_124 x0 x1 x4 σ = some R) : Ev G M_X9_number 124 [(0, vr x0), (1, vi x1), (4, vi x4)] [] σ (.inl (some (vi R.1))) R.2 := by
  unfold D_X9_number_124 at hD
  refine ev_aload_n dX9_number_124 0 rfl rfl ?_
  obtain ⟨v1, g, hD⟩ := bd hD
  refine ew_getI 8 42 dX9_number_125 rfl (Nat.le_of_ble_eq_true rfl) w_1307 in_X9 rfl g ?_
  by_cases c : v1 ≠ 0
  · rw [if_pos c] at hD
    refine ev_if_ne_t (tgt := 136) dX9_number_128 (by decide) c ?_
    refine ev_iload_n dX9_number_136 1 rfl rfl ?_
    refine Ev.pick [] rfl ?_
    exact lk_X9_number_137 hD
  · rw [if_neg c] at hD
    refine ev_if_ne_f 136 dX9_number_128 (by decide) c ?_
    refine ev_iload dX9_number_131 2 rfl ?_
    refine ev_goto (tgt := 137) dX9_number_133 (by decide) ?_
    refine Ev.pick [] rfl ?_
    exact lk_X9_number_137 hD
def D_X9_number_108 (x0 : Nat) (x1 : Int) (x2 : Int) (x3 : Int) (x4 : Int) (σ : mS) : Option (Int × mS) :=
  (D_X9_within x4 x1 x2 σ).bind fun r1 =>
  if r1 ≠ 0 then
    D_X9_number_124 x0 x1 x4 σ
  else
    (tgO σ x0 8).bind fun _ =>
    (D_X9_wrong x0 2 x3 σ).bind fun r2 =>
    D_X9_number_124 x0 x1 x4 r2
set_option maxRecDepth 100000 in
set_option maxHeartbeats 4000000 in
theorem lk_X9_number_108 {G : mG} {x0 : Nat} {x1 : Int} {x2 : Int} {x3 : Int} {x4 : Int} {σ : mS} {R : (Int × mS)} (hD : D_X9_number_108 x0 x1 x2 x3 x4 σ = some R) : Ev G M_X9_number 108 [(0, vr x0), (1, vi x1), (2, vi x2), (3, vi x3), (4, vi x4)] [] σ (.inl (some (vi R.1))) R.2 := by
  unfold D_X9_number_108 at hD
  refine ev_iload dX9_number_108 4 rfl ?_
  refine ev_iload_n dX9_number_110 1 rfl rfl ?_
  refine ev_iload_n dX9_number_111 2 rfl rfl ?_
  obtain ⟨r1, g, hD⟩ := bd hD
  refine ew_callSv (as := [vi x4, vi x1, vi x2]) (rest := []) dX9_number_112 v_X9_within w_1438 rfl (Nat.le_of_ble_eq_true rfl) (Nat.le_of_ble_eq_true rfl) (Nat.le_of_ble_eq_true rfl) (ct_X9_within g) ?_
  by_cases c : r1 ≠ 0
  · rw [if_pos c] at hD
    refine ev_if_ne_t (tgt := 124) dX9_number_115 (by decide) c ?_
    refine Ev.pick [0, 1, 4] rfl ?_
    exact lk_X9_number_124 hD
  · rw [if_neg c] at hD
    refine ev_if_ne_f 124 dX9_number_115 (by decide) c ?_
    refine ev_aload_n dX9_number_118 0 rfl rfl ?_
    refine ev_iconst dX9_number_119 (mi_c rfl) ?_
    refine ev_iload_n dX9_number_120 3 rfl rfl ?_
    obtain ⟨_, g0, hD⟩ := bd hD
    obtain ⟨r2, g, hD⟩ := bd hD
    refine ew_callV0 (as := [vi 2, vi x3]) (a := x0) (rest := []) dX9_number_121 v_X9_wrong w_1472 rfl (Nat.le_of_ble_eq_true rfl) rfl rfl g0 (Nat.le_of_ble_eq_true rfl) (Nat.le_of_ble_eq_true rfl) (ct_X9_wrong g) ?_
    refine Ev.pick [0, 1, 4] rfl ?_
    exact lk_X9_number_124 hD
def D_X9_number (x0 : Nat) (x1 : Int) (x2 : Int) (σ : mS) : Option (Int × mS) :=
  (tgO σ x0 8).bind fun _ =>
  (D_X9_isDigit x0 σ).bind fun r1 =>
  if r1.1 ≠ 0 then
    (gI r1.2 x0 8 39).bind fun v2 =>
    (D_X9_number_31 mFU x0 0 r1.2).bind fun r3 =>
    D_X9_number_108 x0 x1 x2 v2 r3.1 r3.2
  else
    (tgO r1.2 x0 8).bind fun _ =>
    (D_X9_sign x0 r1.2).bind fun r4 =>
    (gI r4.2 x0 8 39).bind fun v5 =>
    (tgO r4.2 x0 8).bind fun _ =>
    (D_X9_wrong x0 1 v5 r4.2).bind fun r6 =>
    some (x1, r6)
set_option maxRecDepth 100000 in
set_option maxHeartbeats 4000000 in
theorem lk_X9_number {G : mG} {x0 : Nat} {x1 : Int} {x2 : Int} {σ : mS} {R : (Int × mS)} (hD : D_X9_number x0 x1 x2 σ = some R) : Ev G M_X9_number 0 [(0, vr x0), (1, vi x1), (2, vi x2)] [] σ (.inl (some (vi R.1))) R.2 := by
  unfold D_X9_number at hD
  refine ev_aload_n dX9_number_0 0 rfl rfl ?_
  obtain ⟨_, g0, hD⟩ := bd hD
  obtain ⟨r1, g, hD⟩ := bd hD
  refine ew_callVv (as := []) (a := x0) (rest := []) dX9_number_1 v_X9_isDigit w_1484 rfl (Nat.le_of_ble_eq_true rfl) rfl rfl g0 (Nat.le_of_ble_eq_true rfl) (Nat.le_of_ble_eq_true rfl) (ct_X9_isDigit g) ?_
  by_cases c : r1.1 ≠ 0
  · rw [if_pos c] at hD
    refine ev_if_ne_t (tgt := 23) dX9_number_4 (by decide) c ?_
    refine ev_aload_n dX9_number_23 0 rfl rfl ?_
    obtain ⟨v2, g, hD⟩ := bd hD
    refine ew_getI 8 39 dX9_number_24 rfl (Nat.le_of_ble_eq_true rfl) w_1304 in_X9 rfl g ?_
    refine ev_istore_n dX9_number_27 rfl (Nat.le_of_ble_eq_true rfl) rfl ?_
    refine ev_iconst dX9_number_28 (mi_c rfl) ?_
    refine ev_istore dX9_number_29 (Nat.le_of_ble_eq_true rfl) rfl ?_
    obtain ⟨r3, g, hD⟩ := bd hD
    refine Ev.pick [2, 3, 4, 1, 0] rfl ?_
    refine lk_X9_number_31 mFU g ?_
    exact lk_X9_number_108 hD
  · rw [if_neg c] at hD
    refine ev_if_ne_f 23 dX9_number_4 (by decide) c ?_
    refine ev_aload_n dX9_number_7 0 rfl rfl ?_
    obtain ⟨_, g0, hD⟩ := bd hD
    obtain ⟨r4, g, hD⟩ := bd hD
    refine ew_callVv (as := []) (a := x0) (rest := []) dX9_number_8 v_X9_sign w_1458 rfl (Nat.le_of_ble_eq_true rfl) rfl rfl g0 (Nat.le_of_ble_eq_true rfl) (Nat.le_of_ble_eq_true rfl) (ct_X9_sign g) ?_
    refine ev_pop dX9_number_11 rfl ?_
    refine ev_aload_n dX9_number_12 0 rfl rfl ?_
    refine ev_iconst dX9_number_13 (mi_c rfl) ?_
    refine ev_aload_n dX9_number_14 0 rfl rfl ?_
    obtain ⟨v5, g, hD⟩ := bd hD
    refine ew_getI 8 39 dX9_number_15 rfl (Nat.le_of_ble_eq_true rfl) w_1304 in_X9 rfl g ?_
    obtain ⟨_, g0, hD⟩ := bd hD
    obtain ⟨r6, g, hD⟩ := bd hD
    refine ew_callV0 (as := [vi 1, vi v5]) (a := x0) (rest := []) dX9_number_18 v_X9_wrong w_1472 rfl (Nat.le_of_ble_eq_true rfl) rfl rfl g0 (Nat.le_of_ble_eq_true rfl) (Nat.le_of_ble_eq_true rfl) (ct_X9_wrong g) ?_
    refine ev_iload_n dX9_number_21 1 rfl rfl ?_
    cases hD
    exact ev_ret (some (vi _)) dX9_number_22 True.intro
theorem ct_X9_number {G : mG} {x0 : Nat} {x1 : Int} {x2 : Int} {σ : mS} {R : (Int × mS)} (hD : D_X9_number x0 x1 x2 σ = some R) : Ct G M_X9_number [vr x0, vi x1, vi x2] σ (.inl (some (vi R.1))) R.2 := ct_of rfl (by decide +kernel) rfl (Nat.le_of_ble_eq_true rfl) rfl (lk_X9_number hD)
def D_X9_isName_31 (rec : Nat → Int → Int → Int → Int → mS → Option (Unit ⊕ Int)) (x0 : Nat) (x1 : Int) (x2 : Int) (x3 : Int) (x4 : Int) (y0 : Int) (σ : mS) : Option (Unit ⊕ Int) :=
  (gR σ x0 8 31).bind fun v1 =>
  (lB σ v1 (mw ((mw (7 * x1)) + x4))).bind fun v2 =>
  if v2 = y0 then
    rec x0 x1 x2 x3 (mw (x4 + 1)) σ
  else
    (bO 0).bind fun v3 =>
    some (Sum.inr v3)
set_option maxRecDepth 100000 in
set_option maxHeartbeats 4000000 in
theorem lk_X9_isName_31 {G : mG} {rec : Nat → Int → Int → Int → Int → mS → Option (Unit ⊕ Int)} {x0 : Nat} {x1 : Int} {x2 : Int} {x3 : Int} {x4 : Int} {y0 : Int} {σ : mS} {R : (Unit ⊕ Int)} {r : mX} {τ : mS} (hD : D_X9_isName_31 rec x0 x1 x2 x3 x4 y0 σ = some R) (hrec : ∀ {x0 : Nat} {x1 : Int} {x2 : Int} {x3 : Int} {x4 : Int} {σ : mS} {R : (Unit ⊕ Int)}, rec x0 x1 x2 x3 x4 σ = some R → ∀ {r : mX} {τ : mS}, (∀ z, R = (Sum.inl z) → Ev G M_X9_isName 58 [] [] σ r τ) ∧ (∀ z, R = (Sum.inr z) → r = .inl (some (vi z)) ∧ τ = σ) → Ev G M_X9_isName 3 [(0, vr x0), (1, vi x1), (2, vi x2), (3, vi x3), (4, vi x4)] [] σ r τ) (hk : (∀ z, R = (Sum.inl z) → Ev G M_X9_isName 58 [] [] σ r τ) ∧ (∀ z, R = (Sum.inr z) → r = .inl (some (vi z)) ∧ τ = σ)) : Ev G M_X9_isName 31 [(0, vr x0), (1, vi x1), (2, vi x2), (3, vi x3), (4, vi x4)] [vi y0] σ r τ := by
  unfold D_X9_isName_31 at hD
  refine ev_istore dX9_isName_31 (Nat.le_of_ble_eq_true rfl) rfl ?_
  refine ev_aload_n dX9_isName_33 1 rfl rfl ?_
  obtain ⟨v1, g, hD⟩ := bd hD
  refine ew_getR 8 31 dX9_isName_34 rfl (Nat.le_of_ble_eq_true rfl) w_1296 in_X9 rfl g ?_
  refine ev_bp dX9_isName_37 rfl ?_
  refine ev_iload_n dX9_isName_39 2 rfl rfl ?_
  refine ev_imul dX9_isName_40 ?_
  refine ev_iload dX9_isName_41 5 rfl ?_
  refine ev_iadd dX9_isName_43 ?_
  obtain ⟨v2, g, hD⟩ := bd hD
  refine ew_bald dX9_isName_44 g ?_
  refine ev_iload dX9_isName_45 0 rfl ?_
  by_cases c : v2 = y0
  · rw [if_pos c] at hD
    refine ev_icmp_eq_t (tgt := 52) dX9_isName_47 (by decide) c ?_
    refine ev_iinc dX9_isName_52 5 rfl (Nat.le_of_ble_eq_true rfl) rfl ?_
    refine ev_goto (tgt := 3) dX9_isName_55 (by decide) ?_
    refine Ev.pick [2, 3, 4, 5, 0] rfl ?_
    exact hrec hD hk
  · rw [if_neg c] at hD
    refine ev_icmp_eq_f 52 dX9_isName_47 (by decide) c ?_
    refine ev_iconst dX9_isName_50 (mi_c rfl) ?_
    obtain ⟨v3, gb, hD⟩ := bd hD
    cases hD
    obtain ⟨rfl, rfl⟩ := hk.2 _ rfl
    exact ew_retb dX9_isName_51 rfl gb
def D_X9_isName_3 : Nat → Nat → Int → Int → Int → Int → mS → Option (Unit ⊕ Int)
  | 0, _, _, _, _, _, _ => none
  | f + 1, x0, x1, x2, x3, x4, σ =>
    if 7 ≤ x4 then
      some (Sum.inl ())
    else
      if x3 ≤ (mw (x2 + x4)) then
        D_X9_isName_31 (D_X9_isName_3 f) x0 x1 x2 x3 x4 0 σ
      else
        (gR σ x0 8 30).bind fun v1 =>
        (lB σ v1 (mw (x2 + x4))).bind fun v2 =>
        D_X9_isName_31 (D_X9_isName_3 f) x0 x1 x2 x3 x4 v2 σ
set_option maxRecDepth 100000 in
set_option maxHeartbeats 4000000 in
theorem lk_X9_isName_3 {G : mG} (f : Nat) : ∀ {x0 : Nat} {x1 : Int} {x2 : Int} {x3 : Int} {x4 : Int} {σ : mS} {R : (Unit ⊕ Int)}, D_X9_isName_3 f x0 x1 x2 x3 x4 σ = some R → ∀ {r : mX} {τ : mS}, (∀ z, R = (Sum.inl z) → Ev G M_X9_isName 58 [] [] σ r τ) ∧ (∀ z, R = (Sum.inr z) → r = .inl (some (vi z)) ∧ τ = σ) → Ev G M_X9_isName 3 [(0, vr x0), (1, vi x1), (2, vi x2), (3, vi x3), (4, vi x4)] [] σ r τ := by
  induction f with
  | zero =>
    intros
    rename_i hD _ _ _
    cases hD
  | succ f ih =>
    intro x0 x1 x2 x3 x4 σ R hD r τ hk
    have hrec := @ih
    rw [D_X9_isName_3] at hD
    refine ev_iload dX9_isName_3 4 rfl ?_
    refine ev_bp dX9_isName_5 rfl ?_
    by_cases c : 7 ≤ x4
    · rw [if_pos c] at hD
      refine ev_icmp_ge_t (tgt := 58) dX9_isName_7 (by decide) c ?_
      cases hD
      refine Ev.pick [] rfl ?_
      exact hk.1 _ rfl
    · rw [if_neg c] at hD
      refine ev_icmp_ge_f 58 dX9_isName_7 (by decide) c ?_
      refine ev_iload_n dX9_isName_10 2 rfl rfl ?_
      refine ev_iload dX9_isName_11 4 rfl ?_
      refine ev_iadd dX9_isName_13 ?_
      refine ev_iload_n dX9_isName_14 3 rfl rfl ?_
      by_cases c : x3 ≤ (mw (x2 + x4))
      · rw [if_pos c] at hD
        refine ev_icmp_ge_t (tgt := 30) dX9_isName_15 (by decide) c ?_
        refine ev_iconst dX9_isName_30 (mi_c rfl) ?_
        exact lk_X9_isName_31 hD hrec hk
      · rw [if_neg c] at hD
        refine ev_icmp_ge_f 30 dX9_isName_15 (by decide) c ?_
        refine ev_aload_n dX9_isName_18 0 rfl rfl ?_
        obtain ⟨v1, g, hD⟩ := bd hD
        refine ew_getR 8 30 dX9_isName_19 rfl (Nat.le_of_ble_eq_true rfl) w_1295 in_X9 rfl g ?_
        refine ev_iload_n dX9_isName_22 2 rfl rfl ?_
        refine ev_iload dX9_isName_23 4 rfl ?_
        refine ev_iadd dX9_isName_25 ?_
        obtain ⟨v2, g, hD⟩ := bd hD
        refine ew_bald dX9_isName_26 g ?_
        refine ev_goto (tgt := 31) dX9_isName_27 (by decide) ?_
        exact lk_X9_isName_31 hD hrec hk
def D_X9_isName (x0 : Nat) (x1 : Int) (x2 : Int) (x3 : Int) (σ : mS) : Option Int :=
  (D_X9_isName_3 mFU x0 x1 x2 x3 0 σ).bind fun r1 =>
  match r1 with
  | (Sum.inl z2) =>
    (bO 1).bind fun v3 =>
    some v3
  | (Sum.inr z4) =>
    some z4
set_option maxRecDepth 100000 in
set_option maxHeartbeats 4000000 in
theorem lk_X9_isName {G : mG} {x0 : Nat} {x1 : Int} {x2 : Int} {x3 : Int} {σ : mS} {R : Int} (hD : D_X9_isName x0 x1 x2 x3 σ = some R) : Ev G M_X9_isName 0 [(0, vr x0), (1, vi x1), (2, vi x2), (3, vi x3)] [] σ (.inl (some (vi R))) σ := by
  unfold D_X9_isName at hD
  refine ev_iconst dX9_isName_0 (mi_c rfl) ?_
  refine ev_istore dX9_isName_1 (Nat.le_of_ble_eq_true rfl) rfl ?_
  obtain ⟨r1, g, hD⟩ := bd hD
  refine Ev.pick [1, 2, 3, 4, 0] rfl ?_
  rcases r1 with z2 | z4
  · refine lk_X9_isName_3 mFU g ⟨(fun _ hz => ?_), (fun _ hz => nomatch hz)⟩
    cases hz
    refine ev_iconst dX9_isName_58 (mi_c rfl) ?_
    obtain ⟨v3, gb, hD⟩ := bd hD
    cases hD
    exact ew_retb dX9_isName_59 rfl gb
  · refine lk_X9_isName_3 mFU g ⟨(fun _ hz => nomatch hz), (fun _ hz => ?_)⟩
    cases hz
    cases hD
    exact ⟨rfl, rfl⟩
theorem ct_X9_isName {G : mG} {x0 : Nat} {x1 : Int} {x2 : Int} {x3 : Int} {σ : mS} {R : Int} (hD : D_X9_isName x0 x1 x2 x3 σ = some R) : Ct G M_X9_isName [vr x0, vi x1, vi x2, vi x3] σ (.inl (some (vi R))) σ := ct_of rfl (by decide +kernel) rfl (Nat.le_of_ble_eq_true rfl) rfl (lk_X9_isName hD)
def D_X9_nameHere_59 (x0 : Nat) (x1 : Int) (σ : mS) : Option (Int × mS) :=
  (gI σ x0 8 41).bind fun v1 =>
  (pI σ x0 8 39 (mw (x1 + v1))).bind fun s2 =>
  some (x1, s2)
set_option maxRecDepth 100000 in
set_option maxHeartbeats 4000000 in
theorem lk_X9_nameHere_59 {G : mG} {x0 : Nat} {x1 : Int} {σ : mS} {R : (Int × mS)} (hD : D_X9_nameHere_59 x0 x1 σ = some R) : Ev G M_X9_nameHere 59 [(0, vr x0), (1, vi x1)] [] σ (.inl (some (vi R.1))) R.2 := by
  unfold D_X9_nameHere_59 at hD
  refine ev_aload_n dX9_nameHere_59 0 rfl rfl ?_
  refine ev_iload_n dX9_nameHere_60 1 rfl rfl ?_
  refine ev_aload_n dX9_nameHere_61 0 rfl rfl ?_
  obtain ⟨v1, g, hD⟩ := bd hD
  refine ew_getI 8 41 dX9_nameHere_62 rfl (Nat.le_of_ble_eq_true rfl) w_1306 in_X9 rfl g ?_
  refine ev_iadd dX9_nameHere_65 ?_
  obtain ⟨s2, g, hD⟩ := bd hD
  refine ew_putI 8 39 dX9_nameHere_66 rfl (Nat.le_of_ble_eq_true rfl) w_1304 in_X9 tyX9_ok nmX9 (Or.inl rfl) rfl g ?_
  refine ev_iload_n dX9_nameHere_69 1 rfl rfl ?_
  cases hD
  exact ev_ret (some (vi _)) dX9_nameHere_70 True.intro
def D_X9_nameHere (x0 : Nat) (σ : mS) : Option (Int × mS) :=
  (tgO σ x0 8).bind fun _ =>
  (D_X9_isWordHere x0 σ).bind fun r1 =>
  if r1.1 ≠ 0 then
    (gI r1.2 x0 8 39).bind fun v2 =>
    (tgO r1.2 x0 8).bind fun _ =>
    (D_X9_ends x0 r1.2).bind fun r3 =>
    (gI r1.2 x0 8 39).bind fun v4 =>
    (pI r1.2 x0 8 41 (mw (r3 - v4))).bind fun s5 =>
    (gI s5 x0 8 41).bind fun v6 =>
    if v6 ≤ 6 then
      D_X9_nameHere_59 x0 v2 s5
    else
      (tgO s5 x0 8).bind fun _ =>
      (D_X9_wrong x0 1 v2 s5).bind fun r7 =>
      D_X9_nameHere_59 x0 v2 r7
  else
    (tgO r1.2 x0 8).bind fun _ =>
    (D_X9_sign x0 r1.2).bind fun r8 =>
    (gI r8.2 x0 8 39).bind fun v9 =>
    (tgO r8.2 x0 8).bind fun _ =>
    (D_X9_wrong x0 1 v9 r8.2).bind fun r10 =>
    (gI r10 x0 8 39).bind fun v11 =>
    some (v11, r10)
set_option maxRecDepth 100000 in
set_option maxHeartbeats 4000000 in
theorem lk_X9_nameHere {G : mG} {x0 : Nat} {σ : mS} {R : (Int × mS)} (hD : D_X9_nameHere x0 σ = some R) : Ev G M_X9_nameHere 0 [(0, vr x0)] [] σ (.inl (some (vi R.1))) R.2 := by
  unfold D_X9_nameHere at hD
  refine ev_aload_n dX9_nameHere_0 0 rfl rfl ?_
  obtain ⟨_, g0, hD⟩ := bd hD
  obtain ⟨r1, g, hD⟩ := bd hD
  refine ew_callVv (as := []) (a := x0) (rest := []) dX9_nameHere_1 v_X9_isWordHere w_1454 rfl (Nat.le_of_ble_eq_true rfl) rfl rfl g0 (Nat.le_of_ble_eq_true rfl) (Nat.le_of_ble_eq_true rfl) (ct_X9_isWordHere g) ?_
  by_cases c : r1.1 ≠ 0
  · rw [if_pos c] at hD
    refine ev_if_ne_t (tgt := 26) dX9_nameHere_4 (by decide) c ?_
    refine ev_aload_n dX9_nameHere_26 0 rfl rfl ?_
    obtain ⟨v2, g, hD⟩ := bd hD
    refine ew_getI 8 39 dX9_nameHere_27 rfl (Nat.le_of_ble_eq_true rfl) w_1304 in_X9 rfl g ?_
    refine ev_istore_n dX9_nameHere_30 rfl (Nat.le_of_ble_eq_true rfl) rfl ?_
    refine ev_aload_n dX9_nameHere_31 1 rfl rfl ?_
    refine ev_aload_n dX9_nameHere_32 1 rfl rfl ?_
    obtain ⟨_, g0, hD⟩ := bd hD
    obtain ⟨r3, g, hD⟩ := bd hD
    refine ew_callVv (as := []) (a := x0) (rest := [vr x0]) dX9_nameHere_33 v_X9_ends w_1466 rfl (Nat.le_of_ble_eq_true rfl) rfl rfl g0 (Nat.le_of_ble_eq_true rfl) (Nat.le_of_ble_eq_true rfl) (ct_X9_ends g) ?_
    refine ev_aload_n dX9_nameHere_36 1 rfl rfl ?_
    obtain ⟨v4, g, hD⟩ := bd hD
    refine ew_getI 8 39 dX9_nameHere_37 rfl (Nat.le_of_ble_eq_true rfl) w_1304 in_X9 rfl g ?_
    refine ev_isub dX9_nameHere_40 ?_
    obtain ⟨s5, g, hD⟩ := bd hD
    refine ew_putI 8 41 dX9_nameHere_41 rfl (Nat.le_of_ble_eq_true rfl) w_1306 in_X9 tyX9_ok nmX9 (Or.inl rfl) rfl g ?_
    refine ev_aload_n dX9_nameHere_44 1 rfl rfl ?_
    obtain ⟨v6, g, hD⟩ := bd hD
    refine ew_getI 8 41 dX9_nameHere_45 rfl (Nat.le_of_ble_eq_true rfl) w_1306 in_X9 rfl g ?_
    refine ev_bp dX9_nameHere_48 rfl ?_
    by_cases c : v6 ≤ 6
    · rw [if_pos c] at hD
      refine ev_icmp_le_t (tgt := 59) dX9_nameHere_50 (by decide) c ?_
      refine Ev.pick [1, 0] rfl ?_
      exact lk_X9_nameHere_59 hD
    · rw [if_neg c] at hD
      refine ev_icmp_le_f 59 dX9_nameHere_50 (by decide) c ?_
      refine ev_aload_n dX9_nameHere_53 1 rfl rfl ?_
      refine ev_iconst dX9_nameHere_54 (mi_c rfl) ?_
      refine ev_iload_n dX9_nameHere_55 0 rfl rfl ?_
      obtain ⟨_, g0, hD⟩ := bd hD
      obtain ⟨r7, g, hD⟩ := bd hD
      refine ew_callV0 (as := [vi 1, vi v2]) (a := x0) (rest := []) dX9_nameHere_56 v_X9_wrong w_1472 rfl (Nat.le_of_ble_eq_true rfl) rfl rfl g0 (Nat.le_of_ble_eq_true rfl) (Nat.le_of_ble_eq_true rfl) (ct_X9_wrong g) ?_
      refine Ev.pick [1, 0] rfl ?_
      exact lk_X9_nameHere_59 hD
  · rw [if_neg c] at hD
    refine ev_if_ne_f 26 dX9_nameHere_4 (by decide) c ?_
    refine ev_aload_n dX9_nameHere_7 0 rfl rfl ?_
    obtain ⟨_, g0, hD⟩ := bd hD
    obtain ⟨r8, g, hD⟩ := bd hD
    refine ew_callVv (as := []) (a := x0) (rest := []) dX9_nameHere_8 v_X9_sign w_1458 rfl (Nat.le_of_ble_eq_true rfl) rfl rfl g0 (Nat.le_of_ble_eq_true rfl) (Nat.le_of_ble_eq_true rfl) (ct_X9_sign g) ?_
    refine ev_pop dX9_nameHere_11 rfl ?_
    refine ev_aload_n dX9_nameHere_12 0 rfl rfl ?_
    refine ev_iconst dX9_nameHere_13 (mi_c rfl) ?_
    refine ev_aload_n dX9_nameHere_14 0 rfl rfl ?_
    obtain ⟨v9, g, hD⟩ := bd hD
    refine ew_getI 8 39 dX9_nameHere_15 rfl (Nat.le_of_ble_eq_true rfl) w_1304 in_X9 rfl g ?_
    obtain ⟨_, g0, hD⟩ := bd hD
    obtain ⟨r10, g, hD⟩ := bd hD
    refine ew_callV0 (as := [vi 1, vi v9]) (a := x0) (rest := []) dX9_nameHere_18 v_X9_wrong w_1472 rfl (Nat.le_of_ble_eq_true rfl) rfl rfl g0 (Nat.le_of_ble_eq_true rfl) (Nat.le_of_ble_eq_true rfl) (ct_X9_wrong g) ?_
    refine ev_aload_n dX9_nameHere_21 0 rfl rfl ?_
    obtain ⟨v11, g, hD⟩ := bd hD
    refine ew_getI 8 39 dX9_nameHere_22 rfl (Nat.le_of_ble_eq_true rfl) w_1304 in_X9 rfl g ?_
    cases hD
    exact ev_ret (some (vi _)) dX9_nameHere_25 True.intro
theorem ct_X9_nameHere {G : mG} {x0 : Nat} {σ : mS} {R : (Int × mS)} (hD : D_X9_nameHere x0 σ = some R) : Ct G M_X9_nameHere [vr x0] σ (.inl (some (vi R.1))) R.2 := ct_of rfl (by decide +kernel) rfl (Nat.le_of_ble_eq_true rfl) rfl (lk_X9_nameHere hD)
def D_X9_isAlike_3 : Nat → Nat → Int → Int → Int → Int → mS → Option (Unit ⊕ Int)
  | 0, _, _, _, _, _, _ => none
  | f + 1, x0, x1, x2, x3, x4, σ =>
    if x3 ≤ x4 then
      some (Sum.inl ())
    else
      (gR σ x0 8 30).bind fun v1 =>
      (lB σ v1 (mw (x1 + x4))).bind fun v2 =>
      (gR σ x0 8 30).bind fun v3 =>
      (lB σ v3 (mw (x2 + x4))).bind fun v4 =>
      if v2 = v4 then
        (D_X9_isAlike_3 f) x0 x1 x2 x3 (mw (x4 + 1)) σ
      else
        (bO 0).bind fun v5 =>
        some (Sum.inr v5)
set_option maxRecDepth 100000 in
set_option maxHeartbeats 4000000 in
theorem lk_X9_isAlike_3 {G : mG} (f : Nat) : ∀ {x0 : Nat} {x1 : Int} {x2 : Int} {x3 : Int} {x4 : Int} {σ : mS} {R : (Unit ⊕ Int)}, D_X9_isAlike_3 f x0 x1 x2 x3 x4 σ = some R → ∀ {r : mX} {τ : mS}, (∀ z, R = (Sum.inl z) → Ev G M_X9_isAlike 38 [(0, vr x0), (1, vi x1), (2, vi x2), (3, vi x3)] [] σ r τ) ∧ (∀ z, R = (Sum.inr z) → r = .inl (some (vi z)) ∧ τ = σ) → Ev G M_X9_isAlike 3 [(0, vr x0), (1, vi x1), (2, vi x2), (3, vi x3), (4, vi x4)] [] σ r τ := by
  induction f with
  | zero =>
    intros
    rename_i hD _ _ _
    cases hD
  | succ f ih =>
    intro x0 x1 x2 x3 x4 σ R hD r τ hk
    have hrec := @ih
    rw [D_X9_isAlike_3] at hD
    refine ev_iload dX9_isAlike_3 4 rfl ?_
    refine ev_iload_n dX9_isAlike_5 3 rfl rfl ?_
    by_cases c : x3 ≤ x4
    · rw [if_pos c] at hD
      refine ev_icmp_ge_t (tgt := 38) dX9_isAlike_6 (by decide) c ?_
      cases hD
      refine Ev.pick [0, 1, 2, 3] rfl ?_
      exact hk.1 _ rfl
    · rw [if_neg c] at hD
      refine ev_icmp_ge_f 38 dX9_isAlike_6 (by decide) c ?_
      refine ev_aload_n dX9_isAlike_9 0 rfl rfl ?_
      obtain ⟨v1, g, hD⟩ := bd hD
      refine ew_getR 8 30 dX9_isAlike_10 rfl (Nat.le_of_ble_eq_true rfl) w_1295 in_X9 rfl g ?_
      refine ev_iload_n dX9_isAlike_13 1 rfl rfl ?_
      refine ev_iload dX9_isAlike_14 4 rfl ?_
      refine ev_iadd dX9_isAlike_16 ?_
      obtain ⟨v2, g, hD⟩ := bd hD
      refine ew_bald dX9_isAlike_17 g ?_
      refine ev_aload_n dX9_isAlike_18 0 rfl rfl ?_
      obtain ⟨v3, g, hD⟩ := bd hD
      refine ew_getR 8 30 dX9_isAlike_19 rfl (Nat.le_of_ble_eq_true rfl) w_1295 in_X9 rfl g ?_
      refine ev_iload_n dX9_isAlike_22 2 rfl rfl ?_
      refine ev_iload dX9_isAlike_23 4 rfl ?_
      refine ev_iadd dX9_isAlike_25 ?_
      obtain ⟨v4, g, hD⟩ := bd hD
      refine ew_bald dX9_isAlike_26 g ?_
      by_cases c : v2 = v4
      · rw [if_pos c] at hD
        refine ev_icmp_eq_t (tgt := 32) dX9_isAlike_27 (by decide) c ?_
        refine ev_iinc dX9_isAlike_32 4 rfl (Nat.le_of_ble_eq_true rfl) rfl ?_
        refine ev_goto (tgt := 3) dX9_isAlike_35 (by decide) ?_
        refine Ev.pick [1, 2, 3, 4, 0] rfl ?_
        exact hrec hD hk
      · rw [if_neg c] at hD
        refine ev_icmp_eq_f 32 dX9_isAlike_27 (by decide) c ?_
        refine ev_iconst dX9_isAlike_30 (mi_c rfl) ?_
        obtain ⟨v5, gb, hD⟩ := bd hD
        cases hD
        obtain ⟨rfl, rfl⟩ := hk.2 _ rfl
        exact ew_retb dX9_isAlike_31 rfl gb
def D_X9_isAlike_63 (y0 : Int) (σ : mS) : Option Int :=
  (bO y0).bind fun v1 =>
  some v1
set_option maxRecDepth 100000 in
set_option maxHeartbeats 4000000 in
theorem lk_X9_isAlike_63 {G : mG} {y0 : Int} {σ : mS} {R : Int} (hD : D_X9_isAlike_63 y0 σ = some R) : Ev G M_X9_isAlike 63 [] [vi y0] σ (.inl (some (vi R))) σ := by
  unfold D_X9_isAlike_63 at hD
  obtain ⟨v1, gb, hD⟩ := bd hD
  cases hD
  exact ew_retb dX9_isAlike_63 rfl gb
def D_X9_isAlike_62 (σ : mS) : Option Int :=
  D_X9_isAlike_63 0 σ
set_option maxRecDepth 100000 in
set_option maxHeartbeats 4000000 in
theorem lk_X9_isAlike_62 {G : mG} {σ : mS} {R : Int} (hD : D_X9_isAlike_62  σ = some R) : Ev G M_X9_isAlike 62 [] [] σ (.inl (some (vi R))) σ := by
  unfold D_X9_isAlike_62 at hD
  refine ev_iconst dX9_isAlike_62 (mi_c rfl) ?_
  exact lk_X9_isAlike_63 hD
def D_X9_isAlike (x0 : Nat) (x1 : Int) (x2 : Int) (x3 : Int) (σ : mS) : Option Int :=
  (D_X9_isAlike_3 mFU x0 x1 x2 x3 0 σ).bind fun r1 =>
  match r1 with
  | (Sum.inl z2) =>
    (tgO σ x0 8).bind fun _ =>
    (D_X9_isSmall x0 (mw (x1 + x3)) σ).bind fun r3 =>
    if r3 ≠ 0 then
      D_X9_isAlike_62  σ
    else
      (tgO σ x0 8).bind fun _ =>
      (D_X9_isSmall x0 (mw (x2 + x3)) σ).bind fun r4 =>
      if r4 ≠ 0 then
        D_X9_isAlike_62  σ
      else
        D_X9_isAlike_63 1 σ
  | (Sum.inr z5) =>
    some z5
set_option maxRecDepth 100000 in
set_option maxHeartbeats 4000000 in
theorem lk_X9_isAlike {G : mG} {x0 : Nat} {x1 : Int} {x2 : Int} {x3 : Int} {σ : mS} {R : Int} (hD : D_X9_isAlike x0 x1 x2 x3 σ = some R) : Ev G M_X9_isAlike 0 [(0, vr x0), (1, vi x1), (2, vi x2), (3, vi x3)] [] σ (.inl (some (vi R))) σ := by
  unfold D_X9_isAlike at hD
  refine ev_iconst dX9_isAlike_0 (mi_c rfl) ?_
  refine ev_istore dX9_isAlike_1 (Nat.le_of_ble_eq_true rfl) rfl ?_
  obtain ⟨r1, g, hD⟩ := bd hD
  refine Ev.pick [1, 2, 3, 4, 0] rfl ?_
  rcases r1 with z2 | z5
  · refine lk_X9_isAlike_3 mFU g ⟨(fun _ hz => ?_), (fun _ hz => nomatch hz)⟩
    cases hz
    refine ev_aload_n dX9_isAlike_38 0 rfl rfl ?_
    refine ev_iload_n dX9_isAlike_39 1 rfl rfl ?_
    refine ev_iload_n dX9_isAlike_40 3 rfl rfl ?_
    refine ev_iadd dX9_isAlike_41 ?_
    obtain ⟨_, g0, hD⟩ := bd hD
    obtain ⟨r3, g, hD⟩ := bd hD
    refine ew_callVv (as := [vi (mw (x1 + x3))]) (a := x0) (rest := []) dX9_isAlike_42 v_X9_isSmall w_1462 rfl (Nat.le_of_ble_eq_true rfl) rfl rfl g0 (Nat.le_of_ble_eq_true rfl) (Nat.le_of_ble_eq_true rfl) (ct_X9_isSmall g) ?_
    by_cases c : r3 ≠ 0
    · rw [if_pos c] at hD
      refine ev_if_ne_t (tgt := 62) dX9_isAlike_45 (by decide) c ?_
      refine Ev.pick [] rfl ?_
      exact lk_X9_isAlike_62 hD
    · rw [if_neg c] at hD
      refine ev_if_ne_f 62 dX9_isAlike_45 (by decide) c ?_
      refine ev_aload_n dX9_isAlike_48 0 rfl rfl ?_
      refine ev_iload_n dX9_isAlike_49 2 rfl rfl ?_
      refine ev_iload_n dX9_isAlike_50 3 rfl rfl ?_
      refine ev_iadd dX9_isAlike_51 ?_
      obtain ⟨_, g0, hD⟩ := bd hD
      obtain ⟨r4, g, hD⟩ := bd hD
      refine ew_callVv (as := [vi (mw (x2 + x3))]) (a := x0) (rest := []) dX9_isAlike_52 v_X9_isSmall w_1462 rfl (Nat.le_of_ble_eq_true rfl) rfl rfl g0 (Nat.le_of_ble_eq_true rfl) (Nat.le_of_ble_eq_true rfl) (ct_X9_isSmall g) ?_
      by_cases c : r4 ≠ 0
      · rw [if_pos c] at hD
        refine ev_if_ne_t (tgt := 62) dX9_isAlike_55 (by decide) c ?_
        refine Ev.pick [] rfl ?_
        exact lk_X9_isAlike_62 hD
      · rw [if_neg c] at hD
        refine ev_if_ne_f 62 dX9_isAlike_55 (by decide) c ?_
        refine ev_iconst dX9_isAlike_58 (mi_c rfl) ?_
        refine ev_goto (tgt := 63) dX9_isAlike_59 (by decide) ?_
        refine Ev.pick [] rfl ?_
        exact lk_X9_isAlike_63 hD
  · refine lk_X9_isAlike_3 mFU g ⟨(fun _ hz => nomatch hz), (fun _ hz => ?_)⟩
    cases hz
    cases hD
    exact ⟨rfl, rfl⟩
theorem ct_X9_isAlike {G : mG} {x0 : Nat} {x1 : Int} {x2 : Int} {x3 : Int} {σ : mS} {R : Int} (hD : D_X9_isAlike x0 x1 x2 x3 σ = some R) : Ct G M_X9_isAlike [vr x0, vi x1, vi x2, vi x3] σ (.inl (some (vi R))) σ := ct_of rfl (by decide +kernel) rfl (Nat.le_of_ble_eq_true rfl) rfl (lk_X9_isAlike hD)
def D_X9_isTwice_2 : Nat → Nat → Int → Int → mS → Option (Unit ⊕ Int)
  | 0, _, _, _, _ => none
  | f + 1, x0, x1, x2, σ =>
    (gI σ x0 8 48).bind fun v1 =>
    if v1 ≤ x2 then
      some (Sum.inl ())
    else
      (gR σ x0 8 36).bind fun v2 =>
      (lI σ v2 x2).bind fun v3 =>
      (gI σ x0 8 41).bind fun v4 =>
      (tgO σ x0 8).bind fun _ =>
      (D_X9_isAlike x0 v3 x1 v4 σ).bind fun r5 =>
      if r5 = 0 then
        (D_X9_isTwice_2 f) x0 x1 (mw (x2 + 1)) σ
      else
        (bO 1).bind fun v6 =>
        some (Sum.inr v6)
set_option maxRecDepth 100000 in
set_option maxHeartbeats 4000000 in
theorem lk_X9_isTwice_2 {G : mG} (f : Nat) : ∀ {x0 : Nat} {x1 : Int} {x2 : Int} {σ : mS} {R : (Unit ⊕ Int)}, D_X9_isTwice_2 f x0 x1 x2 σ = some R → ∀ {r : mX} {τ : mS}, (∀ z, R = (Sum.inl z) → Ev G M_X9_isTwice 36 [] [] σ r τ) ∧ (∀ z, R = (Sum.inr z) → r = .inl (some (vi z)) ∧ τ = σ) → Ev G M_X9_isTwice 2 [(0, vr x0), (1, vi x1), (2, vi x2)] [] σ r τ := by
  induction f with
  | zero =>
    intros
    rename_i hD _ _ _
    cases hD
  | succ f ih =>
    intro x0 x1 x2 σ R hD r τ hk
    have hrec := @ih
    rw [D_X9_isTwice_2] at hD
    refine ev_iload_n dX9_isTwice_2 2 rfl rfl ?_
    refine ev_aload_n dX9_isTwice_3 0 rfl rfl ?_
    obtain ⟨v1, g, hD⟩ := bd hD
    refine ew_getI 8 48 dX9_isTwice_4 rfl (Nat.le_of_ble_eq_true rfl) w_1313 in_X9 rfl g ?_
    by_cases c : v1 ≤ x2
    · rw [if_pos c] at hD
      refine ev_icmp_ge_t (tgt := 36) dX9_isTwice_7 (by decide) c ?_
      cases hD
      refine Ev.pick [] rfl ?_
      exact hk.1 _ rfl
    · rw [if_neg c] at hD
      refine ev_icmp_ge_f 36 dX9_isTwice_7 (by decide) c ?_
      refine ev_aload_n dX9_isTwice_10 0 rfl rfl ?_
      refine ev_aload_n dX9_isTwice_11 0 rfl rfl ?_
      obtain ⟨v2, g, hD⟩ := bd hD
      refine ew_getR 8 36 dX9_isTwice_12 rfl (Nat.le_of_ble_eq_true rfl) w_1301 in_X9 rfl g ?_
      refine ev_iload_n dX9_isTwice_15 2 rfl rfl ?_
      obtain ⟨v3, g, hD⟩ := bd hD
      refine ew_iald dX9_isTwice_16 g ?_
      refine ev_iload_n dX9_isTwice_17 1 rfl rfl ?_
      refine ev_aload_n dX9_isTwice_18 0 rfl rfl ?_
      obtain ⟨v4, g, hD⟩ := bd hD
      refine ew_getI 8 41 dX9_isTwice_19 rfl (Nat.le_of_ble_eq_true rfl) w_1306 in_X9 rfl g ?_
      obtain ⟨_, g0, hD⟩ := bd hD
      obtain ⟨r5, g, hD⟩ := bd hD
      refine ew_callVv (as := [vi v3, vi x1, vi v4]) (a := x0) (rest := []) dX9_isTwice_22 v_X9_isAlike w_1549 rfl (Nat.le_of_ble_eq_true rfl) rfl rfl g0 (Nat.le_of_ble_eq_true rfl) (Nat.le_of_ble_eq_true rfl) (ct_X9_isAlike g) ?_
      by_cases c : r5 = 0
      · rw [if_pos c] at hD
        refine ev_if_eq_t (tgt := 30) dX9_isTwice_25 (by decide) c ?_
        refine ev_iinc dX9_isTwice_30 2 rfl (Nat.le_of_ble_eq_true rfl) rfl ?_
        refine ev_goto (tgt := 2) dX9_isTwice_33 (by decide) ?_
        refine Ev.pick [1, 2, 0] rfl ?_
        exact hrec hD hk
      · rw [if_neg c] at hD
        refine ev_if_eq_f 30 dX9_isTwice_25 (by decide) c ?_
        refine ev_iconst dX9_isTwice_28 (mi_c rfl) ?_
        obtain ⟨v6, gb, hD⟩ := bd hD
        cases hD
        obtain ⟨rfl, rfl⟩ := hk.2 _ rfl
        exact ew_retb dX9_isTwice_29 rfl gb
def D_X9_isTwice (x0 : Nat) (x1 : Int) (σ : mS) : Option Int :=
  (D_X9_isTwice_2 mFU x0 x1 0 σ).bind fun r1 =>
  match r1 with
  | (Sum.inl z2) =>
    (bO 0).bind fun v3 =>
    some v3
  | (Sum.inr z4) =>
    some z4
set_option maxRecDepth 100000 in
set_option maxHeartbeats 4000000 in
theorem lk_X9_isTwice {G : mG} {x0 : Nat} {x1 : Int} {σ : mS} {R : Int} (hD : D_X9_isTwice x0 x1 σ = some R) : Ev G M_X9_isTwice 0 [(0, vr x0), (1, vi x1)] [] σ (.inl (some (vi R))) σ := by
  unfold D_X9_isTwice at hD
  refine ev_iconst dX9_isTwice_0 (mi_c rfl) ?_
  refine ev_istore_n dX9_isTwice_1 rfl (Nat.le_of_ble_eq_true rfl) rfl ?_
  obtain ⟨r1, g, hD⟩ := bd hD
  refine Ev.pick [1, 2, 0] rfl ?_
  rcases r1 with z2 | z4
  · refine lk_X9_isTwice_2 mFU g ⟨(fun _ hz => ?_), (fun _ hz => nomatch hz)⟩
    cases hz
    refine ev_iconst dX9_isTwice_36 (mi_c rfl) ?_
    obtain ⟨v3, gb, hD⟩ := bd hD
    cases hD
    exact ew_retb dX9_isTwice_37 rfl gb
  · refine lk_X9_isTwice_2 mFU g ⟨(fun _ hz => nomatch hz), (fun _ hz => ?_)⟩
    cases hz
    cases hD
    exact ⟨rfl, rfl⟩
theorem ct_X9_isTwice {G : mG} {x0 : Nat} {x1 : Int} {σ : mS} {R : Int} (hD : D_X9_isTwice x0 x1 σ = some R) : Ct G M_X9_isTwice [vr x0, vi x1] σ (.inl (some (vi R))) σ := ct_of rfl (by decide +kernel) rfl (Nat.le_of_ble_eq_true rfl) rfl (lk_X9_isTwice hD)
def D_X9_keeps_29 (σ : mS) : Option mS :=
  some σ
set_option maxRecDepth 100000 in
set_option maxHeartbeats 4000000 in
theorem lk_X9_keeps_29 {G : mG} {σ : mS} {R : mS} (hD : D_X9_keeps_29  σ = some R) : Ev G M_X9_keeps 29 [] [] σ (.inl none) R := by
  unfold D_X9_keeps_29 at hD
  cases hD
  exact ev_ret none dX9_keeps_29 True.intro
def D_X9_keeps (x0 : Nat) (x1 : Int) (σ : mS) : Option mS :=
  (gI σ x0 8 48).bind fun v1 =>
  if 8 ≤ v1 then
    D_X9_keeps_29  σ
  else
    (gR σ x0 8 36).bind fun v2 =>
    (gI σ x0 8 48).bind fun v3 =>
    (sI σ v2 v3 x1).bind fun s4 =>
    (gI s4 x0 8 48).bind fun v5 =>
    (pI s4 x0 8 48 (mw (v5 + 1))).bind fun s6 =>
    D_X9_keeps_29  s6
set_option maxRecDepth 100000 in
set_option maxHeartbeats 4000000 in
theorem lk_X9_keeps {G : mG} {x0 : Nat} {x1 : Int} {σ : mS} {R : mS} (hD : D_X9_keeps x0 x1 σ = some R) : Ev G M_X9_keeps 0 [(0, vr x0), (1, vi x1)] [] σ (.inl none) R := by
  unfold D_X9_keeps at hD
  refine ev_aload_n dX9_keeps_0 0 rfl rfl ?_
  obtain ⟨v1, g, hD⟩ := bd hD
  refine ew_getI 8 48 dX9_keeps_1 rfl (Nat.le_of_ble_eq_true rfl) w_1313 in_X9 rfl g ?_
  refine ev_bp dX9_keeps_4 rfl ?_
  by_cases c : 8 ≤ v1
  · rw [if_pos c] at hD
    refine ev_icmp_ge_t (tgt := 29) dX9_keeps_6 (by decide) c ?_
    refine Ev.pick [] rfl ?_
    exact lk_X9_keeps_29 hD
  · rw [if_neg c] at hD
    refine ev_icmp_ge_f 29 dX9_keeps_6 (by decide) c ?_
    refine ev_aload_n dX9_keeps_9 0 rfl rfl ?_
    obtain ⟨v2, g, hD⟩ := bd hD
    refine ew_getR 8 36 dX9_keeps_10 rfl (Nat.le_of_ble_eq_true rfl) w_1301 in_X9 rfl g ?_
    refine ev_aload_n dX9_keeps_13 0 rfl rfl ?_
    obtain ⟨v3, g, hD⟩ := bd hD
    refine ew_getI 8 48 dX9_keeps_14 rfl (Nat.le_of_ble_eq_true rfl) w_1313 in_X9 rfl g ?_
    refine ev_iload_n dX9_keeps_17 1 rfl rfl ?_
    obtain ⟨s4, g, hD⟩ := bd hD
    refine ew_iast dX9_keeps_18 g ?_
    refine ev_aload_n dX9_keeps_19 0 rfl rfl ?_
    refine ev_dup dX9_keeps_20 rfl ?_
    obtain ⟨v5, g, hD⟩ := bd hD
    refine ew_getI 8 48 dX9_keeps_21 rfl (Nat.le_of_ble_eq_true rfl) w_1313 in_X9 rfl g ?_
    refine ev_iconst dX9_keeps_24 (mi_c rfl) ?_
    refine ev_iadd dX9_keeps_25 ?_
    obtain ⟨s6, g, hD⟩ := bd hD
    refine ew_putI 8 48 dX9_keeps_26 rfl (Nat.le_of_ble_eq_true rfl) w_1313 in_X9 tyX9_ok nmX9 (Or.inl rfl) rfl g ?_
    refine Ev.pick [] rfl ?_
    exact lk_X9_keeps_29 hD
theorem ct_X9_keeps {G : mG} {x0 : Nat} {x1 : Int} {σ : mS} {R : mS} (hD : D_X9_keeps x0 x1 σ = some R) : Ct G M_X9_keeps [vr x0, vi x1] σ (.inl none) R := ct_of rfl (by decide +kernel) rfl (Nat.le_of_ble_eq_true rfl) rfl (lk_X9_keeps hD)
def D_X9_fresh_86 (rec : Nat → Int → Int → mS → Option mS) (x0 : Nat) (x2 : Int) (x3 : Int) (σ : mS) : Option mS :=
  rec x0 x2 (mw (x3 + 1)) σ
set_option maxRecDepth 100000 in
set_option maxHeartbeats 4000000 in
theorem lk_X9_fresh_86 {G : mG} {rec : Nat → Int → Int → mS → Option mS} {x0 : Nat} {x1 : Int} {x2 : Int} {x3 : Int} {σ : mS} {R : mS} {r : mX} {τ : mS} (hD : D_X9_fresh_86 rec x0 x2 x3 σ = some R) (hrec : ∀ {x0 : Nat} {x2 : Int} {x3 : Int} {σ : mS} {R : mS}, rec x0 x2 x3 σ = some R → ∀ {r : mX} {τ : mS}, Ev G M_X9_fresh 92 [(0, vr x0), (1, vi x1), (2, vi x2)] [] R r τ → Ev G M_X9_fresh 7 [(0, vr x0), (1, vi x1), (2, vi x2), (3, vi x3)] [] σ r τ) (hk : Ev G M_X9_fresh 92 [(0, vr x0), (1, vi x1), (2, vi x2)] [] R r τ) : Ev G M_X9_fresh 86 [(0, vr x0), (1, vi x1), (2, vi x2), (3, vi x3)] [] σ r τ := by
  unfold D_X9_fresh_86 at hD
  refine ev_iinc dX9_fresh_86 3 rfl (Nat.le_of_ble_eq_true rfl) rfl ?_
  refine ev_goto (tgt := 7) dX9_fresh_89 (by decide) ?_
  refine Ev.pick [1, 2, 3, 0] rfl ?_
  exact hrec hD hk
def D_X9_fresh_58 (rec : Nat → Int → Int → mS → Option mS) (x0 : Nat) (x2 : Int) (x3 : Int) (y0 : Int) (σ : mS) : Option mS :=
  if y0 = 0 then
    D_X9_fresh_86 rec x0 x2 x3 σ
  else
    (gI σ x0 8 41).bind fun v1 =>
    (tgO σ x0 8).bind fun _ =>
    (D_X9_isName x0 x3 x2 (mw (x2 + v1)) σ).bind fun r2 =>
    if r2 = 0 then
      D_X9_fresh_86 rec x0 x2 x3 σ
    else
      (tgO σ x0 8).bind fun _ =>
      (D_X9_wrong x0 4 x2 σ).bind fun r3 =>
      D_X9_fresh_86 rec x0 x2 x3 r3
set_option maxRecDepth 100000 in
set_option maxHeartbeats 4000000 in
theorem lk_X9_fresh_58 {G : mG} {rec : Nat → Int → Int → mS → Option mS} {x0 : Nat} {x1 : Int} {x2 : Int} {x3 : Int} {y0 : Int} {σ : mS} {R : mS} {r : mX} {τ : mS} (hD : D_X9_fresh_58 rec x0 x2 x3 y0 σ = some R) (hrec : ∀ {x0 : Nat} {x2 : Int} {x3 : Int} {σ : mS} {R : mS}, rec x0 x2 x3 σ = some R → ∀ {r : mX} {τ : mS}, Ev G M_X9_fresh 92 [(0, vr x0), (1, vi x1), (2, vi x2)] [] R r τ → Ev G M_X9_fresh 7 [(0, vr x0), (1, vi x1), (2, vi x2), (3, vi x3)] [] σ r τ) (hk : Ev G M_X9_fresh 92 [(0, vr x0), (1, vi x1), (2, vi x2)] [] R r τ) : Ev G M_X9_fresh 58 [(0, vr x0), (1, vi x1), (2, vi x2), (3, vi x3)] [vi y0] σ r τ := by
  unfold D_X9_fresh_58 at hD
  refine ev_istore dX9_fresh_58 (Nat.le_of_ble_eq_true rfl) rfl ?_
  refine ev_iload dX9_fresh_60 0 rfl ?_
  by_cases c : y0 = 0
  · rw [if_pos c] at hD
    refine ev_if_eq_t (tgt := 86) dX9_fresh_62 (by decide) c ?_
    refine Ev.pick [1, 2, 3, 4] rfl ?_
    exact lk_X9_fresh_86 hD hrec hk
  · rw [if_neg c] at hD
    refine ev_if_eq_f 86 dX9_fresh_62 (by decide) c ?_
    refine ev_aload_n dX9_fresh_65 1 rfl rfl ?_
    refine ev_iload_n dX9_fresh_66 4 rfl rfl ?_
    refine ev_iload_n dX9_fresh_67 3 rfl rfl ?_
    refine ev_iload_n dX9_fresh_68 3 rfl rfl ?_
    refine ev_aload_n dX9_fresh_69 1 rfl rfl ?_
    obtain ⟨v1, g, hD⟩ := bd hD
    refine ew_getI 8 41 dX9_fresh_70 rfl (Nat.le_of_ble_eq_true rfl) w_1306 in_X9 rfl g ?_
    refine ev_iadd dX9_fresh_73 ?_
    obtain ⟨_, g0, hD⟩ := bd hD
    obtain ⟨r2, g, hD⟩ := bd hD
    refine ew_callVv (as := [vi x3, vi x2, vi (mw (x2 + v1))]) (a := x0) (rest := []) dX9_fresh_74 v_X9_isName w_1515 rfl (Nat.le_of_ble_eq_true rfl) rfl rfl g0 (Nat.le_of_ble_eq_true rfl) (Nat.le_of_ble_eq_true rfl) (ct_X9_isName g) ?_
    by_cases c : r2 = 0
    · rw [if_pos c] at hD
      refine ev_if_eq_t (tgt := 86) dX9_fresh_77 (by decide) c ?_
      refine Ev.pick [1, 2, 3, 4] rfl ?_
      exact lk_X9_fresh_86 hD hrec hk
    · rw [if_neg c] at hD
      refine ev_if_eq_f 86 dX9_fresh_77 (by decide) c ?_
      refine ev_aload_n dX9_fresh_80 1 rfl rfl ?_
      refine ev_iconst dX9_fresh_81 (mi_c rfl) ?_
      refine ev_iload_n dX9_fresh_82 3 rfl rfl ?_
      obtain ⟨_, g0, hD⟩ := bd hD
      obtain ⟨r3, g, hD⟩ := bd hD
      refine ew_callV0 (as := [vi 4, vi x2]) (a := x0) (rest := []) dX9_fresh_83 v_X9_wrong w_1472 rfl (Nat.le_of_ble_eq_true rfl) rfl rfl g0 (Nat.le_of_ble_eq_true rfl) (Nat.le_of_ble_eq_true rfl) (ct_X9_wrong g) ?_
      refine Ev.pick [1, 2, 3, 4] rfl ?_
      exact lk_X9_fresh_86 hD hrec hk
def D_X9_fresh_7 : Nat → Nat → Int → Int → mS → Option mS
  | 0, _, _, _, _ => none
  | f + 1, x0, x2, x3, σ =>
    (gI σ x0 8 42).bind fun v1 =>
    if v1 ≠ 0 then
      some σ
    else
      if 16 ≤ x3 then
        some σ
      else
        if 12 ≤ x3 then
          (gI σ x0 8 46).bind fun v2 =>
          if v2 ≤ (mw (x3 - 12)) then
            D_X9_fresh_58 (D_X9_fresh_7 f) x0 x2 x3 0 σ
          else
            D_X9_fresh_58 (D_X9_fresh_7 f) x0 x2 x3 1 σ
        else
          (gI σ x0 8 45).bind fun v3 =>
          if v3 ≤ x3 then
            D_X9_fresh_58 (D_X9_fresh_7 f) x0 x2 x3 0 σ
          else
            D_X9_fresh_58 (D_X9_fresh_7 f) x0 x2 x3 1 σ
set_option maxRecDepth 100000 in
set_option maxHeartbeats 4000000 in
theorem lk_X9_fresh_7 {G : mG} {x1 : Int} (f : Nat) : ∀ {x0 : Nat} {x2 : Int} {x3 : Int} {σ : mS} {R : mS}, D_X9_fresh_7 f x0 x2 x3 σ = some R → ∀ {r : mX} {τ : mS}, Ev G M_X9_fresh 92 [(0, vr x0), (1, vi x1), (2, vi x2)] [] R r τ → Ev G M_X9_fresh 7 [(0, vr x0), (1, vi x1), (2, vi x2), (3, vi x3)] [] σ r τ := by
  induction f with
  | zero =>
    intros
    rename_i hD _ _ _
    cases hD
  | succ f ih =>
    intro x0 x2 x3 σ R hD r τ hk
    have hrec := @ih
    rw [D_X9_fresh_7] at hD
    refine ev_aload_n dX9_fresh_7 0 rfl rfl ?_
    obtain ⟨v1, g, hD⟩ := bd hD
    refine ew_getI 8 42 dX9_fresh_8 rfl (Nat.le_of_ble_eq_true rfl) w_1307 in_X9 rfl g ?_
    by_cases c : v1 ≠ 0
    · rw [if_pos c] at hD
      refine ev_if_ne_t (tgt := 92) dX9_fresh_11 (by decide) c ?_
      cases hD
      refine Ev.pick [0, 1, 2] rfl ?_
      exact hk
    · rw [if_neg c] at hD
      refine ev_if_ne_f 92 dX9_fresh_11 (by decide) c ?_
      refine ev_iload_n dX9_fresh_14 3 rfl rfl ?_
      refine ev_bp dX9_fresh_15 rfl ?_
      by_cases c : 16 ≤ x3
      · rw [if_pos c] at hD
        refine ev_icmp_ge_t (tgt := 92) dX9_fresh_17 (by decide) c ?_
        cases hD
        refine Ev.pick [0, 1, 2] rfl ?_
        exact hk
      · rw [if_neg c] at hD
        refine ev_icmp_ge_f 92 dX9_fresh_17 (by decide) c ?_
        refine ev_iload_n dX9_fresh_20 3 rfl rfl ?_
        refine ev_bp dX9_fresh_21 rfl ?_
        by_cases c : 12 ≤ x3
        · rw [if_pos c] at hD
          refine ev_icmp_ge_t (tgt := 42) dX9_fresh_23 (by decide) c ?_
          refine ev_iload_n dX9_fresh_42 3 rfl rfl ?_
          refine ev_bp dX9_fresh_43 rfl ?_
          refine ev_isub dX9_fresh_45 ?_
          refine ev_aload_n dX9_fresh_46 0 rfl rfl ?_
          obtain ⟨v2, g, hD⟩ := bd hD
          refine ew_getI 8 46 dX9_fresh_47 rfl (Nat.le_of_ble_eq_true rfl) w_1311 in_X9 rfl g ?_
          by_cases c : v2 ≤ (mw (x3 - 12))
          · rw [if_pos c] at hD
            refine ev_icmp_ge_t (tgt := 57) dX9_fresh_50 (by decide) c ?_
            refine ev_iconst dX9_fresh_57 (mi_c rfl) ?_
            exact lk_X9_fresh_58 hD hrec hk
          · rw [if_neg c] at hD
            refine ev_icmp_ge_f 57 dX9_fresh_50 (by decide) c ?_
            refine ev_iconst dX9_fresh_53 (mi_c rfl) ?_
            refine ev_goto (tgt := 58) dX9_fresh_54 (by decide) ?_
            exact lk_X9_fresh_58 hD hrec hk
        · rw [if_neg c] at hD
          refine ev_icmp_ge_f 42 dX9_fresh_23 (by decide) c ?_
          refine ev_iload_n dX9_fresh_26 3 rfl rfl ?_
          refine ev_aload_n dX9_fresh_27 0 rfl rfl ?_
          obtain ⟨v3, g, hD⟩ := bd hD
          refine ew_getI 8 45 dX9_fresh_28 rfl (Nat.le_of_ble_eq_true rfl) w_1310 in_X9 rfl g ?_
          by_cases c : v3 ≤ x3
          · rw [if_pos c] at hD
            refine ev_icmp_ge_t (tgt := 38) dX9_fresh_31 (by decide) c ?_
            refine ev_iconst dX9_fresh_38 (mi_c rfl) ?_
            refine ev_goto (tgt := 58) dX9_fresh_39 (by decide) ?_
            exact lk_X9_fresh_58 hD hrec hk
          · rw [if_neg c] at hD
            refine ev_icmp_ge_f 38 dX9_fresh_31 (by decide) c ?_
            refine ev_iconst dX9_fresh_34 (mi_c rfl) ?_
            refine ev_goto (tgt := 58) dX9_fresh_35 (by decide) ?_
            exact lk_X9_fresh_58 hD hrec hk
def D_X9_fresh_143 (rec : Nat → Int → Int → Int → mS → Option mS) (x0 : Nat) (x1 : Int) (x2 : Int) (x3 : Int) (y0 : Int) (y1 : Int) (y2 : Nat) (σ : mS) : Option mS :=
  (sB σ y2 y1 y0).bind fun s1 =>
  rec x0 x1 x2 (mw (x3 + 1)) s1
set_option maxRecDepth 100000 in
set_option maxHeartbeats 4000000 in
theorem lk_X9_fresh_143 {G : mG} {rec : Nat → Int → Int → Int → mS → Option mS} {x0 : Nat} {x1 : Int} {x2 : Int} {x3 : Int} {y0 : Int} {y1 : Int} {y2 : Nat} {σ : mS} {R : mS} {r : mX} {τ : mS} (hD : D_X9_fresh_143 rec x0 x1 x2 x3 y0 y1 y2 σ = some R) (hrec : ∀ {x0 : Nat} {x1 : Int} {x2 : Int} {x3 : Int} {σ : mS} {R : mS}, rec x0 x1 x2 x3 σ = some R → ∀ {r : mX} {τ : mS}, Ev G M_X9_fresh 150 [] [] R r τ → Ev G M_X9_fresh 107 [(0, vr x0), (1, vi x1), (2, vi x2), (3, vi x3)] [] σ r τ) (hk : Ev G M_X9_fresh 150 [] [] R r τ) : Ev G M_X9_fresh 143 [(0, vr x0), (1, vi x1), (2, vi x2), (3, vi x3)] [vi y0, vi y1, vr y2] σ r τ := by
  unfold D_X9_fresh_143 at hD
  obtain ⟨s1, g, hD⟩ := bd hD
  refine ew_bast dX9_fresh_143 g ?_
  refine ev_iinc dX9_fresh_144 3 rfl (Nat.le_of_ble_eq_true rfl) rfl ?_
  refine ev_goto (tgt := 107) dX9_fresh_147 (by decide) ?_
  refine Ev.pick [1, 2, 3, 0] rfl ?_
  exact hrec hD hk
def D_X9_fresh_107 : Nat → Nat → Int → Int → Int → mS → Option mS
  | 0, _, _, _, _, _ => none
  | f + 1, x0, x1, x2, x3, σ =>
    if 7 ≤ x3 then
      some σ
    else
      (gR σ x0 8 31).bind fun v1 =>
      (gI σ x0 8 41).bind fun v2 =>
      if v2 ≤ x3 then
        D_X9_fresh_143 (D_X9_fresh_107 f) x0 x1 x2 x3 0 (mw ((mw (7 * x1)) + x3)) v1 σ
      else
        (gR σ x0 8 30).bind fun v3 =>
        (lB σ v3 (mw (x2 + x3))).bind fun v4 =>
        D_X9_fresh_143 (D_X9_fresh_107 f) x0 x1 x2 x3 v4 (mw ((mw (7 * x1)) + x3)) v1 σ
set_option maxRecDepth 100000 in
set_option maxHeartbeats 4000000 in
theorem lk_X9_fresh_107 {G : mG} (f : Nat) : ∀ {x0 : Nat} {x1 : Int} {x2 : Int} {x3 : Int} {σ : mS} {R : mS}, D_X9_fresh_107 f x0 x1 x2 x3 σ = some R → ∀ {r : mX} {τ : mS}, Ev G M_X9_fresh 150 [] [] R r τ → Ev G M_X9_fresh 107 [(0, vr x0), (1, vi x1), (2, vi x2), (3, vi x3)] [] σ r τ := by
  induction f with
  | zero =>
    intros
    rename_i hD _ _ _
    cases hD
  | succ f ih =>
    intro x0 x1 x2 x3 σ R hD r τ hk
    have hrec := @ih
    rw [D_X9_fresh_107] at hD
    refine ev_iload_n dX9_fresh_107 3 rfl rfl ?_
    refine ev_bp dX9_fresh_108 rfl ?_
    by_cases c : 7 ≤ x3
    · rw [if_pos c] at hD
      refine ev_icmp_ge_t (tgt := 150) dX9_fresh_110 (by decide) c ?_
      cases hD
      refine Ev.pick [] rfl ?_
      exact hk
    · rw [if_neg c] at hD
      refine ev_icmp_ge_f 150 dX9_fresh_110 (by decide) c ?_
      refine ev_aload_n dX9_fresh_113 0 rfl rfl ?_
      obtain ⟨v1, g, hD⟩ := bd hD
      refine ew_getR 8 31 dX9_fresh_114 rfl (Nat.le_of_ble_eq_true rfl) w_1296 in_X9 rfl g ?_
      refine ev_bp dX9_fresh_117 rfl ?_
      refine ev_iload_n dX9_fresh_119 1 rfl rfl ?_
      refine ev_imul dX9_fresh_120 ?_
      refine ev_iload_n dX9_fresh_121 3 rfl rfl ?_
      refine ev_iadd dX9_fresh_122 ?_
      refine ev_iload_n dX9_fresh_123 3 rfl rfl ?_
      refine ev_aload_n dX9_fresh_124 0 rfl rfl ?_
      obtain ⟨v2, g, hD⟩ := bd hD
      refine ew_getI 8 41 dX9_fresh_125 rfl (Nat.le_of_ble_eq_true rfl) w_1306 in_X9 rfl g ?_
      by_cases c : v2 ≤ x3
      · rw [if_pos c] at hD
        refine ev_icmp_ge_t (tgt := 142) dX9_fresh_128 (by decide) c ?_
        refine ev_iconst dX9_fresh_142 (mi_c rfl) ?_
        exact lk_X9_fresh_143 hD hrec hk
      · rw [if_neg c] at hD
        refine ev_icmp_ge_f 142 dX9_fresh_128 (by decide) c ?_
        refine ev_aload_n dX9_fresh_131 0 rfl rfl ?_
        obtain ⟨v3, g, hD⟩ := bd hD
        refine ew_getR 8 30 dX9_fresh_132 rfl (Nat.le_of_ble_eq_true rfl) w_1295 in_X9 rfl g ?_
        refine ev_iload_n dX9_fresh_135 2 rfl rfl ?_
        refine ev_iload_n dX9_fresh_136 3 rfl rfl ?_
        refine ev_iadd dX9_fresh_137 ?_
        obtain ⟨v4, g, hD⟩ := bd hD
        refine ew_bald dX9_fresh_138 g ?_
        refine ev_goto (tgt := 143) dX9_fresh_139 (by decide) ?_
        exact lk_X9_fresh_143 hD hrec hk
def D_X9_fresh_92 (x0 : Nat) (x1 : Int) (x2 : Int) (σ : mS) : Option mS :=
  (gI σ x0 8 42).bind fun v1 =>
  if v1 ≤ 0 then
    (tgO σ x0 8).bind fun _ =>
    (D_X9_keeps x0 x2 σ).bind fun r2 =>
    (D_X9_fresh_107 mFU x0 x1 x2 0 r2).bind fun r3 =>
    some r3
  else
    some σ
set_option maxRecDepth 100000 in
set_option maxHeartbeats 4000000 in
theorem lk_X9_fresh_92 {G : mG} {x0 : Nat} {x1 : Int} {x2 : Int} {σ : mS} {R : mS} (hD : D_X9_fresh_92 x0 x1 x2 σ = some R) : Ev G M_X9_fresh 92 [(0, vr x0), (1, vi x1), (2, vi x2)] [] σ (.inl none) R := by
  unfold D_X9_fresh_92 at hD
  refine ev_aload_n dX9_fresh_92 0 rfl rfl ?_
  obtain ⟨v1, g, hD⟩ := bd hD
  refine ew_getI 8 42 dX9_fresh_93 rfl (Nat.le_of_ble_eq_true rfl) w_1307 in_X9 rfl g ?_
  by_cases c : v1 ≤ 0
  · rw [if_pos c] at hD
    refine ev_if_le_t (tgt := 100) dX9_fresh_96 (by decide) c ?_
    refine ev_aload_n dX9_fresh_100 0 rfl rfl ?_
    refine ev_iload_n dX9_fresh_101 2 rfl rfl ?_
    obtain ⟨_, g0, hD⟩ := bd hD
    obtain ⟨r2, g, hD⟩ := bd hD
    refine ew_callV0 (as := [vi x2]) (a := x0) (rest := []) dX9_fresh_102 v_X9_keeps w_1519 rfl (Nat.le_of_ble_eq_true rfl) rfl rfl g0 (Nat.le_of_ble_eq_true rfl) (Nat.le_of_ble_eq_true rfl) (ct_X9_keeps g) ?_
    refine ev_iconst dX9_fresh_105 (mi_c rfl) ?_
    refine ev_istore_n dX9_fresh_106 rfl (Nat.le_of_ble_eq_true rfl) rfl ?_
    obtain ⟨r3, g, hD⟩ := bd hD
    refine Ev.pick [1, 2, 3, 0] rfl ?_
    refine lk_X9_fresh_107 mFU g ?_
    cases hD
    exact ev_ret none dX9_fresh_150 True.intro
  · rw [if_neg c] at hD
    refine ev_if_le_f 100 dX9_fresh_96 (by decide) c ?_
    cases hD
    exact ev_ret none dX9_fresh_99 True.intro
def D_X9_fresh (x0 : Nat) (x1 : Int) (σ : mS) : Option mS :=
  (tgO σ x0 8).bind fun _ =>
  (D_X9_nameHere x0 σ).bind fun r1 =>
  (D_X9_fresh_7 mFU x0 r1.1 0 r1.2).bind fun r2 =>
  D_X9_fresh_92 x0 x1 r1.1 r2
set_option maxRecDepth 100000 in
set_option maxHeartbeats 4000000 in
theorem lk_X9_fresh {G : mG} {x0 : Nat} {x1 : Int} {σ : mS} {R : mS} (hD : D_X9_fresh x0 x1 σ = some R) : Ev G M_X9_fresh 0 [(0, vr x0), (1, vi x1)] [] σ (.inl none) R := by
  unfold D_X9_fresh at hD
  refine ev_aload_n dX9_fresh_0 0 rfl rfl ?_
  obtain ⟨_, g0, hD⟩ := bd hD
  obtain ⟨r1, g, hD⟩ := bd hD
  refine ew_callVv (as := []) (a := x0) (rest := []) dX9_fresh_1 v_X9_nameHere w_1511 rfl (Nat.le_of_ble_eq_true rfl) rfl rfl g0 (Nat.le_of_ble_eq_true rfl) (Nat.le_of_ble_eq_true rfl) (ct_X9_nameHere g) ?_
  refine ev_istore_n dX9_fresh_4 rfl (Nat.le_of_ble_eq_true rfl) rfl ?_
  refine ev_iconst dX9_fresh_5 (mi_c rfl) ?_
  refine ev_istore_n dX9_fresh_6 rfl (Nat.le_of_ble_eq_true rfl) rfl ?_
  obtain ⟨r2, g, hD⟩ := bd hD
  refine Ev.pick [2, 3, 1, 0] rfl ?_
  refine lk_X9_fresh_7 mFU g ?_
  exact lk_X9_fresh_92 hD
theorem ct_X9_fresh {G : mG} {x0 : Nat} {x1 : Int} {σ : mS} {R : mS} (hD : D_X9_fresh x0 x1 σ = some R) : Ct G M_X9_fresh [vr x0, vi x1] σ (.inl none) R := ct_of rfl (by decide +kernel) rfl (Nat.le_of_ble_eq_true rfl) rfl (lk_X9_fresh hD)
def D_X9_known_80 (rec : Nat → Int → Int → Int → Int → mS → Option (Unit ⊕ Int)) (x0 : Nat) (x1 : Int) (x2 : Int) (x3 : Int) (x4 : Int) (y0 : Int) (y1 : Nat) (σ : mS) : Option (Unit ⊕ Int) :=
  (gI σ x0 8 41).bind fun v1 =>
  (tgO σ y1 8).bind fun _ =>
  (D_X9_isName y1 y0 x2 (mw (x2 + v1)) σ).bind fun r2 =>
  if r2 = 0 then
    rec x0 x1 x2 x3 (mw (x4 + 1)) σ
  else
    some (Sum.inr x4)
set_option maxRecDepth 100000 in
set_option maxHeartbeats 4000000 in
theorem lk_X9_known_80 {G : mG} {rec : Nat → Int → Int → Int → Int → mS → Option (Unit ⊕ Int)} {x0 : Nat} {x1 : Int} {x2 : Int} {x3 : Int} {x4 : Int} {y0 : Int} {y1 : Nat} {σ : mS} {R : (Unit ⊕ Int)} {r : mX} {τ : mS} (hD : D_X9_known_80 rec x0 x1 x2 x3 x4 y0 y1 σ = some R) (hrec : ∀ {x0 : Nat} {x1 : Int} {x2 : Int} {x3 : Int} {x4 : Int} {σ : mS} {R : (Unit ⊕ Int)}, rec x0 x1 x2 x3 x4 σ = some R → ∀ {r : mX} {τ : mS}, (∀ z, R = (Sum.inl z) → Ev G M_X9_known 102 [(0, vr x0), (2, vi x2)] [] σ r τ) ∧ (∀ z, R = (Sum.inr z) → r = .inl (some (vi z)) ∧ τ = σ) → Ev G M_X9_known 59 [(0, vr x0), (1, vi x1), (2, vi x2), (3, vi x3), (4, vi x4)] [] σ r τ) (hk : (∀ z, R = (Sum.inl z) → Ev G M_X9_known 102 [(0, vr x0), (2, vi x2)] [] σ r τ) ∧ (∀ z, R = (Sum.inr z) → r = .inl (some (vi z)) ∧ τ = σ)) : Ev G M_X9_known 80 [(0, vr x0), (1, vi x1), (2, vi x2), (3, vi x3), (4, vi x4)] [vi y0, vr y1] σ r τ := by
  unfold D_X9_known_80 at hD
  refine ev_iload_n dX9_known_80 2 rfl rfl ?_
  refine ev_iload_n dX9_known_81 2 rfl rfl ?_
  refine ev_aload_n dX9_known_82 0 rfl rfl ?_
  obtain ⟨v1, g, hD⟩ := bd hD
  refine ew_getI 8 41 dX9_known_83 rfl (Nat.le_of_ble_eq_true rfl) w_1306 in_X9 rfl g ?_
  refine ev_iadd dX9_known_86 ?_
  obtain ⟨_, g0, hD⟩ := bd hD
  obtain ⟨r2, g, hD⟩ := bd hD
  refine ew_callVv (as := [vi y0, vi x2, vi (mw (x2 + v1))]) (a := y1) (rest := []) dX9_known_87 v_X9_isName w_1515 rfl (Nat.le_of_ble_eq_true rfl) rfl rfl g0 (Nat.le_of_ble_eq_true rfl) (Nat.le_of_ble_eq_true rfl) (ct_X9_isName g) ?_
  by_cases c : r2 = 0
  · rw [if_pos c] at hD
    refine ev_if_eq_t (tgt := 96) dX9_known_90 (by decide) c ?_
    refine ev_iinc dX9_known_96 4 rfl (Nat.le_of_ble_eq_true rfl) rfl ?_
    refine ev_goto (tgt := 59) dX9_known_99 (by decide) ?_
    refine Ev.pick [1, 2, 3, 4, 0] rfl ?_
    exact hrec hD hk
  · rw [if_neg c] at hD
    refine ev_if_eq_f 96 dX9_known_90 (by decide) c ?_
    refine ev_iload dX9_known_93 4 rfl ?_
    cases hD
    obtain ⟨rfl, rfl⟩ := hk.2 _ rfl
    exact ev_ret (some (vi _)) dX9_known_95 True.intro
def D_X9_known_59 : Nat → Nat → Int → Int → Int → Int → mS → Option (Unit ⊕ Int)
  | 0, _, _, _, _, _, _ => none
  | f + 1, x0, x1, x2, x3, x4, σ =>
    if x3 ≤ x4 then
      some (Sum.inl ())
    else
      if x1 = 0 then
        D_X9_known_80 (D_X9_known_59 f) x0 x1 x2 x3 x4 x4 x0 σ
      else
        D_X9_known_80 (D_X9_known_59 f) x0 x1 x2 x3 x4 (mw (12 + x4)) x0 σ
set_option maxRecDepth 100000 in
set_option maxHeartbeats 4000000 in
theorem lk_X9_known_59 {G : mG} (f : Nat) : ∀ {x0 : Nat} {x1 : Int} {x2 : Int} {x3 : Int} {x4 : Int} {σ : mS} {R : (Unit ⊕ Int)}, D_X9_known_59 f x0 x1 x2 x3 x4 σ = some R → ∀ {r : mX} {τ : mS}, (∀ z, R = (Sum.inl z) → Ev G M_X9_known 102 [(0, vr x0), (2, vi x2)] [] σ r τ) ∧ (∀ z, R = (Sum.inr z) → r = .inl (some (vi z)) ∧ τ = σ) → Ev G M_X9_known 59 [(0, vr x0), (1, vi x1), (2, vi x2), (3, vi x3), (4, vi x4)] [] σ r τ := by
  induction f with
  | zero =>
    intros
    rename_i hD _ _ _
    cases hD
  | succ f ih =>
    intro x0 x1 x2 x3 x4 σ R hD r τ hk
    have hrec := @ih
    rw [D_X9_known_59] at hD
    refine ev_iload dX9_known_59 4 rfl ?_
    refine ev_iload_n dX9_known_61 3 rfl rfl ?_
    by_cases c : x3 ≤ x4
    · rw [if_pos c] at hD
      refine ev_icmp_ge_t (tgt := 102) dX9_known_62 (by decide) c ?_
      cases hD
      refine Ev.pick [0, 2] rfl ?_
      exact hk.1 _ rfl
    · rw [if_neg c] at hD
      refine ev_icmp_ge_f 102 dX9_known_62 (by decide) c ?_
      refine ev_aload_n dX9_known_65 0 rfl rfl ?_
      refine ev_iload_n dX9_known_66 1 rfl rfl ?_
      by_cases c : x1 = 0
      · rw [if_pos c] at hD
        refine ev_if_eq_t (tgt := 78) dX9_known_67 (by decide) c ?_
        refine ev_iload dX9_known_78 4 rfl ?_
        exact lk_X9_known_80 hD hrec hk
      · rw [if_neg c] at hD
        refine ev_if_eq_f 78 dX9_known_67 (by decide) c ?_
        refine ev_bp dX9_known_70 rfl ?_
        refine ev_iload dX9_known_72 4 rfl ?_
        refine ev_iadd dX9_known_74 ?_
        refine ev_goto (tgt := 80) dX9_known_75 (by decide) ?_
        exact lk_X9_known_80 hD hrec hk
def D_X9_known_55 (x0 : Nat) (x1 : Int) (x2 : Int) (y0 : Int) (σ : mS) : Option (Int × mS) :=
  (D_X9_known_59 mFU x0 x1 x2 y0 0 σ).bind fun r1 =>
  match r1 with
  | (Sum.inl z2) =>
    (tgO σ x0 8).bind fun _ =>
    (D_X9_wrong x0 5 x2 σ).bind fun r3 =>
    some (0, r3)
  | (Sum.inr z4) =>
    some (z4, σ)
set_option maxRecDepth 100000 in
set_option maxHeartbeats 4000000 in
theorem lk_X9_known_55 {G : mG} {x0 : Nat} {x1 : Int} {x2 : Int} {y0 : Int} {σ : mS} {R : (Int × mS)} (hD : D_X9_known_55 x0 x1 x2 y0 σ = some R) : Ev G M_X9_known 55 [(0, vr x0), (1, vi x1), (2, vi x2)] [vi y0] σ (.inl (some (vi R.1))) R.2 := by
  unfold D_X9_known_55 at hD
  refine ev_istore_n dX9_known_55 rfl (Nat.le_of_ble_eq_true rfl) rfl ?_
  refine ev_iconst dX9_known_56 (mi_c rfl) ?_
  refine ev_istore dX9_known_57 (Nat.le_of_ble_eq_true rfl) rfl ?_
  obtain ⟨r1, g, hD⟩ := bd hD
  refine Ev.pick [2, 3, 4, 1, 0] rfl ?_
  rcases r1 with z2 | z4
  · refine lk_X9_known_59 mFU g ⟨(fun _ hz => ?_), (fun _ hz => nomatch hz)⟩
    cases hz
    refine ev_aload_n dX9_known_102 0 rfl rfl ?_
    refine ev_iconst dX9_known_103 (mi_c rfl) ?_
    refine ev_iload_n dX9_known_104 1 rfl rfl ?_
    obtain ⟨_, g0, hD⟩ := bd hD
    obtain ⟨r3, g, hD⟩ := bd hD
    refine ew_callV0 (as := [vi 5, vi x2]) (a := x0) (rest := []) dX9_known_105 v_X9_wrong w_1472 rfl (Nat.le_of_ble_eq_true rfl) rfl rfl g0 (Nat.le_of_ble_eq_true rfl) (Nat.le_of_ble_eq_true rfl) (ct_X9_wrong g) ?_
    refine ev_iconst dX9_known_108 (mi_c rfl) ?_
    cases hD
    exact ev_ret (some (vi _)) dX9_known_109 True.intro
  · refine lk_X9_known_59 mFU g ⟨(fun _ hz => nomatch hz), (fun _ hz => ?_)⟩
    cases hz
    cases hD
    exact ⟨rfl, rfl⟩
def D_X9_known_26 (x0 : Nat) (x1 : Int) (x2 : Int) (σ : mS) : Option (Int × mS) :=
  (gI σ x0 8 42).bind fun v1 =>
  if v1 ≤ 0 then
    (tgO σ x0 8).bind fun _ =>
    (D_X9_keeps x0 x2 σ).bind fun r2 =>
    if x1 = 0 then
      (gI r2 x0 8 45).bind fun v3 =>
      D_X9_known_55 x0 x1 x2 v3 r2
    else
      (gI r2 x0 8 46).bind fun v4 =>
      D_X9_known_55 x0 x1 x2 v4 r2
  else
    some (0, σ)
set_option maxRecDepth 100000 in
set_option maxHeartbeats 4000000 in
theorem lk_X9_known_26 {G : mG} {x0 : Nat} {x1 : Int} {x2 : Int} {σ : mS} {R : (Int × mS)} (hD : D_X9_known_26 x0 x1 x2 σ = some R) : Ev G M_X9_known 26 [(0, vr x0), (1, vi x1), (2, vi x2)] [] σ (.inl (some (vi R.1))) R.2 := by
  unfold D_X9_known_26 at hD
  refine ev_aload_n dX9_known_26 0 rfl rfl ?_
  obtain ⟨v1, g, hD⟩ := bd hD
  refine ew_getI 8 42 dX9_known_27 rfl (Nat.le_of_ble_eq_true rfl) w_1307 in_X9 rfl g ?_
  by_cases c : v1 ≤ 0
  · rw [if_pos c] at hD
    refine ev_if_le_t (tgt := 35) dX9_known_30 (by decide) c ?_
    refine ev_aload_n dX9_known_35 0 rfl rfl ?_
    refine ev_iload_n dX9_known_36 2 rfl rfl ?_
    obtain ⟨_, g0, hD⟩ := bd hD
    obtain ⟨r2, g, hD⟩ := bd hD
    refine ew_callV0 (as := [vi x2]) (a := x0) (rest := []) dX9_known_37 v_X9_keeps w_1519 rfl (Nat.le_of_ble_eq_true rfl) rfl rfl g0 (Nat.le_of_ble_eq_true rfl) (Nat.le_of_ble_eq_true rfl) (ct_X9_keeps g) ?_
    refine ev_iload_n dX9_known_40 1 rfl rfl ?_
    by_cases c : x1 = 0
    · rw [if_pos c] at hD
      refine ev_if_eq_t (tgt := 51) dX9_known_41 (by decide) c ?_
      refine ev_aload_n dX9_known_51 0 rfl rfl ?_
      obtain ⟨v3, g, hD⟩ := bd hD
      refine ew_getI 8 45 dX9_known_52 rfl (Nat.le_of_ble_eq_true rfl) w_1310 in_X9 rfl g ?_
      exact lk_X9_known_55 hD
    · rw [if_neg c] at hD
      refine ev_if_eq_f 51 dX9_known_41 (by decide) c ?_
      refine ev_aload_n dX9_known_44 0 rfl rfl ?_
      obtain ⟨v4, g, hD⟩ := bd hD
      refine ew_getI 8 46 dX9_known_45 rfl (Nat.le_of_ble_eq_true rfl) w_1311 in_X9 rfl g ?_
      refine ev_goto (tgt := 55) dX9_known_48 (by decide) ?_
      exact lk_X9_known_55 hD
  · rw [if_neg c] at hD
    refine ev_if_le_f 35 dX9_known_30 (by decide) c ?_
    refine ev_iconst dX9_known_33 (mi_c rfl) ?_
    cases hD
    exact ev_ret (some (vi _)) dX9_known_34 True.intro
def D_X9_known (x0 : Nat) (x1 : Int) (σ : mS) : Option (Int × mS) :=
  (tgO σ x0 8).bind fun _ =>
  (D_X9_nameHere x0 σ).bind fun r1 =>
  (gI r1.2 x0 8 42).bind fun v2 =>
  if v2 ≠ 0 then
    D_X9_known_26 x0 x1 r1.1 r1.2
  else
    (tgO r1.2 x0 8).bind fun _ =>
    (D_X9_isTwice x0 r1.1 r1.2).bind fun r3 =>
    if r3 = 0 then
      D_X9_known_26 x0 x1 r1.1 r1.2
    else
      (tgO r1.2 x0 8).bind fun _ =>
      (D_X9_wrong x0 4 r1.1 r1.2).bind fun r4 =>
      D_X9_known_26 x0 x1 r1.1 r4
set_option maxRecDepth 100000 in
set_option maxHeartbeats 4000000 in
theorem lk_X9_known {G : mG} {x0 : Nat} {x1 : Int} {σ : mS} {R : (Int × mS)} (hD : D_X9_known x0 x1 σ = some R) : Ev G M_X9_known 0 [(0, vr x0), (1, vi x1)] [] σ (.inl (some (vi R.1))) R.2 := by
  unfold D_X9_known at hD
  refine ev_aload_n dX9_known_0 0 rfl rfl ?_
  obtain ⟨_, g0, hD⟩ := bd hD
  obtain ⟨r1, g, hD⟩ := bd hD
  refine ew_callVv (as := []) (a := x0) (rest := []) dX9_known_1 v_X9_nameHere w_1511 rfl (Nat.le_of_ble_eq_true rfl) rfl rfl g0 (Nat.le_of_ble_eq_true rfl) (Nat.le_of_ble_eq_true rfl) (ct_X9_nameHere g) ?_
  refine ev_istore_n dX9_known_4 rfl (Nat.le_of_ble_eq_true rfl) rfl ?_
  refine ev_aload_n dX9_known_5 1 rfl rfl ?_
  obtain ⟨v2, g, hD⟩ := bd hD
  refine ew_getI 8 42 dX9_known_6 rfl (Nat.le_of_ble_eq_true rfl) w_1307 in_X9 rfl g ?_
  by_cases c : v2 ≠ 0
  · rw [if_pos c] at hD
    refine ev_if_ne_t (tgt := 26) dX9_known_9 (by decide) c ?_
    refine Ev.pick [1, 2, 0] rfl ?_
    exact lk_X9_known_26 hD
  · rw [if_neg c] at hD
    refine ev_if_ne_f 26 dX9_known_9 (by decide) c ?_
    refine ev_aload_n dX9_known_12 1 rfl rfl ?_
    refine ev_iload_n dX9_known_13 0 rfl rfl ?_
    obtain ⟨_, g0, hD⟩ := bd hD
    obtain ⟨r3, g, hD⟩ := bd hD
    refine ew_callVv (as := [vi r1.1]) (a := x0) (rest := []) dX9_known_14 v_X9_isTwice w_1545 rfl (Nat.le_of_ble_eq_true rfl) rfl rfl g0 (Nat.le_of_ble_eq_true rfl) (Nat.le_of_ble_eq_true rfl) (ct_X9_isTwice g) ?_
    by_cases c : r3 = 0
    · rw [if_pos c] at hD
      refine ev_if_eq_t (tgt := 26) dX9_known_17 (by decide) c ?_
      refine Ev.pick [1, 2, 0] rfl ?_
      exact lk_X9_known_26 hD
    · rw [if_neg c] at hD
      refine ev_if_eq_f 26 dX9_known_17 (by decide) c ?_
      refine ev_aload_n dX9_known_20 1 rfl rfl ?_
      refine ev_iconst dX9_known_21 (mi_c rfl) ?_
      refine ev_iload_n dX9_known_22 0 rfl rfl ?_
      obtain ⟨_, g0, hD⟩ := bd hD
      obtain ⟨r4, g, hD⟩ := bd hD
      refine ew_callV0 (as := [vi 4, vi r1.1]) (a := x0) (rest := []) dX9_known_23 v_X9_wrong w_1472 rfl (Nat.le_of_ble_eq_true rfl) rfl rfl g0 (Nat.le_of_ble_eq_true rfl) (Nat.le_of_ble_eq_true rfl) (ct_X9_wrong g) ?_
      refine Ev.pick [1, 2, 0] rfl ?_
      exact lk_X9_known_26 hD
theorem ct_X9_known {G : mG} {x0 : Nat} {x1 : Int} {σ : mS} {R : (Int × mS)} (hD : D_X9_known x0 x1 σ = some R) : Ct G M_X9_known [vr x0, vi x1] σ (.inl (some (vi R.1))) R.2 := ct_of rfl (by decide +kernel) rfl (Nat.le_of_ble_eq_true rfl) rfl (lk_X9_known hD)
def D_X9_setSample (x0 : Nat) (x1 : Int) (x2 : Int) (σ : mS) : Option mS :=
  (gR σ x0 8 3).bind fun v1 =>
  (gI σ x0 8 45).bind fun v2 =>
  (sI σ v1 (mw ((mw (123 + (mw (15 * v2)))) + x1)) x2).bind fun s3 =>
  some s3
set_option maxRecDepth 100000 in
set_option maxHeartbeats 4000000 in
theorem lk_X9_setSample {G : mG} {x0 : Nat} {x1 : Int} {x2 : Int} {σ : mS} {R : mS} (hD : D_X9_setSample x0 x1 x2 σ = some R) : Ev G M_X9_setSample 0 [(0, vr x0), (1, vi x1), (2, vi x2)] [] σ (.inl none) R := by
  unfold D_X9_setSample at hD
  refine ev_aload_n dX9_setSample_0 0 rfl rfl ?_
  obtain ⟨v1, g, hD⟩ := bd hD
  refine ew_getR 8 3 dX9_setSample_1 rfl (Nat.le_of_ble_eq_true rfl) w_1268 in_X9 rfl g ?_
  refine ev_bp dX9_setSample_4 rfl ?_
  refine ev_bp dX9_setSample_6 rfl ?_
  refine ev_aload_n dX9_setSample_8 0 rfl rfl ?_
  obtain ⟨v2, g, hD⟩ := bd hD
  refine ew_getI 8 45 dX9_setSample_9 rfl (Nat.le_of_ble_eq_true rfl) w_1310 in_X9 rfl g ?_
  refine ev_imul dX9_setSample_12 ?_
  refine ev_iadd dX9_setSample_13 ?_
  refine ev_iload_n dX9_setSample_14 1 rfl rfl ?_
  refine ev_iadd dX9_setSample_15 ?_
  refine ev_iload_n dX9_setSample_16 2 rfl rfl ?_
  obtain ⟨s3, g, hD⟩ := bd hD
  refine ew_iast dX9_setSample_17 g ?_
  cases hD
  exact ev_ret none dX9_setSample_18 True.intro
theorem ct_X9_setSample {G : mG} {x0 : Nat} {x1 : Int} {x2 : Int} {σ : mS} {R : mS} (hD : D_X9_setSample x0 x1 x2 σ = some R) : Ct G M_X9_setSample [vr x0, vi x1, vi x2] σ (.inl none) R := ct_of rfl (by decide +kernel) rfl (Nat.le_of_ble_eq_true rfl) rfl (lk_X9_setSample hD)
