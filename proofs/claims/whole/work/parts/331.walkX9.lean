def D_X9_fitsRule_170 (rec : Nat → Int → Int → Int → Int → Int → Int → Int → mS → Option Int) (x0 : Nat) (x2 : Int) (x3 : Int) (x4 : Int) (x5 : Int) (x7 : Int) (x8 : Int) (y0 : Int) (σ : mS) : Option Int :=
  rec x0 x2 x3 x4 x5 y0 x7 (mw (x8 + 1)) σ
set_option maxRecDepth 100000 in
set_option maxHeartbeats 4000000 in
theorem lk_X9_fitsRule_170 {G : mG} {rec : Nat → Int → Int → Int → Int → Int → Int → Int → mS → Option Int} {x0 : Nat} {x2 : Int} {x3 : Int} {x4 : Int} {x5 : Int} {x7 : Int} {x8 : Int} {y0 : Int} {σ : mS} {R : Int} {r : mX} {τ : mS} (hD : D_X9_fitsRule_170 rec x0 x2 x3 x4 x5 x7 x8 y0 σ = some R) (hrec : ∀ {x0 : Nat} {x2 : Int} {x3 : Int} {x4 : Int} {x5 : Int} {x6 : Int} {x7 : Int} {x8 : Int} {σ : mS} {R : Int}, rec x0 x2 x3 x4 x5 x6 x7 x8 σ = some R → ∀ {r : mX} {τ : mS}, Ev G M_X9_fitsRule 178 [(0, vr x0), (2, vi x2), (3, vi x3), (4, vi x4), (5, vi x5), (6, vi (R)), (7, vi x7)] [] σ r τ → Ev G M_X9_fitsRule 119 [(0, vr x0), (2, vi x2), (3, vi x3), (4, vi x4), (5, vi x5), (6, vi x6), (7, vi x7), (8, vi x8)] [] σ r τ) (hk : Ev G M_X9_fitsRule 178 [(0, vr x0), (2, vi x2), (3, vi x3), (4, vi x4), (5, vi x5), (6, vi (R)), (7, vi x7)] [] σ r τ) : Ev G M_X9_fitsRule 170 [(0, vr x0), (2, vi x2), (3, vi x3), (4, vi x4), (5, vi x5), (7, vi x7), (8, vi x8)] [vi y0] σ r τ := by
  unfold D_X9_fitsRule_170 at hD
  refine ev_istore dX9_fitsRule_170 (Nat.le_of_ble_eq_true rfl) rfl ?_
  refine ev_iinc dX9_fitsRule_172 7 rfl (Nat.le_of_ble_eq_true rfl) rfl ?_
  refine ev_goto (tgt := 119) dX9_fitsRule_175 (by decide) ?_
  refine Ev.pick [2, 3, 4, 5, 6, 1, 7, 0] rfl ?_
  exact hrec hD hk
def D_X9_fitsRule_169 (rec : Nat → Int → Int → Int → Int → Int → Int → Int → mS → Option Int) (x0 : Nat) (x2 : Int) (x3 : Int) (x4 : Int) (x5 : Int) (x7 : Int) (x8 : Int) (σ : mS) : Option Int :=
  D_X9_fitsRule_170 rec x0 x2 x3 x4 x5 x7 x8 0 σ
set_option maxRecDepth 100000 in
set_option maxHeartbeats 4000000 in
theorem lk_X9_fitsRule_169 {G : mG} {rec : Nat → Int → Int → Int → Int → Int → Int → Int → mS → Option Int} {x0 : Nat} {x2 : Int} {x3 : Int} {x4 : Int} {x5 : Int} {x7 : Int} {x8 : Int} {σ : mS} {R : Int} {r : mX} {τ : mS} (hD : D_X9_fitsRule_169 rec x0 x2 x3 x4 x5 x7 x8 σ = some R) (hrec : ∀ {x0 : Nat} {x2 : Int} {x3 : Int} {x4 : Int} {x5 : Int} {x6 : Int} {x7 : Int} {x8 : Int} {σ : mS} {R : Int}, rec x0 x2 x3 x4 x5 x6 x7 x8 σ = some R → ∀ {r : mX} {τ : mS}, Ev G M_X9_fitsRule 178 [(0, vr x0), (2, vi x2), (3, vi x3), (4, vi x4), (5, vi x5), (6, vi (R)), (7, vi x7)] [] σ r τ → Ev G M_X9_fitsRule 119 [(0, vr x0), (2, vi x2), (3, vi x3), (4, vi x4), (5, vi x5), (6, vi x6), (7, vi x7), (8, vi x8)] [] σ r τ) (hk : Ev G M_X9_fitsRule 178 [(0, vr x0), (2, vi x2), (3, vi x3), (4, vi x4), (5, vi x5), (6, vi (R)), (7, vi x7)] [] σ r τ) : Ev G M_X9_fitsRule 169 [(0, vr x0), (2, vi x2), (3, vi x3), (4, vi x4), (5, vi x5), (7, vi x7), (8, vi x8)] [] σ r τ := by
  unfold D_X9_fitsRule_169 at hD
  refine ev_iconst dX9_fitsRule_169 (mi_c rfl) ?_
  exact lk_X9_fitsRule_170 hD hrec hk
def D_X9_fitsRule_119 : Nat → Nat → Int → Int → Int → Int → Int → Int → Int → mS → Option Int
  | 0, _, _, _, _, _, _, _, _, _ => none
  | f + 1, x0, x2, x3, x4, x5, x6, x7, x8, σ =>
    (gR σ x0 8 11).bind fun v1 =>
    (lI σ v1 x4).bind fun v2 =>
    if v2 ≤ x8 then
      some x6
    else
      if x6 = 0 then
        D_X9_fitsRule_169 (D_X9_fitsRule_119 f) x0 x2 x3 x4 x5 x7 x8 σ
      else
        (tgO σ x0 8).bind fun _ =>
        (D_X9_memberOf x0 x3 x7 σ).bind fun r3 =>
        (tgO σ x0 8).bind fun _ =>
        (D_X9_memberOf x0 x4 x8 σ).bind fun r4 =>
        (tgO σ x0 8).bind fun _ =>
        (D_X9_fitsPair x0 r3 r4 x5 999 x2 x2 σ).bind fun r5 =>
        if r5 = 0 then
          D_X9_fitsRule_169 (D_X9_fitsRule_119 f) x0 x2 x3 x4 x5 x7 x8 σ
        else
          D_X9_fitsRule_170 (D_X9_fitsRule_119 f) x0 x2 x3 x4 x5 x7 x8 1 σ
set_option maxRecDepth 100000 in
set_option maxHeartbeats 4000000 in
theorem lk_X9_fitsRule_119 {G : mG} (f : Nat) : ∀ {x0 : Nat} {x2 : Int} {x3 : Int} {x4 : Int} {x5 : Int} {x6 : Int} {x7 : Int} {x8 : Int} {σ : mS} {R : Int}, D_X9_fitsRule_119 f x0 x2 x3 x4 x5 x6 x7 x8 σ = some R → ∀ {r : mX} {τ : mS}, Ev G M_X9_fitsRule 178 [(0, vr x0), (2, vi x2), (3, vi x3), (4, vi x4), (5, vi x5), (6, vi (R)), (7, vi x7)] [] σ r τ → Ev G M_X9_fitsRule 119 [(0, vr x0), (2, vi x2), (3, vi x3), (4, vi x4), (5, vi x5), (6, vi x6), (7, vi x7), (8, vi x8)] [] σ r τ := by
  induction f with
  | zero =>
    intros
    rename_i hD _ _ _
    cases hD
  | succ f ih =>
    intro x0 x2 x3 x4 x5 x6 x7 x8 σ R hD r τ hk
    have hrec := @ih
    rw [D_X9_fitsRule_119] at hD
    refine ev_iload dX9_fitsRule_119 7 rfl ?_
    refine ev_aload_n dX9_fitsRule_121 0 rfl rfl ?_
    obtain ⟨v1, g, hD⟩ := bd hD
    refine ew_getR 8 11 dX9_fitsRule_122 rfl (Nat.le_of_ble_eq_true rfl) w_1276 in_X9 rfl g ?_
    refine ev_iload dX9_fitsRule_125 3 rfl ?_
    obtain ⟨v2, g, hD⟩ := bd hD
    refine ew_iald dX9_fitsRule_127 g ?_
    by_cases c : v2 ≤ x8
    · rw [if_pos c] at hD
      refine ev_icmp_ge_t (tgt := 178) dX9_fitsRule_128 (by decide) c ?_
      cases hD
      refine Ev.pick [0, 1, 2, 3, 4, 5, 6] rfl ?_
      exact hk
    · rw [if_neg c] at hD
      refine ev_icmp_ge_f 178 dX9_fitsRule_128 (by decide) c ?_
      refine ev_iload dX9_fitsRule_131 5 rfl ?_
      by_cases c : x6 = 0
      · rw [if_pos c] at hD
        refine ev_if_eq_t (tgt := 169) dX9_fitsRule_133 (by decide) c ?_
        refine Ev.pick [0, 1, 2, 3, 4, 6, 7] rfl ?_
        exact lk_X9_fitsRule_169 hD hrec hk
      · rw [if_neg c] at hD
        refine ev_if_eq_f 169 dX9_fitsRule_133 (by decide) c ?_
        refine ev_aload_n dX9_fitsRule_136 0 rfl rfl ?_
        refine ev_aload_n dX9_fitsRule_137 0 rfl rfl ?_
        refine ev_iload_n dX9_fitsRule_138 2 rfl rfl ?_
        refine ev_iload dX9_fitsRule_139 6 rfl ?_
        obtain ⟨_, g0, hD⟩ := bd hD
        obtain ⟨r3, g, hD⟩ := bd hD
        refine ew_callVv (as := [vi x3, vi x7]) (a := x0) (rest := [vr x0]) dX9_fitsRule_141 v_X9_memberOf w_1679 rfl (Nat.le_of_ble_eq_true rfl) rfl rfl g0 (Nat.le_of_ble_eq_true rfl) (Nat.le_of_ble_eq_true rfl) (ct_X9_memberOf g) ?_
        refine ev_aload_n dX9_fitsRule_144 0 rfl rfl ?_
        refine ev_iload dX9_fitsRule_145 3 rfl ?_
        refine ev_iload dX9_fitsRule_147 7 rfl ?_
        obtain ⟨_, g0, hD⟩ := bd hD
        obtain ⟨r4, g, hD⟩ := bd hD
        refine ew_callVv (as := [vi x4, vi x8]) (a := x0) (rest := [vi r3, vr x0]) dX9_fitsRule_149 v_X9_memberOf w_1679 rfl (Nat.le_of_ble_eq_true rfl) rfl rfl g0 (Nat.le_of_ble_eq_true rfl) (Nat.le_of_ble_eq_true rfl) (ct_X9_memberOf g) ?_
        refine ev_iload dX9_fitsRule_152 4 rfl ?_
        refine ev_sp dX9_fitsRule_154 rfl ?_
        refine ev_iload_n dX9_fitsRule_157 1 rfl rfl ?_
        refine ev_iload_n dX9_fitsRule_158 1 rfl rfl ?_
        obtain ⟨_, g0, hD⟩ := bd hD
        obtain ⟨r5, g, hD⟩ := bd hD
        refine ew_callVv (as := [vi r3, vi r4, vi x5, vi 999, vi x2, vi x2]) (a := x0) (rest := []) dX9_fitsRule_159 v_X9_fitsPair w_1843 rfl (Nat.le_of_ble_eq_true rfl) rfl rfl g0 (Nat.le_of_ble_eq_true rfl) (Nat.le_of_ble_eq_true rfl) (ct_X9_fitsPair g) ?_
        by_cases c : r5 = 0
        · rw [if_pos c] at hD
          refine ev_if_eq_t (tgt := 169) dX9_fitsRule_162 (by decide) c ?_
          refine Ev.pick [0, 1, 2, 3, 4, 6, 7] rfl ?_
          exact lk_X9_fitsRule_169 hD hrec hk
        · rw [if_neg c] at hD
          refine ev_if_eq_f 169 dX9_fitsRule_162 (by decide) c ?_
          refine ev_iconst dX9_fitsRule_165 (mi_c rfl) ?_
          refine ev_goto (tgt := 170) dX9_fitsRule_166 (by decide) ?_
          refine Ev.pick [0, 1, 2, 3, 4, 6, 7] rfl ?_
          exact lk_X9_fitsRule_170 hD hrec hk
def D_X9_fitsRule_105 : Nat → Nat → Int → Int → Int → Int → Int → Int → mS → Option Int
  | 0, _, _, _, _, _, _, _, _ => none
  | f + 1, x0, x2, x3, x4, x5, x6, x7, σ =>
    (gR σ x0 8 11).bind fun v1 =>
    (lI σ v1 x3).bind fun v2 =>
    if v2 ≤ x7 then
      some x6
    else
      (D_X9_fitsRule_119 mFU x0 x2 x3 x4 x5 x6 x7 0 σ).bind fun r3 =>
      (D_X9_fitsRule_105 f) x0 x2 x3 x4 x5 r3 (mw (x7 + 1)) σ
set_option maxRecDepth 100000 in
set_option maxHeartbeats 4000000 in
theorem lk_X9_fitsRule_105 {G : mG} (f : Nat) : ∀ {x0 : Nat} {x2 : Int} {x3 : Int} {x4 : Int} {x5 : Int} {x6 : Int} {x7 : Int} {σ : mS} {R : Int}, D_X9_fitsRule_105 f x0 x2 x3 x4 x5 x6 x7 σ = some R → ∀ {r : mX} {τ : mS}, Ev G M_X9_fitsRule 184 [(6, vi (R))] [] σ r τ → Ev G M_X9_fitsRule 105 [(0, vr x0), (2, vi x2), (3, vi x3), (4, vi x4), (5, vi x5), (6, vi x6), (7, vi x7)] [] σ r τ := by
  induction f with
  | zero =>
    intros
    rename_i hD _ _ _
    cases hD
  | succ f ih =>
    intro x0 x2 x3 x4 x5 x6 x7 σ R hD r τ hk
    have hrec := @ih
    rw [D_X9_fitsRule_105] at hD
    refine ev_iload dX9_fitsRule_105 6 rfl ?_
    refine ev_aload_n dX9_fitsRule_107 0 rfl rfl ?_
    obtain ⟨v1, g, hD⟩ := bd hD
    refine ew_getR 8 11 dX9_fitsRule_108 rfl (Nat.le_of_ble_eq_true rfl) w_1276 in_X9 rfl g ?_
    refine ev_iload_n dX9_fitsRule_111 2 rfl rfl ?_
    obtain ⟨v2, g, hD⟩ := bd hD
    refine ew_iald dX9_fitsRule_112 g ?_
    by_cases c : v2 ≤ x7
    · rw [if_pos c] at hD
      refine ev_icmp_ge_t (tgt := 184) dX9_fitsRule_113 (by decide) c ?_
      cases hD
      refine Ev.pick [5] rfl ?_
      exact hk
    · rw [if_neg c] at hD
      refine ev_icmp_ge_f 184 dX9_fitsRule_113 (by decide) c ?_
      refine ev_iconst dX9_fitsRule_116 (mi_c rfl) ?_
      refine ev_istore dX9_fitsRule_117 (Nat.le_of_ble_eq_true rfl) rfl ?_
      obtain ⟨r3, g, hD⟩ := bd hD
      refine Ev.pick [1, 2, 3, 4, 5, 6, 7, 0] rfl ?_
      refine lk_X9_fitsRule_119 mFU g ?_
      refine ev_iinc dX9_fitsRule_178 6 rfl (Nat.le_of_ble_eq_true rfl) rfl ?_
      refine ev_goto (tgt := 105) dX9_fitsRule_181 (by decide) ?_
      refine Ev.pick [1, 2, 3, 4, 5, 6, 0] rfl ?_
      exact hrec hD hk
def D_X9_fitsRule_256 (rec : Nat → Int → Int → Int → Int → Int → Int → mS → Option Int) (x0 : Nat) (x2 : Int) (x3 : Int) (x5 : Int) (x7 : Int) (x8 : Int) (y0 : Int) (σ : mS) : Option Int :=
  rec x0 x2 x3 x5 y0 x7 (mw (x8 + 1)) σ
set_option maxRecDepth 100000 in
set_option maxHeartbeats 4000000 in
theorem lk_X9_fitsRule_256 {G : mG} {rec : Nat → Int → Int → Int → Int → Int → Int → mS → Option Int} {x0 : Nat} {x2 : Int} {x3 : Int} {x5 : Int} {x7 : Int} {x8 : Int} {y0 : Int} {σ : mS} {R : Int} {r : mX} {τ : mS} (hD : D_X9_fitsRule_256 rec x0 x2 x3 x5 x7 x8 y0 σ = some R) (hrec : ∀ {x0 : Nat} {x2 : Int} {x3 : Int} {x5 : Int} {x6 : Int} {x7 : Int} {x8 : Int} {σ : mS} {R : Int}, rec x0 x2 x3 x5 x6 x7 x8 σ = some R → ∀ {r : mX} {τ : mS}, Ev G M_X9_fitsRule 264 [(0, vr x0), (2, vi x2), (3, vi x3), (5, vi x5), (6, vi (R)), (7, vi x7)] [] σ r τ → Ev G M_X9_fitsRule 207 [(0, vr x0), (2, vi x2), (3, vi x3), (5, vi x5), (6, vi x6), (7, vi x7), (8, vi x8)] [] σ r τ) (hk : Ev G M_X9_fitsRule 264 [(0, vr x0), (2, vi x2), (3, vi x3), (5, vi x5), (6, vi (R)), (7, vi x7)] [] σ r τ) : Ev G M_X9_fitsRule 256 [(0, vr x0), (2, vi x2), (3, vi x3), (5, vi x5), (7, vi x7), (8, vi x8)] [vi y0] σ r τ := by
  unfold D_X9_fitsRule_256 at hD
  refine ev_istore dX9_fitsRule_256 (Nat.le_of_ble_eq_true rfl) rfl ?_
  refine ev_iinc dX9_fitsRule_258 6 rfl (Nat.le_of_ble_eq_true rfl) rfl ?_
  refine ev_goto (tgt := 207) dX9_fitsRule_261 (by decide) ?_
  refine Ev.pick [2, 3, 4, 5, 1, 6, 0] rfl ?_
  exact hrec hD hk
def D_X9_fitsRule_255 (rec : Nat → Int → Int → Int → Int → Int → Int → mS → Option Int) (x0 : Nat) (x2 : Int) (x3 : Int) (x5 : Int) (x7 : Int) (x8 : Int) (σ : mS) : Option Int :=
  D_X9_fitsRule_256 rec x0 x2 x3 x5 x7 x8 0 σ
set_option maxRecDepth 100000 in
set_option maxHeartbeats 4000000 in
theorem lk_X9_fitsRule_255 {G : mG} {rec : Nat → Int → Int → Int → Int → Int → Int → mS → Option Int} {x0 : Nat} {x2 : Int} {x3 : Int} {x5 : Int} {x7 : Int} {x8 : Int} {σ : mS} {R : Int} {r : mX} {τ : mS} (hD : D_X9_fitsRule_255 rec x0 x2 x3 x5 x7 x8 σ = some R) (hrec : ∀ {x0 : Nat} {x2 : Int} {x3 : Int} {x5 : Int} {x6 : Int} {x7 : Int} {x8 : Int} {σ : mS} {R : Int}, rec x0 x2 x3 x5 x6 x7 x8 σ = some R → ∀ {r : mX} {τ : mS}, Ev G M_X9_fitsRule 264 [(0, vr x0), (2, vi x2), (3, vi x3), (5, vi x5), (6, vi (R)), (7, vi x7)] [] σ r τ → Ev G M_X9_fitsRule 207 [(0, vr x0), (2, vi x2), (3, vi x3), (5, vi x5), (6, vi x6), (7, vi x7), (8, vi x8)] [] σ r τ) (hk : Ev G M_X9_fitsRule 264 [(0, vr x0), (2, vi x2), (3, vi x3), (5, vi x5), (6, vi (R)), (7, vi x7)] [] σ r τ) : Ev G M_X9_fitsRule 255 [(0, vr x0), (2, vi x2), (3, vi x3), (5, vi x5), (7, vi x7), (8, vi x8)] [] σ r τ := by
  unfold D_X9_fitsRule_255 at hD
  refine ev_iconst dX9_fitsRule_255 (mi_c rfl) ?_
  exact lk_X9_fitsRule_256 hD hrec hk
def D_X9_fitsRule_207 : Nat → Nat → Int → Int → Int → Int → Int → Int → mS → Option Int
  | 0, _, _, _, _, _, _, _, _ => none
  | f + 1, x0, x2, x3, x5, x6, x7, x8, σ =>
    (gR σ x0 8 11).bind fun v1 =>
    (lI σ v1 x3).bind fun v2 =>
    if v2 ≤ x8 then
      some x6
    else
      if x6 = 0 then
        D_X9_fitsRule_255 (D_X9_fitsRule_207 f) x0 x2 x3 x5 x7 x8 σ
      else
        (tgO σ x0 8).bind fun _ =>
        (D_X9_memberOf x0 x3 x7 σ).bind fun r3 =>
        (tgO σ x0 8).bind fun _ =>
        (D_X9_memberOf x0 x3 x8 σ).bind fun r4 =>
        (tgO σ x0 8).bind fun _ =>
        (D_X9_fitsPair x0 r3 r4 (mw (-x5)) x5 x2 x2 σ).bind fun r5 =>
        if r5 = 0 then
          D_X9_fitsRule_255 (D_X9_fitsRule_207 f) x0 x2 x3 x5 x7 x8 σ
        else
          D_X9_fitsRule_256 (D_X9_fitsRule_207 f) x0 x2 x3 x5 x7 x8 1 σ
set_option maxRecDepth 100000 in
set_option maxHeartbeats 4000000 in
theorem lk_X9_fitsRule_207 {G : mG} (f : Nat) : ∀ {x0 : Nat} {x2 : Int} {x3 : Int} {x5 : Int} {x6 : Int} {x7 : Int} {x8 : Int} {σ : mS} {R : Int}, D_X9_fitsRule_207 f x0 x2 x3 x5 x6 x7 x8 σ = some R → ∀ {r : mX} {τ : mS}, Ev G M_X9_fitsRule 264 [(0, vr x0), (2, vi x2), (3, vi x3), (5, vi x5), (6, vi (R)), (7, vi x7)] [] σ r τ → Ev G M_X9_fitsRule 207 [(0, vr x0), (2, vi x2), (3, vi x3), (5, vi x5), (6, vi x6), (7, vi x7), (8, vi x8)] [] σ r τ := by
  induction f with
  | zero =>
    intros
    rename_i hD _ _ _
    cases hD
  | succ f ih =>
    intro x0 x2 x3 x5 x6 x7 x8 σ R hD r τ hk
    have hrec := @ih
    rw [D_X9_fitsRule_207] at hD
    refine ev_iload dX9_fitsRule_207 6 rfl ?_
    refine ev_aload_n dX9_fitsRule_209 0 rfl rfl ?_
    obtain ⟨v1, g, hD⟩ := bd hD
    refine ew_getR 8 11 dX9_fitsRule_210 rfl (Nat.le_of_ble_eq_true rfl) w_1276 in_X9 rfl g ?_
    refine ev_iload_n dX9_fitsRule_213 2 rfl rfl ?_
    obtain ⟨v2, g, hD⟩ := bd hD
    refine ew_iald dX9_fitsRule_214 g ?_
    by_cases c : v2 ≤ x8
    · rw [if_pos c] at hD
      refine ev_icmp_ge_t (tgt := 264) dX9_fitsRule_215 (by decide) c ?_
      cases hD
      refine Ev.pick [0, 1, 2, 3, 4, 5] rfl ?_
      exact hk
    · rw [if_neg c] at hD
      refine ev_icmp_ge_f 264 dX9_fitsRule_215 (by decide) c ?_
      refine ev_iload dX9_fitsRule_218 4 rfl ?_
      by_cases c : x6 = 0
      · rw [if_pos c] at hD
        refine ev_if_eq_t (tgt := 255) dX9_fitsRule_220 (by decide) c ?_
        refine Ev.pick [0, 1, 2, 3, 5, 6] rfl ?_
        exact lk_X9_fitsRule_255 hD hrec hk
      · rw [if_neg c] at hD
        refine ev_if_eq_f 255 dX9_fitsRule_220 (by decide) c ?_
        refine ev_aload_n dX9_fitsRule_223 0 rfl rfl ?_
        refine ev_aload_n dX9_fitsRule_224 0 rfl rfl ?_
        refine ev_iload_n dX9_fitsRule_225 2 rfl rfl ?_
        refine ev_iload dX9_fitsRule_226 5 rfl ?_
        obtain ⟨_, g0, hD⟩ := bd hD
        obtain ⟨r3, g, hD⟩ := bd hD
        refine ew_callVv (as := [vi x3, vi x7]) (a := x0) (rest := [vr x0]) dX9_fitsRule_228 v_X9_memberOf w_1679 rfl (Nat.le_of_ble_eq_true rfl) rfl rfl g0 (Nat.le_of_ble_eq_true rfl) (Nat.le_of_ble_eq_true rfl) (ct_X9_memberOf g) ?_
        refine ev_aload_n dX9_fitsRule_231 0 rfl rfl ?_
        refine ev_iload_n dX9_fitsRule_232 2 rfl rfl ?_
        refine ev_iload dX9_fitsRule_233 6 rfl ?_
        obtain ⟨_, g0, hD⟩ := bd hD
        obtain ⟨r4, g, hD⟩ := bd hD
        refine ew_callVv (as := [vi x3, vi x8]) (a := x0) (rest := [vi r3, vr x0]) dX9_fitsRule_235 v_X9_memberOf w_1679 rfl (Nat.le_of_ble_eq_true rfl) rfl rfl g0 (Nat.le_of_ble_eq_true rfl) (Nat.le_of_ble_eq_true rfl) (ct_X9_memberOf g) ?_
        refine ev_iload dX9_fitsRule_238 3 rfl ?_
        refine ev_ineg dX9_fitsRule_240 ?_
        refine ev_iload dX9_fitsRule_241 3 rfl ?_
        refine ev_iload_n dX9_fitsRule_243 1 rfl rfl ?_
        refine ev_iload_n dX9_fitsRule_244 1 rfl rfl ?_
        obtain ⟨_, g0, hD⟩ := bd hD
        obtain ⟨r5, g, hD⟩ := bd hD
        refine ew_callVv (as := [vi r3, vi r4, vi (mw (-x5)), vi x5, vi x2, vi x2]) (a := x0) (rest := []) dX9_fitsRule_245 v_X9_fitsPair w_1843 rfl (Nat.le_of_ble_eq_true rfl) rfl rfl g0 (Nat.le_of_ble_eq_true rfl) (Nat.le_of_ble_eq_true rfl) (ct_X9_fitsPair g) ?_
        by_cases c : r5 = 0
        · rw [if_pos c] at hD
          refine ev_if_eq_t (tgt := 255) dX9_fitsRule_248 (by decide) c ?_
          refine Ev.pick [0, 1, 2, 3, 5, 6] rfl ?_
          exact lk_X9_fitsRule_255 hD hrec hk
        · rw [if_neg c] at hD
          refine ev_if_eq_f 255 dX9_fitsRule_248 (by decide) c ?_
          refine ev_iconst dX9_fitsRule_251 (mi_c rfl) ?_
          refine ev_goto (tgt := 256) dX9_fitsRule_252 (by decide) ?_
          refine Ev.pick [0, 1, 2, 3, 5, 6] rfl ?_
          exact lk_X9_fitsRule_256 hD hrec hk
def D_X9_fitsRule_190 : Nat → Nat → Int → Int → Int → Int → Int → mS → Option Int
  | 0, _, _, _, _, _, _, _ => none
  | f + 1, x0, x2, x3, x5, x6, x7, σ =>
    (gR σ x0 8 11).bind fun v1 =>
    (lI σ v1 x3).bind fun v2 =>
    if v2 ≤ x7 then
      some x6
    else
      (D_X9_fitsRule_207 mFU x0 x2 x3 x5 x6 x7 (mw (x7 + 1)) σ).bind fun r3 =>
      (D_X9_fitsRule_190 f) x0 x2 x3 x5 r3 (mw (x7 + 1)) σ
set_option maxRecDepth 100000 in
set_option maxHeartbeats 4000000 in
theorem lk_X9_fitsRule_190 {G : mG} (f : Nat) : ∀ {x0 : Nat} {x2 : Int} {x3 : Int} {x5 : Int} {x6 : Int} {x7 : Int} {σ : mS} {R : Int}, D_X9_fitsRule_190 f x0 x2 x3 x5 x6 x7 σ = some R → ∀ {r : mX} {τ : mS}, Ev G M_X9_fitsRule 270 [(6, vi (R))] [] σ r τ → Ev G M_X9_fitsRule 190 [(0, vr x0), (2, vi x2), (3, vi x3), (5, vi x5), (6, vi x6), (7, vi x7)] [] σ r τ := by
  induction f with
  | zero =>
    intros
    rename_i hD _ _ _
    cases hD
  | succ f ih =>
    intro x0 x2 x3 x5 x6 x7 σ R hD r τ hk
    have hrec := @ih
    rw [D_X9_fitsRule_190] at hD
    refine ev_iload dX9_fitsRule_190 5 rfl ?_
    refine ev_aload_n dX9_fitsRule_192 0 rfl rfl ?_
    obtain ⟨v1, g, hD⟩ := bd hD
    refine ew_getR 8 11 dX9_fitsRule_193 rfl (Nat.le_of_ble_eq_true rfl) w_1276 in_X9 rfl g ?_
    refine ev_iload_n dX9_fitsRule_196 2 rfl rfl ?_
    obtain ⟨v2, g, hD⟩ := bd hD
    refine ew_iald dX9_fitsRule_197 g ?_
    by_cases c : v2 ≤ x7
    · rw [if_pos c] at hD
      refine ev_icmp_ge_t (tgt := 270) dX9_fitsRule_198 (by decide) c ?_
      cases hD
      refine Ev.pick [4] rfl ?_
      exact hk
    · rw [if_neg c] at hD
      refine ev_icmp_ge_f 270 dX9_fitsRule_198 (by decide) c ?_
      refine ev_iload dX9_fitsRule_201 5 rfl ?_
      refine ev_iconst dX9_fitsRule_203 (mi_c rfl) ?_
      refine ev_iadd dX9_fitsRule_204 ?_
      refine ev_istore dX9_fitsRule_205 (Nat.le_of_ble_eq_true rfl) rfl ?_
      obtain ⟨r3, g, hD⟩ := bd hD
      refine Ev.pick [1, 2, 3, 4, 5, 6, 0] rfl ?_
      refine lk_X9_fitsRule_207 mFU g ?_
      refine ev_iinc dX9_fitsRule_264 5 rfl (Nat.le_of_ble_eq_true rfl) rfl ?_
      refine ev_goto (tgt := 190) dX9_fitsRule_267 (by decide) ?_
      refine Ev.pick [1, 2, 3, 4, 5, 0] rfl ?_
      exact hrec hD hk
def D_X9_fitsRule (x0 : Nat) (x1 : Int) (x2 : Int) (σ : mS) : Option Int :=
  (tgO σ x0 8).bind fun _ =>
  (D_X9_ruleAt x0 x1 1 σ).bind fun r1 =>
  (tgO σ x0 8).bind fun _ =>
  (D_X9_ruleAt x0 x1 2 σ).bind fun r2 =>
  (tgO σ x0 8).bind fun _ =>
  (D_X9_ruleAt x0 x1 3 σ).bind fun r3 =>
  (tgO σ x0 8).bind fun _ =>
  (D_X9_ruleAt x0 x1 0 σ).bind fun r4 =>
  if r4 = 0 then
    (tgO σ x0 8).bind fun _ =>
    (D_X9_ruleAt x0 x1 4 σ).bind fun r5 =>
    (tgO σ x0 8).bind fun _ =>
    (D_X9_fitsPair x0 r1 r2 r3 r5 x2 x2 σ).bind fun r6 =>
    (bO r6).bind fun v7 =>
    some v7
  else
  if r4 = 1 then
    (tgO σ x0 8).bind fun _ =>
    (D_X9_fitsPair x0 r1 r2 0 0 x2 x2 σ).bind fun r8 =>
    (bO r8).bind fun v9 =>
    some v9
  else
  if r4 = 2 then
    (bO 1).bind fun v10 =>
    some v10
  else
  if r4 = 3 then
    (bO 1).bind fun v11 =>
    some v11
  else
  if r4 = 4 then
    (D_X9_fitsRule_105 mFU x0 x2 r1 r2 r3 1 0 σ).bind fun r12 =>
    (bO r12).bind fun v13 =>
    some v13
  else
  if r4 = 5 then
    (D_X9_fitsRule_190 mFU x0 x2 r1 r3 1 0 σ).bind fun r14 =>
    (bO r14).bind fun v15 =>
    some v15
  else
    (bO 1).bind fun v16 =>
    some v16
set_option maxRecDepth 100000 in
set_option maxHeartbeats 4000000 in
theorem lk_X9_fitsRule {G : mG} {x0 : Nat} {x1 : Int} {x2 : Int} {σ : mS} {R : Int} (hD : D_X9_fitsRule x0 x1 x2 σ = some R) : Ev G M_X9_fitsRule 0 [(0, vr x0), (1, vi x1), (2, vi x2)] [] σ (.inl (some (vi R))) σ := by
  unfold D_X9_fitsRule at hD
  refine ev_aload_n dX9_fitsRule_0 0 rfl rfl ?_
  refine ev_iload_n dX9_fitsRule_1 1 rfl rfl ?_
  refine ev_iconst dX9_fitsRule_2 (mi_c rfl) ?_
  obtain ⟨_, g0, hD⟩ := bd hD
  obtain ⟨r1, g, hD⟩ := bd hD
  refine ew_callVv (as := [vi x1, vi 1]) (a := x0) (rest := []) dX9_fitsRule_3 v_X9_ruleAt w_1658 rfl (Nat.le_of_ble_eq_true rfl) rfl rfl g0 (Nat.le_of_ble_eq_true rfl) (Nat.le_of_ble_eq_true rfl) (ct_X9_ruleAt g) ?_
  refine ev_istore_n dX9_fitsRule_6 rfl (Nat.le_of_ble_eq_true rfl) rfl ?_
  refine ev_aload_n dX9_fitsRule_7 1 rfl rfl ?_
  refine ev_iload_n dX9_fitsRule_8 2 rfl rfl ?_
  refine ev_iconst dX9_fitsRule_9 (mi_c rfl) ?_
  obtain ⟨_, g0, hD⟩ := bd hD
  obtain ⟨r2, g, hD⟩ := bd hD
  refine ew_callVv (as := [vi x1, vi 2]) (a := x0) (rest := []) dX9_fitsRule_10 v_X9_ruleAt w_1658 rfl (Nat.le_of_ble_eq_true rfl) rfl rfl g0 (Nat.le_of_ble_eq_true rfl) (Nat.le_of_ble_eq_true rfl) (ct_X9_ruleAt g) ?_
  refine ev_istore dX9_fitsRule_13 (Nat.le_of_ble_eq_true rfl) rfl ?_
  refine ev_aload_n dX9_fitsRule_15 2 rfl rfl ?_
  refine ev_iload_n dX9_fitsRule_16 3 rfl rfl ?_
  refine ev_iconst dX9_fitsRule_17 (mi_c rfl) ?_
  obtain ⟨_, g0, hD⟩ := bd hD
  obtain ⟨r3, g, hD⟩ := bd hD
  refine ew_callVv (as := [vi x1, vi 3]) (a := x0) (rest := []) dX9_fitsRule_18 v_X9_ruleAt w_1658 rfl (Nat.le_of_ble_eq_true rfl) rfl rfl g0 (Nat.le_of_ble_eq_true rfl) (Nat.le_of_ble_eq_true rfl) (ct_X9_ruleAt g) ?_
  refine ev_istore dX9_fitsRule_21 (Nat.le_of_ble_eq_true rfl) rfl ?_
  refine ev_iconst dX9_fitsRule_23 (mi_c rfl) ?_
  refine ev_istore dX9_fitsRule_24 (Nat.le_of_ble_eq_true rfl) rfl ?_
  refine ev_aload_n dX9_fitsRule_26 4 rfl rfl ?_
  refine ev_iload_n dX9_fitsRule_27 5 rfl rfl ?_
  refine ev_iconst dX9_fitsRule_28 (mi_c rfl) ?_
  obtain ⟨_, g0, hD⟩ := bd hD
  obtain ⟨r4, g, hD⟩ := bd hD
  refine ew_callVv (as := [vi x1, vi 0]) (a := x0) (rest := []) dX9_fitsRule_29 v_X9_ruleAt w_1658 rfl (Nat.le_of_ble_eq_true rfl) rfl rfl g0 (Nat.le_of_ble_eq_true rfl) (Nat.le_of_ble_eq_true rfl) (ct_X9_ruleAt g) ?_
  by_cases c0 : r4 = 0
  · rw [if_pos c0] at hD
    refine ev_tableIn (off := 40) (tgt := 72) dX9_fitsRule_32 (by omega) (by omega) (by rw [c0]; rfl) (by decide) ?_
    refine ev_aload_n dX9_fitsRule_72 4 rfl rfl ?_
    refine ev_iload_n dX9_fitsRule_73 3 rfl rfl ?_
    refine ev_iload dX9_fitsRule_74 2 rfl ?_
    refine ev_iload dX9_fitsRule_76 1 rfl ?_
    refine ev_aload_n dX9_fitsRule_78 4 rfl rfl ?_
    refine ev_iload_n dX9_fitsRule_79 5 rfl rfl ?_
    refine ev_iconst dX9_fitsRule_80 (mi_c rfl) ?_
    obtain ⟨_, g0, hD⟩ := bd hD
    obtain ⟨r5, g, hD⟩ := bd hD
    refine ew_callVv (as := [vi x1, vi 4]) (a := x0) (rest := [vi r3, vi r2, vi r1, vr x0]) dX9_fitsRule_81 v_X9_ruleAt w_1658 rfl (Nat.le_of_ble_eq_true rfl) rfl rfl g0 (Nat.le_of_ble_eq_true rfl) (Nat.le_of_ble_eq_true rfl) (ct_X9_ruleAt g) ?_
    refine ev_iload_n dX9_fitsRule_84 6 rfl rfl ?_
    refine ev_iload_n dX9_fitsRule_85 6 rfl rfl ?_
    obtain ⟨_, g0, hD⟩ := bd hD
    obtain ⟨r6, g, hD⟩ := bd hD
    refine ew_callVv (as := [vi r1, vi r2, vi r3, vi r5, vi x2, vi x2]) (a := x0) (rest := []) dX9_fitsRule_86 v_X9_fitsPair w_1843 rfl (Nat.le_of_ble_eq_true rfl) rfl rfl g0 (Nat.le_of_ble_eq_true rfl) (Nat.le_of_ble_eq_true rfl) (ct_X9_fitsPair g) ?_
    obtain ⟨v7, gb, hD⟩ := bd hD
    cases hD
    exact ew_retb dX9_fitsRule_89 rfl gb
  rw [if_neg c0] at hD
  by_cases c1 : r4 = 1
  · rw [if_pos c1] at hD
    refine ev_tableIn (off := 58) (tgt := 90) dX9_fitsRule_32 (by omega) (by omega) (by rw [c1]; rfl) (by decide) ?_
    refine ev_aload_n dX9_fitsRule_90 4 rfl rfl ?_
    refine ev_iload_n dX9_fitsRule_91 3 rfl rfl ?_
    refine ev_iload dX9_fitsRule_92 2 rfl ?_
    refine ev_iconst dX9_fitsRule_94 (mi_c rfl) ?_
    refine ev_iconst dX9_fitsRule_95 (mi_c rfl) ?_
    refine ev_iload_n dX9_fitsRule_96 6 rfl rfl ?_
    refine ev_iload_n dX9_fitsRule_97 6 rfl rfl ?_
    obtain ⟨_, g0, hD⟩ := bd hD
    obtain ⟨r8, g, hD⟩ := bd hD
    refine ew_callVv (as := [vi r1, vi r2, vi 0, vi 0, vi x2, vi x2]) (a := x0) (rest := []) dX9_fitsRule_98 v_X9_fitsPair w_1843 rfl (Nat.le_of_ble_eq_true rfl) rfl rfl g0 (Nat.le_of_ble_eq_true rfl) (Nat.le_of_ble_eq_true rfl) (ct_X9_fitsPair g) ?_
    obtain ⟨v9, gb, hD⟩ := bd hD
    cases hD
    exact ew_retb dX9_fitsRule_101 rfl gb
  rw [if_neg c1] at hD
  by_cases c2 : r4 = 2
  · rw [if_pos c2] at hD
    refine ev_tableIn (off := 241) (tgt := 273) dX9_fitsRule_32 (by omega) (by omega) (by rw [c2]; rfl) (by decide) ?_
    refine ev_iconst dX9_fitsRule_273 (mi_c rfl) ?_
    obtain ⟨v10, gb, hD⟩ := bd hD
    cases hD
    exact ew_retb dX9_fitsRule_274 rfl gb
  rw [if_neg c2] at hD
  by_cases c3 : r4 = 3
  · rw [if_pos c3] at hD
    refine ev_tableIn (off := 241) (tgt := 273) dX9_fitsRule_32 (by omega) (by omega) (by rw [c3]; rfl) (by decide) ?_
    refine ev_iconst dX9_fitsRule_273 (mi_c rfl) ?_
    obtain ⟨v11, gb, hD⟩ := bd hD
    cases hD
    exact ew_retb dX9_fitsRule_274 rfl gb
  rw [if_neg c3] at hD
  by_cases c4 : r4 = 4
  · rw [if_pos c4] at hD
    refine ev_tableIn (off := 70) (tgt := 102) dX9_fitsRule_32 (by omega) (by omega) (by rw [c4]; rfl) (by decide) ?_
    refine ev_iconst dX9_fitsRule_102 (mi_c rfl) ?_
    refine ev_istore dX9_fitsRule_103 (Nat.le_of_ble_eq_true rfl) rfl ?_
    obtain ⟨r12, g, hD⟩ := bd hD
    refine Ev.pick [5, 7, 4, 3, 2, 1, 0] rfl ?_
    refine lk_X9_fitsRule_105 mFU g ?_
    refine ev_iload dX9_fitsRule_184 0 rfl ?_
    obtain ⟨v13, gb, hD⟩ := bd hD
    cases hD
    exact ew_retb dX9_fitsRule_186 rfl gb
  rw [if_neg c4] at hD
  by_cases c5 : r4 = 5
  · rw [if_pos c5] at hD
    refine ev_tableIn (off := 155) (tgt := 187) dX9_fitsRule_32 (by omega) (by omega) (by rw [c5]; rfl) (by decide) ?_
    refine ev_iconst dX9_fitsRule_187 (mi_c rfl) ?_
    refine ev_istore dX9_fitsRule_188 (Nat.le_of_ble_eq_true rfl) rfl ?_
    obtain ⟨r14, g, hD⟩ := bd hD
    refine Ev.pick [5, 7, 4, 2, 1, 0] rfl ?_
    refine lk_X9_fitsRule_190 mFU g ?_
    refine ev_iload dX9_fitsRule_270 0 rfl ?_
    obtain ⟨v15, gb, hD⟩ := bd hD
    cases hD
    exact ew_retb dX9_fitsRule_272 rfl gb
  rw [if_neg c5] at hD
  refine ev_tableOut (tgt := 273) dX9_fitsRule_32 (by omega) (by decide) ?_
  refine ev_iconst dX9_fitsRule_273 (mi_c rfl) ?_
  obtain ⟨v16, gb, hD⟩ := bd hD
  cases hD
  exact ew_retb dX9_fitsRule_274 rfl gb
theorem ct_X9_fitsRule {G : mG} {x0 : Nat} {x1 : Int} {x2 : Int} {σ : mS} {R : Int} (hD : D_X9_fitsRule x0 x1 x2 σ = some R) : Ct G M_X9_fitsRule [vr x0, vi x1, vi x2] σ (.inl (some (vi R))) σ := ct_of rfl (by decide +kernel) rfl (Nat.le_of_ble_eq_true rfl) rfl (lk_X9_fitsRule hD)
def D_X9_fitsAll_2 : Nat → Nat → Int → Int → mS → Option (Unit ⊕ Int)
  | 0, _, _, _, _ => none
  | f + 1, x0, x1, x2, σ =>
    (gR σ x0 8 2).bind fun v1 =>
    (lI σ v1 2).bind fun v2 =>
    if v2 ≤ x2 then
      some (Sum.inl ())
    else
      (tgO σ x0 8).bind fun _ =>
      (D_X9_fitsRule x0 x2 x1 σ).bind fun r3 =>
      if r3 ≠ 0 then
        (D_X9_fitsAll_2 f) x0 x1 (mw (x2 + 1)) σ
      else
        (bO 0).bind fun v4 =>
        some (Sum.inr v4)
set_option maxRecDepth 100000 in
set_option maxHeartbeats 4000000 in
theorem lk_X9_fitsAll_2 {G : mG} (f : Nat) : ∀ {x0 : Nat} {x1 : Int} {x2 : Int} {σ : mS} {R : (Unit ⊕ Int)}, D_X9_fitsAll_2 f x0 x1 x2 σ = some R → ∀ {r : mX} {τ : mS}, (∀ z, R = (Sum.inl z) → Ev G M_X9_fitsAll 29 [] [] σ r τ) ∧ (∀ z, R = (Sum.inr z) → r = .inl (some (vi z)) ∧ τ = σ) → Ev G M_X9_fitsAll 2 [(0, vr x0), (1, vi x1), (2, vi x2)] [] σ r τ := by
  induction f with
  | zero =>
    intros
    rename_i hD _ _ _
    cases hD
  | succ f ih =>
    intro x0 x1 x2 σ R hD r τ hk
    have hrec := @ih
    rw [D_X9_fitsAll_2] at hD
    refine ev_iload_n dX9_fitsAll_2 2 rfl rfl ?_
    refine ev_aload_n dX9_fitsAll_3 0 rfl rfl ?_
    obtain ⟨v1, g, hD⟩ := bd hD
    refine ew_getR 8 2 dX9_fitsAll_4 rfl (Nat.le_of_ble_eq_true rfl) w_1267 in_X9 rfl g ?_
    refine ev_iconst dX9_fitsAll_7 (mi_c rfl) ?_
    obtain ⟨v2, g, hD⟩ := bd hD
    refine ew_iald dX9_fitsAll_8 g ?_
    by_cases c : v2 ≤ x2
    · rw [if_pos c] at hD
      refine ev_icmp_ge_t (tgt := 29) dX9_fitsAll_9 (by decide) c ?_
      cases hD
      refine Ev.pick [] rfl ?_
      exact hk.1 _ rfl
    · rw [if_neg c] at hD
      refine ev_icmp_ge_f 29 dX9_fitsAll_9 (by decide) c ?_
      refine ev_aload_n dX9_fitsAll_12 0 rfl rfl ?_
      refine ev_iload_n dX9_fitsAll_13 2 rfl rfl ?_
      refine ev_iload_n dX9_fitsAll_14 1 rfl rfl ?_
      obtain ⟨_, g0, hD⟩ := bd hD
      obtain ⟨r3, g, hD⟩ := bd hD
      refine ew_callVv (as := [vi x2, vi x1]) (a := x0) (rest := []) dX9_fitsAll_15 v_X9_fitsRule w_1839 rfl (Nat.le_of_ble_eq_true rfl) rfl rfl g0 (Nat.le_of_ble_eq_true rfl) (Nat.le_of_ble_eq_true rfl) (ct_X9_fitsRule g) ?_
      by_cases c : r3 ≠ 0
      · rw [if_pos c] at hD
        refine ev_if_ne_t (tgt := 23) dX9_fitsAll_18 (by decide) c ?_
        refine ev_iinc dX9_fitsAll_23 2 rfl (Nat.le_of_ble_eq_true rfl) rfl ?_
        refine ev_goto (tgt := 2) dX9_fitsAll_26 (by decide) ?_
        refine Ev.pick [1, 2, 0] rfl ?_
        exact hrec hD hk
      · rw [if_neg c] at hD
        refine ev_if_ne_f 23 dX9_fitsAll_18 (by decide) c ?_
        refine ev_iconst dX9_fitsAll_21 (mi_c rfl) ?_
        obtain ⟨v4, gb, hD⟩ := bd hD
        cases hD
        obtain ⟨rfl, rfl⟩ := hk.2 _ rfl
        exact ew_retb dX9_fitsAll_22 rfl gb
def D_X9_fitsAll (x0 : Nat) (x1 : Int) (σ : mS) : Option Int :=
  (D_X9_fitsAll_2 mFU x0 x1 0 σ).bind fun r1 =>
  match r1 with
  | (Sum.inl z2) =>
    (bO 1).bind fun v3 =>
    some v3
  | (Sum.inr z4) =>
    some z4
set_option maxRecDepth 100000 in
set_option maxHeartbeats 4000000 in
theorem lk_X9_fitsAll {G : mG} {x0 : Nat} {x1 : Int} {σ : mS} {R : Int} (hD : D_X9_fitsAll x0 x1 σ = some R) : Ev G M_X9_fitsAll 0 [(0, vr x0), (1, vi x1)] [] σ (.inl (some (vi R))) σ := by
  unfold D_X9_fitsAll at hD
  refine ev_iconst dX9_fitsAll_0 (mi_c rfl) ?_
  refine ev_istore_n dX9_fitsAll_1 rfl (Nat.le_of_ble_eq_true rfl) rfl ?_
  obtain ⟨r1, g, hD⟩ := bd hD
  refine Ev.pick [1, 2, 0] rfl ?_
  rcases r1 with z2 | z4
  · refine lk_X9_fitsAll_2 mFU g ⟨(fun _ hz => ?_), (fun _ hz => nomatch hz)⟩
    cases hz
    refine ev_iconst dX9_fitsAll_29 (mi_c rfl) ?_
    obtain ⟨v3, gb, hD⟩ := bd hD
    cases hD
    exact ew_retb dX9_fitsAll_30 rfl gb
  · refine lk_X9_fitsAll_2 mFU g ⟨(fun _ hz => nomatch hz), (fun _ hz => ?_)⟩
    cases hz
    cases hD
    exact ⟨rfl, rfl⟩
theorem ct_X9_fitsAll {G : mG} {x0 : Nat} {x1 : Int} {σ : mS} {R : Int} (hD : D_X9_fitsAll x0 x1 σ = some R) : Ct G M_X9_fitsAll [vr x0, vi x1] σ (.inl (some (vi R))) σ := ct_of rfl (by decide +kernel) rfl (Nat.le_of_ble_eq_true rfl) rfl (lk_X9_fitsAll hD)
def D_X9_tries_13 : Nat → Nat → Int → mS → Option mS
  | 0, _, _, _ => none
  | f + 1, x0, x2, σ =>
    (gI σ x0 8 6).bind fun v1 =>
    if v1 ≤ x2 then
      some σ
    else
      (gR σ x0 8 51).bind fun v2 =>
      (sI σ v2 x2 ((-1))).bind fun s3 =>
      (D_X9_tries_13 f) x0 (mw (x2 + 1)) s3
set_option maxRecDepth 100000 in
set_option maxHeartbeats 4000000 in
theorem lk_X9_tries_13 {G : mG} {x1 : Int} (f : Nat) : ∀ {x0 : Nat} {x2 : Int} {σ : mS} {R : mS}, D_X9_tries_13 f x0 x2 σ = some R → ∀ {r : mX} {τ : mS}, Ev G M_X9_tries 34 [(0, vr x0), (1, vi x1)] [] R r τ → Ev G M_X9_tries 13 [(0, vr x0), (1, vi x1), (2, vi x2)] [] σ r τ := by
  induction f with
  | zero =>
    intros
    rename_i hD _ _ _
    cases hD
  | succ f ih =>
    intro x0 x2 σ R hD r τ hk
    have hrec := @ih
    rw [D_X9_tries_13] at hD
    refine ev_iload_n dX9_tries_13 2 rfl rfl ?_
    refine ev_aload_n dX9_tries_14 0 rfl rfl ?_
    obtain ⟨v1, g, hD⟩ := bd hD
    refine ew_getI 8 6 dX9_tries_15 rfl (Nat.le_of_ble_eq_true rfl) w_1271 in_X9 rfl g ?_
    by_cases c : v1 ≤ x2
    · rw [if_pos c] at hD
      refine ev_icmp_ge_t (tgt := 34) dX9_tries_18 (by decide) c ?_
      cases hD
      refine Ev.pick [0, 1] rfl ?_
      exact hk
    · rw [if_neg c] at hD
      refine ev_icmp_ge_f 34 dX9_tries_18 (by decide) c ?_
      refine ev_aload_n dX9_tries_21 0 rfl rfl ?_
      obtain ⟨v2, g, hD⟩ := bd hD
      refine ew_getR 8 51 dX9_tries_22 rfl (Nat.le_of_ble_eq_true rfl) w_1316 in_X9 rfl g ?_
      refine ev_iload_n dX9_tries_25 2 rfl rfl ?_
      refine ev_iconst dX9_tries_26 (mi_c rfl) ?_
      obtain ⟨s3, g, hD⟩ := bd hD
      refine ew_iast dX9_tries_27 g ?_
      refine ev_iinc dX9_tries_28 2 rfl (Nat.le_of_ble_eq_true rfl) rfl ?_
      refine ev_goto (tgt := 13) dX9_tries_31 (by decide) ?_
      refine Ev.pick [1, 2, 0] rfl ?_
      exact hrec hD hk
def D_X9_tries_55 : Nat → Nat → Int → Int → mS → Option Int
  | 0, _, _, _, _ => none
  | f + 1, x0, x1, x2, σ =>
    if 1000 ≤ x2 then
      some x2
    else
      (gR σ x0 8 14).bind fun v1 =>
      (lR σ v1 x1).bind fun v2 =>
      (lB σ v2 x2).bind fun v3 =>
      if v3 ≠ 0 then
        some x2
      else
        (D_X9_tries_55 f) x0 x1 (mw (x2 + 1)) σ
set_option maxRecDepth 100000 in
set_option maxHeartbeats 4000000 in
theorem lk_X9_tries_55 {G : mG} (f : Nat) : ∀ {x0 : Nat} {x1 : Int} {x2 : Int} {σ : mS} {R : Int}, D_X9_tries_55 f x0 x1 x2 σ = some R → ∀ {r : mX} {τ : mS}, Ev G M_X9_tries 79 [(0, vr x0), (1, vi x1), (2, vi (R))] [] σ r τ → Ev G M_X9_tries 55 [(0, vr x0), (1, vi x1), (2, vi x2)] [] σ r τ := by
  induction f with
  | zero =>
    intros
    rename_i hD _ _ _
    cases hD
  | succ f ih =>
    intro x0 x1 x2 σ R hD r τ hk
    have hrec := @ih
    rw [D_X9_tries_55] at hD
    refine ev_iload_n dX9_tries_55 2 rfl rfl ?_
    refine ev_sp dX9_tries_56 rfl ?_
    by_cases c : 1000 ≤ x2
    · rw [if_pos c] at hD
      refine ev_icmp_ge_t (tgt := 79) dX9_tries_59 (by decide) c ?_
      cases hD
      exact hk
    · rw [if_neg c] at hD
      refine ev_icmp_ge_f 79 dX9_tries_59 (by decide) c ?_
      refine ev_aload_n dX9_tries_62 0 rfl rfl ?_
      obtain ⟨v1, g, hD⟩ := bd hD
      refine ew_getR 8 14 dX9_tries_63 rfl (Nat.le_of_ble_eq_true rfl) w_1279 in_X9 rfl g ?_
      refine ev_iload_n dX9_tries_66 1 rfl rfl ?_
      obtain ⟨v2, g, hD⟩ := bd hD
      refine ew_aald dX9_tries_67 g ?_
      refine ev_iload_n dX9_tries_68 2 rfl rfl ?_
      obtain ⟨v3, g, hD⟩ := bd hD
      refine ew_bald dX9_tries_69 g ?_
      by_cases c : v3 ≠ 0
      · rw [if_pos c] at hD
        refine ev_if_ne_t (tgt := 79) dX9_tries_70 (by decide) c ?_
        cases hD
        exact hk
      · rw [if_neg c] at hD
        refine ev_if_ne_f 79 dX9_tries_70 (by decide) c ?_
        refine ev_iinc dX9_tries_73 2 rfl (Nat.le_of_ble_eq_true rfl) rfl ?_
        refine ev_goto (tgt := 55) dX9_tries_76 (by decide) ?_
        refine Ev.pick [1, 2, 0] rfl ?_
        exact hrec hD hk
def D_X9_tries_140 (rec : Nat → Int → mS → Option ((Int × mS) ⊕ (Int × mS))) (x0 : Nat) (x1 : Int) (σ : mS) : Option ((Int × mS) ⊕ (Int × mS)) :=
  rec x0 x1 σ
set_option maxRecDepth 100000 in
set_option maxHeartbeats 4000000 in
theorem lk_X9_tries_140 {G : mG} {rec : Nat → Int → mS → Option ((Int × mS) ⊕ (Int × mS))} {x0 : Nat} {x1 : Int} {σ : mS} {R : ((Int × mS) ⊕ (Int × mS))} {r : mX} {τ : mS} (hD : D_X9_tries_140 rec x0 x1 σ = some R) (hrec : ∀ {x0 : Nat} {x1 : Int} {σ : mS} {R : ((Int × mS) ⊕ (Int × mS))}, rec x0 x1 σ = some R → ∀ {r : mX} {τ : mS}, (∀ z, R = (Sum.inl z) → Ev G M_X9_tries 143 [(1, vi (z.1))] [] z.2 r τ) ∧ (∀ z, R = (Sum.inr z) → r = .inl (some (vi z.1)) ∧ τ = z.2) → Ev G M_X9_tries 34 [(0, vr x0), (1, vi x1)] [] σ r τ) (hk : (∀ z, R = (Sum.inl z) → Ev G M_X9_tries 143 [(1, vi (z.1))] [] z.2 r τ) ∧ (∀ z, R = (Sum.inr z) → r = .inl (some (vi z.1)) ∧ τ = z.2)) : Ev G M_X9_tries 140 [(0, vr x0), (1, vi x1)] [] σ r τ := by
  unfold D_X9_tries_140 at hD
  refine ev_goto (tgt := 34) dX9_tries_140 (by decide) ?_
  exact hrec hD hk
def D_X9_tries_79 (rec : Nat → Int → mS → Option ((Int × mS) ⊕ (Int × mS))) (x0 : Nat) (x1 : Int) (x2 : Int) (σ : mS) : Option ((Int × mS) ⊕ (Int × mS)) :=
  if x2 ≠ 1000 then
    (gI σ x0 8 52).bind fun v1 =>
    if v1 ≠ 20000 then
      (gI σ x0 8 52).bind fun v2 =>
      (pI σ x0 8 52 (mw (v2 + 1))).bind fun s3 =>
      (gR s3 x0 8 51).bind fun v4 =>
      (sI s3 v4 x1 x2).bind fun s5 =>
      (tgO s5 x0 8).bind fun _ =>
      (D_X9_fitsAll x0 x1 s5).bind fun r6 =>
      if r6 = 0 then
        D_X9_tries_140 rec x0 x1 s5
      else
        D_X9_tries_140 rec x0 (mw (x1 + 1)) s5
    else
      some (Sum.inr ((-2), σ))
  else
    (gR σ x0 8 51).bind fun v7 =>
    (sI σ v7 x1 ((-1))).bind fun s8 =>
    rec x0 (mw (x1 + (-1))) s8
set_option maxRecDepth 100000 in
set_option maxHeartbeats 4000000 in
theorem lk_X9_tries_79 {G : mG} {rec : Nat → Int → mS → Option ((Int × mS) ⊕ (Int × mS))} {x0 : Nat} {x1 : Int} {x2 : Int} {σ : mS} {R : ((Int × mS) ⊕ (Int × mS))} {r : mX} {τ : mS} (hD : D_X9_tries_79 rec x0 x1 x2 σ = some R) (hrec : ∀ {x0 : Nat} {x1 : Int} {σ : mS} {R : ((Int × mS) ⊕ (Int × mS))}, rec x0 x1 σ = some R → ∀ {r : mX} {τ : mS}, (∀ z, R = (Sum.inl z) → Ev G M_X9_tries 143 [(1, vi (z.1))] [] z.2 r τ) ∧ (∀ z, R = (Sum.inr z) → r = .inl (some (vi z.1)) ∧ τ = z.2) → Ev G M_X9_tries 34 [(0, vr x0), (1, vi x1)] [] σ r τ) (hk : (∀ z, R = (Sum.inl z) → Ev G M_X9_tries 143 [(1, vi (z.1))] [] z.2 r τ) ∧ (∀ z, R = (Sum.inr z) → r = .inl (some (vi z.1)) ∧ τ = z.2)) : Ev G M_X9_tries 79 [(0, vr x0), (1, vi x1), (2, vi x2)] [] σ r τ := by
  unfold D_X9_tries_79 at hD
  refine ev_iload_n dX9_tries_79 2 rfl rfl ?_
  refine ev_sp dX9_tries_80 rfl ?_
  by_cases c : x2 ≠ 1000
  · rw [if_pos c] at hD
    refine ev_icmp_ne_t (tgt := 99) dX9_tries_83 (by decide) c ?_
    refine ev_aload_n dX9_tries_99 0 rfl rfl ?_
    obtain ⟨v1, g, hD⟩ := bd hD
    refine ew_getI 8 52 dX9_tries_100 rfl (Nat.le_of_ble_eq_true rfl) w_1317 in_X9 rfl g ?_
    refine ev_sp dX9_tries_103 rfl ?_
    by_cases c : v1 ≠ 20000
    · rw [if_pos c] at hD
      refine ev_icmp_ne_t (tgt := 112) dX9_tries_106 (by decide) c ?_
      refine ev_aload_n dX9_tries_112 0 rfl rfl ?_
      refine ev_dup dX9_tries_113 rfl ?_
      obtain ⟨v2, g, hD⟩ := bd hD
      refine ew_getI 8 52 dX9_tries_114 rfl (Nat.le_of_ble_eq_true rfl) w_1317 in_X9 rfl g ?_
      refine ev_iconst dX9_tries_117 (mi_c rfl) ?_
      refine ev_iadd dX9_tries_118 ?_
      obtain ⟨s3, g, hD⟩ := bd hD
      refine ew_putI 8 52 dX9_tries_119 rfl (Nat.le_of_ble_eq_true rfl) w_1317 in_X9 tyX9_ok nmX9 (Or.inl rfl) rfl g ?_
      refine ev_aload_n dX9_tries_122 0 rfl rfl ?_
      obtain ⟨v4, g, hD⟩ := bd hD
      refine ew_getR 8 51 dX9_tries_123 rfl (Nat.le_of_ble_eq_true rfl) w_1316 in_X9 rfl g ?_
      refine ev_iload_n dX9_tries_126 1 rfl rfl ?_
      refine ev_iload_n dX9_tries_127 2 rfl rfl ?_
      obtain ⟨s5, g, hD⟩ := bd hD
      refine ew_iast dX9_tries_128 g ?_
      refine ev_aload_n dX9_tries_129 0 rfl rfl ?_
      refine ev_iload_n dX9_tries_130 1 rfl rfl ?_
      obtain ⟨_, g0, hD⟩ := bd hD
      obtain ⟨r6, g, hD⟩ := bd hD
      refine ew_callVv (as := [vi x1]) (a := x0) (rest := []) dX9_tries_131 v_X9_fitsAll w_1835 rfl (Nat.le_of_ble_eq_true rfl) rfl rfl g0 (Nat.le_of_ble_eq_true rfl) (Nat.le_of_ble_eq_true rfl) (ct_X9_fitsAll g) ?_
      by_cases c : r6 = 0
      · rw [if_pos c] at hD
        refine ev_if_eq_t (tgt := 140) dX9_tries_134 (by decide) c ?_
        refine Ev.pick [0, 1] rfl ?_
        exact lk_X9_tries_140 hD hrec hk
      · rw [if_neg c] at hD
        refine ev_if_eq_f 140 dX9_tries_134 (by decide) c ?_
        refine ev_iinc dX9_tries_137 1 rfl (Nat.le_of_ble_eq_true rfl) rfl ?_
        refine Ev.pick [1, 0] rfl ?_
        exact lk_X9_tries_140 hD hrec hk
    · rw [if_neg c] at hD
      refine ev_icmp_ne_f 112 dX9_tries_106 (by decide) c ?_
      refine ev_bp dX9_tries_109 rfl ?_
      cases hD
      obtain ⟨rfl, rfl⟩ := hk.2 _ rfl
      exact ev_ret (some (vi _)) dX9_tries_111 True.intro
  · rw [if_neg c] at hD
    refine ev_icmp_ne_f 99 dX9_tries_83 (by decide) c ?_
    refine ev_aload_n dX9_tries_86 0 rfl rfl ?_
    obtain ⟨v7, g, hD⟩ := bd hD
    refine ew_getR 8 51 dX9_tries_87 rfl (Nat.le_of_ble_eq_true rfl) w_1316 in_X9 rfl g ?_
    refine ev_iload_n dX9_tries_90 1 rfl rfl ?_
    refine ev_iconst dX9_tries_91 (mi_c rfl) ?_
    obtain ⟨s8, g, hD⟩ := bd hD
    refine ew_iast dX9_tries_92 g ?_
    refine ev_iinc dX9_tries_93 1 rfl (Nat.le_of_ble_eq_true rfl) rfl ?_
    refine ev_goto (tgt := 34) dX9_tries_96 (by decide) ?_
    refine Ev.pick [1, 0] rfl ?_
    exact hrec hD hk
def D_X9_tries_34 : Nat → Nat → Int → mS → Option ((Int × mS) ⊕ (Int × mS))
  | 0, _, _, _ => none
  | f + 1, x0, x1, σ =>
    if x1 < 0 then
      some (Sum.inl (x1, σ))
    else
      (gI σ x0 8 6).bind fun v1 =>
      if v1 ≤ x1 then
        some (Sum.inl (x1, σ))
      else
        (gR σ x0 8 51).bind fun v2 =>
        (lI σ v2 x1).bind fun v3 =>
        (D_X9_tries_55 mFU x0 x1 (mw (v3 + 1)) σ).bind fun r4 =>
        D_X9_tries_79 (D_X9_tries_34 f) x0 x1 r4 σ
set_option maxRecDepth 100000 in
set_option maxHeartbeats 4000000 in
theorem lk_X9_tries_34 {G : mG} (f : Nat) : ∀ {x0 : Nat} {x1 : Int} {σ : mS} {R : ((Int × mS) ⊕ (Int × mS))}, D_X9_tries_34 f x0 x1 σ = some R → ∀ {r : mX} {τ : mS}, (∀ z, R = (Sum.inl z) → Ev G M_X9_tries 143 [(1, vi (z.1))] [] z.2 r τ) ∧ (∀ z, R = (Sum.inr z) → r = .inl (some (vi z.1)) ∧ τ = z.2) → Ev G M_X9_tries 34 [(0, vr x0), (1, vi x1)] [] σ r τ := by
  induction f with
  | zero =>
    intros
    rename_i hD _ _ _
    cases hD
  | succ f ih =>
    intro x0 x1 σ R hD r τ hk
    have hrec := @ih
    rw [D_X9_tries_34] at hD
    refine ev_iload_n dX9_tries_34 1 rfl rfl ?_
    by_cases c : x1 < 0
    · rw [if_pos c] at hD
      refine ev_if_lt_t (tgt := 143) dX9_tries_35 (by decide) c ?_
      cases hD
      refine Ev.pick [1] rfl ?_
      exact hk.1 _ rfl
    · rw [if_neg c] at hD
      refine ev_if_lt_f 143 dX9_tries_35 (by decide) c ?_
      refine ev_iload_n dX9_tries_38 1 rfl rfl ?_
      refine ev_aload_n dX9_tries_39 0 rfl rfl ?_
      obtain ⟨v1, g, hD⟩ := bd hD
      refine ew_getI 8 6 dX9_tries_40 rfl (Nat.le_of_ble_eq_true rfl) w_1271 in_X9 rfl g ?_
      by_cases c : v1 ≤ x1
      · rw [if_pos c] at hD
        refine ev_icmp_ge_t (tgt := 143) dX9_tries_43 (by decide) c ?_
        cases hD
        refine Ev.pick [1] rfl ?_
        exact hk.1 _ rfl
      · rw [if_neg c] at hD
        refine ev_icmp_ge_f 143 dX9_tries_43 (by decide) c ?_
        refine ev_aload_n dX9_tries_46 0 rfl rfl ?_
        obtain ⟨v2, g, hD⟩ := bd hD
        refine ew_getR 8 51 dX9_tries_47 rfl (Nat.le_of_ble_eq_true rfl) w_1316 in_X9 rfl g ?_
        refine ev_iload_n dX9_tries_50 1 rfl rfl ?_
        obtain ⟨v3, g, hD⟩ := bd hD
        refine ew_iald dX9_tries_51 g ?_
        refine ev_iconst dX9_tries_52 (mi_c rfl) ?_
        refine ev_iadd dX9_tries_53 ?_
        refine ev_istore_n dX9_tries_54 rfl (Nat.le_of_ble_eq_true rfl) rfl ?_
        obtain ⟨r4, g, hD⟩ := bd hD
        refine Ev.pick [1, 2, 0] rfl ?_
        refine lk_X9_tries_55 mFU g ?_
        exact lk_X9_tries_79 hD hrec hk
def D_X9_tries_152 (y0 : Int) (σ : mS) : Option (Int × mS) :=
  some (y0, σ)
set_option maxRecDepth 100000 in
set_option maxHeartbeats 4000000 in
theorem lk_X9_tries_152 {G : mG} {y0 : Int} {σ : mS} {R : (Int × mS)} (hD : D_X9_tries_152 y0 σ = some R) : Ev G M_X9_tries 152 [] [vi y0] σ (.inl (some (vi R.1))) R.2 := by
  unfold D_X9_tries_152 at hD
  cases hD
  exact ev_ret (some (vi _)) dX9_tries_152 True.intro
def D_X9_tries_143 (x1 : Int) (σ : mS) : Option (Int × mS) :=
  if 0 ≤ x1 then
    D_X9_tries_152 1 σ
  else
    D_X9_tries_152 0 σ
set_option maxRecDepth 100000 in
set_option maxHeartbeats 4000000 in
theorem lk_X9_tries_143 {G : mG} {x1 : Int} {σ : mS} {R : (Int × mS)} (hD : D_X9_tries_143 x1 σ = some R) : Ev G M_X9_tries 143 [(1, vi x1)] [] σ (.inl (some (vi R.1))) R.2 := by
  unfold D_X9_tries_143 at hD
  refine ev_iload_n dX9_tries_143 0 rfl rfl ?_
  by_cases c : 0 ≤ x1
  · rw [if_pos c] at hD
    refine ev_if_ge_t (tgt := 151) dX9_tries_144 (by decide) c ?_
    refine ev_iconst dX9_tries_151 (mi_c rfl) ?_
    refine Ev.pick [] rfl ?_
    exact lk_X9_tries_152 hD
  · rw [if_neg c] at hD
    refine ev_if_ge_f 151 dX9_tries_144 (by decide) c ?_
    refine ev_iconst dX9_tries_147 (mi_c rfl) ?_
    refine ev_goto (tgt := 152) dX9_tries_148 (by decide) ?_
    refine Ev.pick [] rfl ?_
    exact lk_X9_tries_152 hD
def D_X9_tries (x0 : Nat) (σ : mS) : Option (Int × mS) :=
  (tgO σ x0 8).bind fun _ =>
  (D_X9_lays x0 σ).bind fun r1 =>
  (pI r1 x0 8 52 0).bind fun s2 =>
  (D_X9_tries_13 mFU x0 0 s2).bind fun r3 =>
  (D_X9_tries_34 mFU x0 0 r3).bind fun r4 =>
  match r4 with
  | (Sum.inl z5) =>
    D_X9_tries_143 z5.1 z5.2
  | (Sum.inr z6) =>
    some (z6.1, z6.2)
set_option maxRecDepth 100000 in
set_option maxHeartbeats 4000000 in
theorem lk_X9_tries {G : mG} {x0 : Nat} {σ : mS} {R : (Int × mS)} (hD : D_X9_tries x0 σ = some R) : Ev G M_X9_tries 0 [(0, vr x0)] [] σ (.inl (some (vi R.1))) R.2 := by
  unfold D_X9_tries at hD
  refine ev_aload_n dX9_tries_0 0 rfl rfl ?_
  obtain ⟨_, g0, hD⟩ := bd hD
  obtain ⟨r1, g, hD⟩ := bd hD
  refine ew_callV0 (as := []) (a := x0) (rest := []) dX9_tries_1 v_X9_lays w_1621 rfl (Nat.le_of_ble_eq_true rfl) rfl rfl g0 (Nat.le_of_ble_eq_true rfl) (Nat.le_of_ble_eq_true rfl) (ct_X9_lays g) ?_
  refine ev_aload_n dX9_tries_4 0 rfl rfl ?_
  refine ev_iconst dX9_tries_5 (mi_c rfl) ?_
  obtain ⟨s2, g, hD⟩ := bd hD
  refine ew_putI 8 52 dX9_tries_6 rfl (Nat.le_of_ble_eq_true rfl) w_1317 in_X9 tyX9_ok nmX9 (Or.inl rfl) rfl g ?_
  refine ev_iconst dX9_tries_9 (mi_c rfl) ?_
  refine ev_istore_n dX9_tries_10 rfl (Nat.le_of_ble_eq_true rfl) rfl ?_
  refine ev_iconst dX9_tries_11 (mi_c rfl) ?_
  refine ev_istore_n dX9_tries_12 rfl (Nat.le_of_ble_eq_true rfl) rfl ?_
  obtain ⟨r3, g, hD⟩ := bd hD
  refine Ev.pick [2, 1, 0] rfl ?_
  refine lk_X9_tries_13 mFU g ?_
  obtain ⟨r4, g, hD⟩ := bd hD
  rcases r4 with z5 | z6
  · refine lk_X9_tries_34 mFU g ⟨(fun _ hz => ?_), (fun _ hz => nomatch hz)⟩
    cases hz
    exact lk_X9_tries_143 hD
  · refine lk_X9_tries_34 mFU g ⟨(fun _ hz => nomatch hz), (fun _ hz => ?_)⟩
    cases hz
    cases hD
    exact ⟨rfl, rfl⟩
theorem ct_X9_tries {G : mG} {x0 : Nat} {σ : mS} {R : (Int × mS)} (hD : D_X9_tries x0 σ = some R) : Ct G M_X9_tries [vr x0] σ (.inl (some (vi R.1))) R.2 := ct_of rfl (by decide +kernel) rfl (Nat.le_of_ble_eq_true rfl) rfl (lk_X9_tries hD)
def D_X9_trial_39 (y0 : Int) (σ : mS) : Option (Int × mS) :=
  some (y0, σ)
set_option maxRecDepth 100000 in
set_option maxHeartbeats 4000000 in
theorem lk_X9_trial_39 {G : mG} {y0 : Int} {σ : mS} {R : (Int × mS)} (hD : D_X9_trial_39 y0 σ = some R) : Ev G M_X9_trial 39 [] [vi y0] σ (.inl (some (vi R.1))) R.2 := by
  unfold D_X9_trial_39 at hD
  cases hD
  exact ev_ret (some (vi _)) dX9_trial_39 True.intro
def D_X9_trial (x0 : Nat) (x1 : Int) (σ : mS) : Option (Int × mS) :=
  (pI σ x0 8 0 0).bind fun s1 =>
  (D_X9_within x1 0 1 s1).bind fun r2 =>
  (tgO s1 x0 8).bind fun _ =>
  (D_X9_isFine x0 r2 1 1 s1).bind fun r3 =>
  if r3.1 ≠ 0 then
    (tgO r3.2 x0 8).bind fun _ =>
    (D_X9_tries x0 r3.2).bind fun r4 =>
    if x1 ≠ 0 then
      (gI r4.2 x0 8 52).bind fun v5 =>
      D_X9_trial_39 v5 r4.2
    else
      D_X9_trial_39 r4.1 r4.2
  else
    some (0, r3.2)
set_option maxRecDepth 100000 in
set_option maxHeartbeats 4000000 in
theorem lk_X9_trial {G : mG} {x0 : Nat} {x1 : Int} {σ : mS} {R : (Int × mS)} (hD : D_X9_trial x0 x1 σ = some R) : Ev G M_X9_trial 0 [(0, vr x0), (1, vi x1)] [] σ (.inl (some (vi R.1))) R.2 := by
  unfold D_X9_trial at hD
  refine ev_aload_n dX9_trial_0 0 rfl rfl ?_
  refine ev_iconst dX9_trial_1 (mi_c rfl) ?_
  obtain ⟨s1, g, hD⟩ := bd hD
  refine ew_putI 8 0 dX9_trial_2 rfl (Nat.le_of_ble_eq_true rfl) w_1265 in_X9 tyX9_ok nmX9 (Or.inl rfl) rfl g ?_
  refine ev_aload_n dX9_trial_5 0 rfl rfl ?_
  refine ev_iload_n dX9_trial_6 1 rfl rfl ?_
  refine ev_iconst dX9_trial_7 (mi_c rfl) ?_
  refine ev_iconst dX9_trial_8 (mi_c rfl) ?_
  obtain ⟨r2, g, hD⟩ := bd hD
  refine ew_callSv (as := [vi x1, vi 0, vi 1]) (rest := [vr x0]) dX9_trial_9 v_X9_within w_1438 rfl (Nat.le_of_ble_eq_true rfl) (Nat.le_of_ble_eq_true rfl) (Nat.le_of_ble_eq_true rfl) (ct_X9_within g) ?_
  refine ev_iconst dX9_trial_12 (mi_c rfl) ?_
  refine ev_iconst dX9_trial_13 (mi_c rfl) ?_
  obtain ⟨_, g0, hD⟩ := bd hD
  obtain ⟨r3, g, hD⟩ := bd hD
  refine ew_callVv (as := [vi r2, vi 1, vi 1]) (a := x0) (rest := []) dX9_trial_14 v_X9_isFine w_1441 rfl (Nat.le_of_ble_eq_true rfl) rfl rfl g0 (Nat.le_of_ble_eq_true rfl) (Nat.le_of_ble_eq_true rfl) (ct_X9_isFine g) ?_
  by_cases c : r3.1 ≠ 0
  · rw [if_pos c] at hD
    refine ev_if_ne_t (tgt := 22) dX9_trial_17 (by decide) c ?_
    refine ev_aload_n dX9_trial_22 0 rfl rfl ?_
    obtain ⟨_, g0, hD⟩ := bd hD
    obtain ⟨r4, g, hD⟩ := bd hD
    refine ew_callVv (as := []) (a := x0) (rest := []) dX9_trial_23 v_X9_tries w_1831 rfl (Nat.le_of_ble_eq_true rfl) rfl rfl g0 (Nat.le_of_ble_eq_true rfl) (Nat.le_of_ble_eq_true rfl) (ct_X9_tries g) ?_
    refine ev_istore_n dX9_trial_26 rfl (Nat.le_of_ble_eq_true rfl) rfl ?_
    refine ev_iload_n dX9_trial_27 2 rfl rfl ?_
    by_cases c : x1 ≠ 0
    · rw [if_pos c] at hD
      refine ev_if_ne_t (tgt := 35) dX9_trial_28 (by decide) c ?_
      refine ev_aload_n dX9_trial_35 1 rfl rfl ?_
      obtain ⟨v5, g, hD⟩ := bd hD
      refine ew_getI 8 52 dX9_trial_36 rfl (Nat.le_of_ble_eq_true rfl) w_1317 in_X9 rfl g ?_
      refine Ev.pick [] rfl ?_
      exact lk_X9_trial_39 hD
    · rw [if_neg c] at hD
      refine ev_if_ne_f 35 dX9_trial_28 (by decide) c ?_
      refine ev_iload_n dX9_trial_31 0 rfl rfl ?_
      refine ev_goto (tgt := 39) dX9_trial_32 (by decide) ?_
      refine Ev.pick [] rfl ?_
      exact lk_X9_trial_39 hD
  · rw [if_neg c] at hD
    refine ev_if_ne_f 22 dX9_trial_17 (by decide) c ?_
    refine ev_iconst dX9_trial_20 (mi_c rfl) ?_
    cases hD
    exact ev_ret (some (vi _)) dX9_trial_21 True.intro
theorem ct_X9_trial {G : mG} {x0 : Nat} {x1 : Int} {σ : mS} {R : (Int × mS)} (hD : D_X9_trial x0 x1 σ = some R) : Ct G M_X9_trial [vr x0, vi x1] σ (.inl (some (vi R.1))) R.2 := ct_of rfl (by decide +kernel) rfl (Nat.le_of_ble_eq_true rfl) rfl (lk_X9_trial hD)
def D_X9_tried_33 (y0 : Int) (σ : mS) : Option (Int × mS) :=
  some (y0, σ)
set_option maxRecDepth 100000 in
set_option maxHeartbeats 4000000 in
theorem lk_X9_tried_33 {G : mG} {y0 : Int} {σ : mS} {R : (Int × mS)} (hD : D_X9_tried_33 y0 σ = some R) : Ev G M_X9_tried 33 [] [vi y0] σ (.inl (some (vi R.1))) R.2 := by
  unfold D_X9_tried_33 at hD
  cases hD
  exact ev_ret (some (vi _)) dX9_tried_33 True.intro
def D_X9_tried (x0 : Nat) (x1 : Int) (σ : mS) : Option (Int × mS) :=
  (pI σ x0 8 0 0).bind fun s1 =>
  (tgO s1 x0 8).bind fun _ =>
  (D_X9_isSample x0 x1 s1).bind fun r2 =>
  if r2.1 ≠ 0 then
    (tgO r2.2 x0 8).bind fun _ =>
    (D_X9_tries x0 r2.2).bind fun r3 =>
    if r3.1 ≠ 1 then
      D_X9_tried_33 ((-1)) r3.2
    else
      (gR r3.2 x0 8 51).bind fun v4 =>
      (lI r3.2 v4 x1).bind fun v5 =>
      D_X9_tried_33 v5 r3.2
  else
    some (0, r2.2)
set_option maxRecDepth 100000 in
set_option maxHeartbeats 4000000 in
theorem lk_X9_tried {G : mG} {x0 : Nat} {x1 : Int} {σ : mS} {R : (Int × mS)} (hD : D_X9_tried x0 x1 σ = some R) : Ev G M_X9_tried 0 [(0, vr x0), (1, vi x1)] [] σ (.inl (some (vi R.1))) R.2 := by
  unfold D_X9_tried at hD
  refine ev_aload_n dX9_tried_0 0 rfl rfl ?_
  refine ev_iconst dX9_tried_1 (mi_c rfl) ?_
  obtain ⟨s1, g, hD⟩ := bd hD
  refine ew_putI 8 0 dX9_tried_2 rfl (Nat.le_of_ble_eq_true rfl) w_1265 in_X9 tyX9_ok nmX9 (Or.inl rfl) rfl g ?_
  refine ev_aload_n dX9_tried_5 0 rfl rfl ?_
  refine ev_iload_n dX9_tried_6 1 rfl rfl ?_
  obtain ⟨_, g0, hD⟩ := bd hD
  obtain ⟨r2, g, hD⟩ := bd hD
  refine ew_callVv (as := [vi x1]) (a := x0) (rest := []) dX9_tried_7 v_X9_isSample w_1593 rfl (Nat.le_of_ble_eq_true rfl) rfl rfl g0 (Nat.le_of_ble_eq_true rfl) (Nat.le_of_ble_eq_true rfl) (ct_X9_isSample g) ?_
  by_cases c : r2.1 ≠ 0
  · rw [if_pos c] at hD
    refine ev_if_ne_t (tgt := 15) dX9_tried_10 (by decide) c ?_
    refine ev_aload_n dX9_tried_15 0 rfl rfl ?_
    obtain ⟨_, g0, hD⟩ := bd hD
    obtain ⟨r3, g, hD⟩ := bd hD
    refine ew_callVv (as := []) (a := x0) (rest := []) dX9_tried_16 v_X9_tries w_1831 rfl (Nat.le_of_ble_eq_true rfl) rfl rfl g0 (Nat.le_of_ble_eq_true rfl) (Nat.le_of_ble_eq_true rfl) (ct_X9_tries g) ?_
    refine ev_iconst dX9_tried_19 (mi_c rfl) ?_
    by_cases c : r3.1 ≠ 1
    · rw [if_pos c] at hD
      refine ev_icmp_ne_t (tgt := 32) dX9_tried_20 (by decide) c ?_
      refine ev_iconst dX9_tried_32 (mi_c rfl) ?_
      refine Ev.pick [] rfl ?_
      exact lk_X9_tried_33 hD
    · rw [if_neg c] at hD
      refine ev_icmp_ne_f 32 dX9_tried_20 (by decide) c ?_
      refine ev_aload_n dX9_tried_23 0 rfl rfl ?_
      obtain ⟨v4, g, hD⟩ := bd hD
      refine ew_getR 8 51 dX9_tried_24 rfl (Nat.le_of_ble_eq_true rfl) w_1316 in_X9 rfl g ?_
      refine ev_iload_n dX9_tried_27 1 rfl rfl ?_
      obtain ⟨v5, g, hD⟩ := bd hD
      refine ew_iald dX9_tried_28 g ?_
      refine ev_goto (tgt := 33) dX9_tried_29 (by decide) ?_
      refine Ev.pick [] rfl ?_
      exact lk_X9_tried_33 hD
  · rw [if_neg c] at hD
    refine ev_if_ne_f 15 dX9_tried_10 (by decide) c ?_
    refine ev_iconst dX9_tried_13 (mi_c rfl) ?_
    cases hD
    exact ev_ret (some (vi _)) dX9_tried_14 True.intro
theorem ct_X9_tried {G : mG} {x0 : Nat} {x1 : Int} {σ : mS} {R : (Int × mS)} (hD : D_X9_tried x0 x1 σ = some R) : Ct G M_X9_tried [vr x0, vi x1] σ (.inl (some (vi R.1))) R.2 := ct_of rfl (by decide +kernel) rfl (Nat.le_of_ble_eq_true rfl) rfl (lk_X9_tried hD)
def D_X9_loosened_46 (rec : Nat → Int → Int → mS → Option (Int × mS)) (x0 : Nat) (x2 : Int) (x3 : Int) (σ : mS) : Option (Int × mS) :=
  rec x0 x2 (mw (x3 + (-1))) σ
set_option maxRecDepth 100000 in
set_option maxHeartbeats 4000000 in
theorem lk_X9_loosened_46 {G : mG} {rec : Nat → Int → Int → mS → Option (Int × mS)} {x0 : Nat} {x1 : Int} {x2 : Int} {x3 : Int} {σ : mS} {R : (Int × mS)} {r : mX} {τ : mS} (hD : D_X9_loosened_46 rec x0 x2 x3 σ = some R) (hrec : ∀ {x0 : Nat} {x2 : Int} {x3 : Int} {σ : mS} {R : (Int × mS)}, rec x0 x2 x3 σ = some R → ∀ {r : mX} {τ : mS}, Ev G M_X9_loosened 52 [(0, vr x0), (1, vi x1), (2, vi (R.1))] [] R.2 r τ → Ev G M_X9_loosened 16 [(0, vr x0), (1, vi x1), (2, vi x2), (3, vi x3)] [] σ r τ) (hk : Ev G M_X9_loosened 52 [(0, vr x0), (1, vi x1), (2, vi (R.1))] [] R.2 r τ) : Ev G M_X9_loosened 46 [(0, vr x0), (1, vi x1), (2, vi x2), (3, vi x3)] [] σ r τ := by
  unfold D_X9_loosened_46 at hD
  refine ev_iinc dX9_loosened_46 3 rfl (Nat.le_of_ble_eq_true rfl) rfl ?_
  refine ev_goto (tgt := 16) dX9_loosened_49 (by decide) ?_
  refine Ev.pick [1, 2, 3, 0] rfl ?_
  exact hrec hD hk
def D_X9_loosened_16 : Nat → Nat → Int → Int → mS → Option (Int × mS)
  | 0, _, _, _, _ => none
  | f + 1, x0, x2, x3, σ =>
    if x3 < 1 then
      some (x2, σ)
    else
      (gR σ x0 8 2).bind fun v1 =>
      (sI σ v1 0 x3).bind fun s2 =>
      (pB s2 x0 8 16 0).bind fun s3 =>
      (tgO s3 x0 8).bind fun _ =>
      (D_X9_lays x0 s3).bind fun r4 =>
      (gI r4 x0 8 24).bind fun v5 =>
      if v5 ≠ 0 then
        D_X9_loosened_46 (D_X9_loosened_16 f) x0 x2 x3 r4
      else
        D_X9_loosened_46 (D_X9_loosened_16 f) x0 x3 x3 r4
set_option maxRecDepth 100000 in
set_option maxHeartbeats 4000000 in
theorem lk_X9_loosened_16 {G : mG} {x1 : Int} (f : Nat) : ∀ {x0 : Nat} {x2 : Int} {x3 : Int} {σ : mS} {R : (Int × mS)}, D_X9_loosened_16 f x0 x2 x3 σ = some R → ∀ {r : mX} {τ : mS}, Ev G M_X9_loosened 52 [(0, vr x0), (1, vi x1), (2, vi (R.1))] [] R.2 r τ → Ev G M_X9_loosened 16 [(0, vr x0), (1, vi x1), (2, vi x2), (3, vi x3)] [] σ r τ := by
  induction f with
  | zero =>
    intros
    rename_i hD _ _ _
    cases hD
  | succ f ih =>
    intro x0 x2 x3 σ R hD r τ hk
    have hrec := @ih
    rw [D_X9_loosened_16] at hD
    refine ev_iload_n dX9_loosened_16 3 rfl rfl ?_
    refine ev_iconst dX9_loosened_17 (mi_c rfl) ?_
    by_cases c : x3 < 1
    · rw [if_pos c] at hD
      refine ev_icmp_lt_t (tgt := 52) dX9_loosened_18 (by decide) c ?_
      cases hD
      refine Ev.pick [0, 1, 2] rfl ?_
      exact hk
    · rw [if_neg c] at hD
      refine ev_icmp_lt_f 52 dX9_loosened_18 (by decide) c ?_
      refine ev_aload_n dX9_loosened_21 0 rfl rfl ?_
      obtain ⟨v1, g, hD⟩ := bd hD
      refine ew_getR 8 2 dX9_loosened_22 rfl (Nat.le_of_ble_eq_true rfl) w_1267 in_X9 rfl g ?_
      refine ev_iconst dX9_loosened_25 (mi_c rfl) ?_
      refine ev_iload_n dX9_loosened_26 3 rfl rfl ?_
      obtain ⟨s2, g, hD⟩ := bd hD
      refine ew_iast dX9_loosened_27 g ?_
      refine ev_aload_n dX9_loosened_28 0 rfl rfl ?_
      refine ev_iconst dX9_loosened_29 (mi_c rfl) ?_
      obtain ⟨s3, g, hD⟩ := bd hD
      refine ew_putB 8 16 dX9_loosened_30 rfl (Nat.le_of_ble_eq_true rfl) w_1281 in_X9 tyX9_ok nmX9 (Or.inl rfl) rfl g ?_
      refine ev_aload_n dX9_loosened_33 0 rfl rfl ?_
      obtain ⟨_, g0, hD⟩ := bd hD
      obtain ⟨r4, g, hD⟩ := bd hD
      refine ew_callV0 (as := []) (a := x0) (rest := []) dX9_loosened_34 v_X9_lays w_1621 rfl (Nat.le_of_ble_eq_true rfl) rfl rfl g0 (Nat.le_of_ble_eq_true rfl) (Nat.le_of_ble_eq_true rfl) (ct_X9_lays g) ?_
      refine ev_aload_n dX9_loosened_37 0 rfl rfl ?_
      obtain ⟨v5, g, hD⟩ := bd hD
      refine ew_getI 8 24 dX9_loosened_38 rfl (Nat.le_of_ble_eq_true rfl) w_1289 in_X9 rfl g ?_
      by_cases c : v5 ≠ 0
      · rw [if_pos c] at hD
        refine ev_if_ne_t (tgt := 46) dX9_loosened_41 (by decide) c ?_
        exact lk_X9_loosened_46 hD hrec hk
      · rw [if_neg c] at hD
        refine ev_if_ne_f 46 dX9_loosened_41 (by decide) c ?_
        refine ev_iload_n dX9_loosened_44 3 rfl rfl ?_
        refine ev_istore_n dX9_loosened_45 rfl (Nat.le_of_ble_eq_true rfl) rfl ?_
        refine Ev.pick [1, 2, 0, 3] rfl ?_
        exact lk_X9_loosened_46 hD hrec hk
def D_X9_loosened (x0 : Nat) (σ : mS) : Option (Int × mS) :=
  (pI σ x0 8 0 0).bind fun s1 =>
  (gR s1 x0 8 2).bind fun v2 =>
  (lI s1 v2 0).bind fun v3 =>
  (D_X9_loosened_16 mFU x0 ((-1)) 3 s1).bind fun r4 =>
  (gR r4.2 x0 8 2).bind fun v5 =>
  (sI r4.2 v5 0 v3).bind fun s6 =>
  (pB s6 x0 8 16 0).bind fun s7 =>
  some (r4.1, s7)
set_option maxRecDepth 100000 in
set_option maxHeartbeats 4000000 in
theorem lk_X9_loosened {G : mG} {x0 : Nat} {σ : mS} {R : (Int × mS)} (hD : D_X9_loosened x0 σ = some R) : Ev G M_X9_loosened 0 [(0, vr x0)] [] σ (.inl (some (vi R.1))) R.2 := by
  unfold D_X9_loosened at hD
  refine ev_aload_n dX9_loosened_0 0 rfl rfl ?_
  refine ev_iconst dX9_loosened_1 (mi_c rfl) ?_
  obtain ⟨s1, g, hD⟩ := bd hD
  refine ew_putI 8 0 dX9_loosened_2 rfl (Nat.le_of_ble_eq_true rfl) w_1265 in_X9 tyX9_ok nmX9 (Or.inl rfl) rfl g ?_
  refine ev_aload_n dX9_loosened_5 0 rfl rfl ?_
  obtain ⟨v2, g, hD⟩ := bd hD
  refine ew_getR 8 2 dX9_loosened_6 rfl (Nat.le_of_ble_eq_true rfl) w_1267 in_X9 rfl g ?_
  refine ev_iconst dX9_loosened_9 (mi_c rfl) ?_
  obtain ⟨v3, g, hD⟩ := bd hD
  refine ew_iald dX9_loosened_10 g ?_
  refine ev_istore_n dX9_loosened_11 rfl (Nat.le_of_ble_eq_true rfl) rfl ?_
  refine ev_iconst dX9_loosened_12 (mi_c rfl) ?_
  refine ev_istore_n dX9_loosened_13 rfl (Nat.le_of_ble_eq_true rfl) rfl ?_
  refine ev_iconst dX9_loosened_14 (mi_c rfl) ?_
  refine ev_istore_n dX9_loosened_15 rfl (Nat.le_of_ble_eq_true rfl) rfl ?_
  obtain ⟨r4, g, hD⟩ := bd hD
  refine Ev.pick [3, 2, 1, 0] rfl ?_
  refine lk_X9_loosened_16 mFU g ?_
  refine ev_aload_n dX9_loosened_52 0 rfl rfl ?_
  obtain ⟨v5, g, hD⟩ := bd hD
  refine ew_getR 8 2 dX9_loosened_53 rfl (Nat.le_of_ble_eq_true rfl) w_1267 in_X9 rfl g ?_
  refine ev_iconst dX9_loosened_56 (mi_c rfl) ?_
  refine ev_iload_n dX9_loosened_57 1 rfl rfl ?_
  obtain ⟨s6, g, hD⟩ := bd hD
  refine ew_iast dX9_loosened_58 g ?_
  refine ev_aload_n dX9_loosened_59 0 rfl rfl ?_
  refine ev_iconst dX9_loosened_60 (mi_c rfl) ?_
  obtain ⟨s7, g, hD⟩ := bd hD
  refine ew_putB 8 16 dX9_loosened_61 rfl (Nat.le_of_ble_eq_true rfl) w_1281 in_X9 tyX9_ok nmX9 (Or.inl rfl) rfl g ?_
  refine ev_iload_n dX9_loosened_64 2 rfl rfl ?_
  cases hD
  exact ev_ret (some (vi _)) dX9_loosened_65 True.intro
theorem ct_X9_loosened {G : mG} {x0 : Nat} {σ : mS} {R : (Int × mS)} (hD : D_X9_loosened x0 σ = some R) : Ct G M_X9_loosened [vr x0] σ (.inl (some (vi R.1))) R.2 := ct_of rfl (by decide +kernel) rfl (Nat.le_of_ble_eq_true rfl) rfl (lk_X9_loosened hD)
def D_X9_isQuietBy_47 (y0 : Int) (σ : mS) : Option (Int × mS) :=
  (bO y0).bind fun v1 =>
  some (v1, σ)
set_option maxRecDepth 100000 in
set_option maxHeartbeats 4000000 in
theorem lk_X9_isQuietBy_47 {G : mG} {y0 : Int} {σ : mS} {R : (Int × mS)} (hD : D_X9_isQuietBy_47 y0 σ = some R) : Ev G M_X9_isQuietBy 47 [] [vi y0] σ (.inl (some (vi R.1))) R.2 := by
  unfold D_X9_isQuietBy_47 at hD
  obtain ⟨v1, gb, hD⟩ := bd hD
  cases hD
  exact ew_retb dX9_isQuietBy_47 rfl gb
def D_X9_isQuietBy (x0 : Nat) (x1 : Int) (σ : mS) : Option (Int × mS) :=
  (gR σ x0 8 2).bind fun v1 =>
  (lI σ v1 1).bind fun v2 =>
  (gR σ x0 8 2).bind fun v3 =>
  (sI σ v3 1 x1).bind fun s4 =>
  (pB s4 x0 8 16 0).bind fun s5 =>
  (tgO s5 x0 8).bind fun _ =>
  (D_X9_lays x0 s5).bind fun r6 =>
  (gR r6 x0 8 2).bind fun v7 =>
  (sI r6 v7 1 v2).bind fun s8 =>
  (pB s8 x0 8 16 0).bind fun s9 =>
  (gI s9 x0 8 24).bind fun v10 =>
  if v10 ≠ 0 then
    D_X9_isQuietBy_47 0 s9
  else
    D_X9_isQuietBy_47 1 s9
set_option maxRecDepth 100000 in
set_option maxHeartbeats 4000000 in
theorem lk_X9_isQuietBy {G : mG} {x0 : Nat} {x1 : Int} {σ : mS} {R : (Int × mS)} (hD : D_X9_isQuietBy x0 x1 σ = some R) : Ev G M_X9_isQuietBy 0 [(0, vr x0), (1, vi x1)] [] σ (.inl (some (vi R.1))) R.2 := by
  unfold D_X9_isQuietBy at hD
  refine ev_aload_n dX9_isQuietBy_0 0 rfl rfl ?_
  obtain ⟨v1, g, hD⟩ := bd hD
  refine ew_getR 8 2 dX9_isQuietBy_1 rfl (Nat.le_of_ble_eq_true rfl) w_1267 in_X9 rfl g ?_
  refine ev_iconst dX9_isQuietBy_4 (mi_c rfl) ?_
  obtain ⟨v2, g, hD⟩ := bd hD
  refine ew_iald dX9_isQuietBy_5 g ?_
  refine ev_istore_n dX9_isQuietBy_6 rfl (Nat.le_of_ble_eq_true rfl) rfl ?_
  refine ev_aload_n dX9_isQuietBy_7 1 rfl rfl ?_
  obtain ⟨v3, g, hD⟩ := bd hD
  refine ew_getR 8 2 dX9_isQuietBy_8 rfl (Nat.le_of_ble_eq_true rfl) w_1267 in_X9 rfl g ?_
  refine ev_iconst dX9_isQuietBy_11 (mi_c rfl) ?_
  refine ev_iload_n dX9_isQuietBy_12 2 rfl rfl ?_
  obtain ⟨s4, g, hD⟩ := bd hD
  refine ew_iast dX9_isQuietBy_13 g ?_
  refine ev_aload_n dX9_isQuietBy_14 1 rfl rfl ?_
  refine ev_iconst dX9_isQuietBy_15 (mi_c rfl) ?_
  obtain ⟨s5, g, hD⟩ := bd hD
  refine ew_putB 8 16 dX9_isQuietBy_16 rfl (Nat.le_of_ble_eq_true rfl) w_1281 in_X9 tyX9_ok nmX9 (Or.inl rfl) rfl g ?_
  refine ev_aload_n dX9_isQuietBy_19 1 rfl rfl ?_
  obtain ⟨_, g0, hD⟩ := bd hD
  obtain ⟨r6, g, hD⟩ := bd hD
  refine ew_callV0 (as := []) (a := x0) (rest := []) dX9_isQuietBy_20 v_X9_lays w_1621 rfl (Nat.le_of_ble_eq_true rfl) rfl rfl g0 (Nat.le_of_ble_eq_true rfl) (Nat.le_of_ble_eq_true rfl) (ct_X9_lays g) ?_
  refine ev_aload_n dX9_isQuietBy_23 1 rfl rfl ?_
  obtain ⟨v7, g, hD⟩ := bd hD
  refine ew_getR 8 2 dX9_isQuietBy_24 rfl (Nat.le_of_ble_eq_true rfl) w_1267 in_X9 rfl g ?_
  refine ev_iconst dX9_isQuietBy_27 (mi_c rfl) ?_
  refine ev_iload_n dX9_isQuietBy_28 0 rfl rfl ?_
  obtain ⟨s8, g, hD⟩ := bd hD
  refine ew_iast dX9_isQuietBy_29 g ?_
  refine ev_aload_n dX9_isQuietBy_30 1 rfl rfl ?_
  refine ev_iconst dX9_isQuietBy_31 (mi_c rfl) ?_
  obtain ⟨s9, g, hD⟩ := bd hD
  refine ew_putB 8 16 dX9_isQuietBy_32 rfl (Nat.le_of_ble_eq_true rfl) w_1281 in_X9 tyX9_ok nmX9 (Or.inl rfl) rfl g ?_
  refine ev_aload_n dX9_isQuietBy_35 1 rfl rfl ?_
  obtain ⟨v10, g, hD⟩ := bd hD
  refine ew_getI 8 24 dX9_isQuietBy_36 rfl (Nat.le_of_ble_eq_true rfl) w_1289 in_X9 rfl g ?_
  by_cases c : v10 ≠ 0
  · rw [if_pos c] at hD
    refine ev_if_ne_t (tgt := 46) dX9_isQuietBy_39 (by decide) c ?_
    refine ev_iconst dX9_isQuietBy_46 (mi_c rfl) ?_
    refine Ev.pick [] rfl ?_
    exact lk_X9_isQuietBy_47 hD
  · rw [if_neg c] at hD
    refine ev_if_ne_f 46 dX9_isQuietBy_39 (by decide) c ?_
    refine ev_iconst dX9_isQuietBy_42 (mi_c rfl) ?_
    refine ev_goto (tgt := 47) dX9_isQuietBy_43 (by decide) ?_
    refine Ev.pick [] rfl ?_
    exact lk_X9_isQuietBy_47 hD
theorem ct_X9_isQuietBy {G : mG} {x0 : Nat} {x1 : Int} {σ : mS} {R : (Int × mS)} (hD : D_X9_isQuietBy x0 x1 σ = some R) : Ct G M_X9_isQuietBy [vr x0, vi x1] σ (.inl (some (vi R.1))) R.2 := ct_of rfl (by decide +kernel) rfl (Nat.le_of_ble_eq_true rfl) rfl (lk_X9_isQuietBy hD)
def D_X9_shifted_7 : Nat → Nat → Int → mS → Option (mS ⊕ (Int × mS))
  | 0, _, _, _ => none
  | f + 1, x0, x1, σ =>
    if 500 < x1 then
      some (Sum.inl σ)
    else
      (tgO σ x0 8).bind fun _ =>
      (D_X9_isQuietBy x0 (mw (-x1)) σ).bind fun r1 =>
      if r1.1 = 0 then
        (tgO r1.2 x0 8).bind fun _ =>
        (D_X9_isQuietBy x0 x1 r1.2).bind fun r2 =>
        if r2.1 = 0 then
          (D_X9_shifted_7 f) x0 (mw (x1 + 1)) r2.2
        else
          some (Sum.inr (x1, r2.2))
      else
        some (Sum.inr ((mw (-x1)), r1.2))
set_option maxRecDepth 100000 in
set_option maxHeartbeats 4000000 in
theorem lk_X9_shifted_7 {G : mG} (f : Nat) : ∀ {x0 : Nat} {x1 : Int} {σ : mS} {R : (mS ⊕ (Int × mS))}, D_X9_shifted_7 f x0 x1 σ = some R → ∀ {r : mX} {τ : mS}, (∀ z, R = (Sum.inl z) → Ev G M_X9_shifted 42 [] [] z r τ) ∧ (∀ z, R = (Sum.inr z) → r = .inl (some (vi z.1)) ∧ τ = z.2) → Ev G M_X9_shifted 7 [(0, vr x0), (1, vi x1)] [] σ r τ := by
  induction f with
  | zero =>
    intros
    rename_i hD _ _ _
    cases hD
  | succ f ih =>
    intro x0 x1 σ R hD r τ hk
    have hrec := @ih
    rw [D_X9_shifted_7] at hD
    refine ev_iload_n dX9_shifted_7 1 rfl rfl ?_
    refine ev_sp dX9_shifted_8 rfl ?_
    by_cases c : 500 < x1
    · rw [if_pos c] at hD
      refine ev_icmp_gt_t (tgt := 42) dX9_shifted_11 (by decide) c ?_
      cases hD
      refine Ev.pick [] rfl ?_
      exact hk.1 _ rfl
    · rw [if_neg c] at hD
      refine ev_icmp_gt_f 42 dX9_shifted_11 (by decide) c ?_
      refine ev_aload_n dX9_shifted_14 0 rfl rfl ?_
      refine ev_iload_n dX9_shifted_15 1 rfl rfl ?_
      refine ev_ineg dX9_shifted_16 ?_
      obtain ⟨_, g0, hD⟩ := bd hD
      obtain ⟨r1, g, hD⟩ := bd hD
      refine ew_callVv (as := [vi (mw (-x1))]) (a := x0) (rest := []) dX9_shifted_17 v_X9_isQuietBy w_1859 rfl (Nat.le_of_ble_eq_true rfl) rfl rfl g0 (Nat.le_of_ble_eq_true rfl) (Nat.le_of_ble_eq_true rfl) (ct_X9_isQuietBy g) ?_
      by_cases c : r1.1 = 0
      · rw [if_pos c] at hD
        refine ev_if_eq_t (tgt := 26) dX9_shifted_20 (by decide) c ?_
        refine ev_aload_n dX9_shifted_26 0 rfl rfl ?_
        refine ev_iload_n dX9_shifted_27 1 rfl rfl ?_
        obtain ⟨_, g0, hD⟩ := bd hD
        obtain ⟨r2, g, hD⟩ := bd hD
        refine ew_callVv (as := [vi x1]) (a := x0) (rest := []) dX9_shifted_28 v_X9_isQuietBy w_1859 rfl (Nat.le_of_ble_eq_true rfl) rfl rfl g0 (Nat.le_of_ble_eq_true rfl) (Nat.le_of_ble_eq_true rfl) (ct_X9_isQuietBy g) ?_
        by_cases c : r2.1 = 0
        · rw [if_pos c] at hD
          refine ev_if_eq_t (tgt := 36) dX9_shifted_31 (by decide) c ?_
          refine ev_iinc dX9_shifted_36 1 rfl (Nat.le_of_ble_eq_true rfl) rfl ?_
          refine ev_goto (tgt := 7) dX9_shifted_39 (by decide) ?_
          refine Ev.pick [1, 0] rfl ?_
          exact hrec hD hk
        · rw [if_neg c] at hD
          refine ev_if_eq_f 36 dX9_shifted_31 (by decide) c ?_
          refine ev_iload_n dX9_shifted_34 1 rfl rfl ?_
          cases hD
          obtain ⟨rfl, rfl⟩ := hk.2 _ rfl
          exact ev_ret (some (vi _)) dX9_shifted_35 True.intro
      · rw [if_neg c] at hD
        refine ev_if_eq_f 26 dX9_shifted_20 (by decide) c ?_
        refine ev_iload_n dX9_shifted_23 1 rfl rfl ?_
        refine ev_ineg dX9_shifted_24 ?_
        cases hD
        obtain ⟨rfl, rfl⟩ := hk.2 _ rfl
        exact ev_ret (some (vi _)) dX9_shifted_25 True.intro
def D_X9_shifted (x0 : Nat) (σ : mS) : Option (Int × mS) :=
  (pI σ x0 8 0 0).bind fun s1 =>
  (D_X9_shifted_7 mFU x0 0 s1).bind fun r2 =>
  match r2 with
  | (Sum.inl z3) =>
    some ((-9999), z3)
  | (Sum.inr z4) =>
    some (z4.1, z4.2)
set_option maxRecDepth 100000 in
set_option maxHeartbeats 4000000 in
theorem lk_X9_shifted {G : mG} {x0 : Nat} {σ : mS} {R : (Int × mS)} (hD : D_X9_shifted x0 σ = some R) : Ev G M_X9_shifted 0 [(0, vr x0)] [] σ (.inl (some (vi R.1))) R.2 := by
  unfold D_X9_shifted at hD
  refine ev_aload_n dX9_shifted_0 0 rfl rfl ?_
  refine ev_iconst dX9_shifted_1 (mi_c rfl) ?_
  obtain ⟨s1, g, hD⟩ := bd hD
  refine ew_putI 8 0 dX9_shifted_2 rfl (Nat.le_of_ble_eq_true rfl) w_1265 in_X9 tyX9_ok nmX9 (Or.inl rfl) rfl g ?_
  refine ev_iconst dX9_shifted_5 (mi_c rfl) ?_
  refine ev_istore_n dX9_shifted_6 rfl (Nat.le_of_ble_eq_true rfl) rfl ?_
  obtain ⟨r2, g, hD⟩ := bd hD
  refine Ev.pick [1, 0] rfl ?_
  rcases r2 with z3 | z4
  · refine lk_X9_shifted_7 mFU g ⟨(fun _ hz => ?_), (fun _ hz => nomatch hz)⟩
    cases hz
    refine ev_sp dX9_shifted_42 rfl ?_
    cases hD
    exact ev_ret (some (vi _)) dX9_shifted_45 True.intro
  · refine lk_X9_shifted_7 mFU g ⟨(fun _ hz => nomatch hz), (fun _ hz => ?_)⟩
    cases hz
    cases hD
    exact ⟨rfl, rfl⟩
theorem ct_X9_shifted {G : mG} {x0 : Nat} {σ : mS} {R : (Int × mS)} (hD : D_X9_shifted x0 σ = some R) : Ct G M_X9_shifted [vr x0] σ (.inl (some (vi R.1))) R.2 := ct_of rfl (by decide +kernel) rfl (Nat.le_of_ble_eq_true rfl) rfl (lk_X9_shifted hD)
def D_X9_print_75 (rec : Nat → BitVec 64 → Int → Int → mS → Option (BitVec 64)) (x0 : Nat) (x1 : BitVec 64) (x3 : Int) (x4 : Int) (σ : mS) : Option (BitVec 64) :=
  rec x0 x1 x3 (mw (x4 + 1)) σ
set_option maxRecDepth 100000 in
set_option maxHeartbeats 4000000 in
theorem lk_X9_print_75 {G : mG} {rec : Nat → BitVec 64 → Int → Int → mS → Option (BitVec 64)} {x0 : Nat} {x1 : BitVec 64} {x3 : Int} {x4 : Int} {σ : mS} {R : BitVec 64} {r : mX} {τ : mS} (hD : D_X9_print_75 rec x0 x1 x3 x4 σ = some R) (hrec : ∀ {x0 : Nat} {x1 : BitVec 64} {x3 : Int} {x4 : Int} {σ : mS} {R : BitVec 64}, rec x0 x1 x3 x4 σ = some R → ∀ {r : mX} {τ : mS}, Ev G M_X9_print 81 [(0, vr x0), (1, vl (R)), (3, vi x3)] [] σ r τ → Ev G M_X9_print 24 [(0, vr x0), (1, vl x1), (3, vi x3), (4, vi x4)] [] σ r τ) (hk : Ev G M_X9_print 81 [(0, vr x0), (1, vl (R)), (3, vi x3)] [] σ r τ) : Ev G M_X9_print 75 [(0, vr x0), (1, vl x1), (3, vi x3), (4, vi x4)] [] σ r τ := by
  unfold D_X9_print_75 at hD
  refine ev_iinc dX9_print_75 3 rfl (Nat.le_of_ble_eq_true rfl) rfl ?_
  refine ev_goto (tgt := 24) dX9_print_78 (by decide) ?_
  refine Ev.pick [1, 2, 3, 0] rfl ?_
  exact hrec hD hk
def D_X9_print_24 : Nat → Nat → BitVec 64 → Int → Int → mS → Option (BitVec 64)
  | 0, _, _, _, _, _ => none
  | f + 1, x0, x1, x3, x4, σ =>
    if 1000 ≤ x4 then
      some x1
    else
      (gR σ x0 8 14).bind fun v1 =>
      (lR σ v1 x3).bind fun v2 =>
      (tgO σ x0 8).bind fun _ =>
      (D_X9_begins x0 v2 x4 σ).bind fun r3 =>
      if r3 ≠ 0 then
        (tgO σ x0 8).bind fun _ =>
        (D_X9_intervalTo x0 x3 x4 σ).bind fun r4 =>
        D_X9_print_75 (D_X9_print_24 f) x0 (((31 : BitVec 64) * (((31 : BitVec 64) * x1) + (mi2l x4))) + (mi2l r4)) x3 x4 σ
      else
        D_X9_print_75 (D_X9_print_24 f) x0 x1 x3 x4 σ
set_option maxRecDepth 100000 in
set_option maxHeartbeats 4000000 in
theorem lk_X9_print_24 {G : mG} (f : Nat) : ∀ {x0 : Nat} {x1 : BitVec 64} {x3 : Int} {x4 : Int} {σ : mS} {R : BitVec 64}, D_X9_print_24 f x0 x1 x3 x4 σ = some R → ∀ {r : mX} {τ : mS}, Ev G M_X9_print 81 [(0, vr x0), (1, vl (R)), (3, vi x3)] [] σ r τ → Ev G M_X9_print 24 [(0, vr x0), (1, vl x1), (3, vi x3), (4, vi x4)] [] σ r τ := by
  induction f with
  | zero =>
    intros
    rename_i hD _ _ _
    cases hD
  | succ f ih =>
    intro x0 x1 x3 x4 σ R hD r τ hk
    have hrec := @ih
    rw [D_X9_print_24] at hD
    refine ev_iload dX9_print_24 3 rfl ?_
    refine ev_sp dX9_print_26 rfl ?_
    by_cases c : 1000 ≤ x4
    · rw [if_pos c] at hD
      refine ev_icmp_ge_t (tgt := 81) dX9_print_29 (by decide) c ?_
      cases hD
      refine Ev.pick [0, 1, 2] rfl ?_
      exact hk
    · rw [if_neg c] at hD
      refine ev_icmp_ge_f 81 dX9_print_29 (by decide) c ?_
      refine ev_aload_n dX9_print_32 0 rfl rfl ?_
      refine ev_aload_n dX9_print_33 0 rfl rfl ?_
      obtain ⟨v1, g, hD⟩ := bd hD
      refine ew_getR 8 14 dX9_print_34 rfl (Nat.le_of_ble_eq_true rfl) w_1279 in_X9 rfl g ?_
      refine ev_iload_n dX9_print_37 2 rfl rfl ?_
      obtain ⟨v2, g, hD⟩ := bd hD
      refine ew_aald dX9_print_38 g ?_
      refine ev_iload dX9_print_39 3 rfl ?_
      obtain ⟨_, g0, hD⟩ := bd hD
      obtain ⟨r3, g, hD⟩ := bd hD
      refine ew_callVv (as := [vr v2, vi x4]) (a := x0) (rest := []) dX9_print_41 v_X9_begins w_1739 rfl (Nat.le_of_ble_eq_true rfl) rfl rfl g0 (Nat.le_of_ble_eq_true rfl) (Nat.le_of_ble_eq_true rfl) (ct_X9_begins g) ?_
      by_cases c : r3 ≠ 0
      · rw [if_pos c] at hD
        refine ev_if_ne_t (tgt := 50) dX9_print_44 (by decide) c ?_
        refine ev_ldc2 dX9_print_50 w_1867 ?_
        refine ev_lload_n dX9_print_53 1 rfl rfl ?_
        refine ev_lmul dX9_print_54 ?_
        refine ev_iload dX9_print_55 3 rfl ?_
        refine ev_i2l dX9_print_57 ?_
        refine ev_ladd dX9_print_58 ?_
        refine ev_lstore_n dX9_print_59 rfl (Nat.le_of_ble_eq_true rfl) rfl ?_
        refine ev_ldc2 dX9_print_60 w_1867 ?_
        refine ev_lload_n dX9_print_63 0 rfl rfl ?_
        refine ev_lmul dX9_print_64 ?_
        refine ev_aload_n dX9_print_65 1 rfl rfl ?_
        refine ev_iload_n dX9_print_66 2 rfl rfl ?_
        refine ev_iload dX9_print_67 3 rfl ?_
        obtain ⟨_, g0, hD⟩ := bd hD
        obtain ⟨r4, g, hD⟩ := bd hD
        refine ew_callVv (as := [vi x3, vi x4]) (a := x0) (rest := [vl ((31 : BitVec 64) * (((31 : BitVec 64) * x1) + (mi2l x4)))]) dX9_print_69 v_X9_intervalTo w_1755 rfl (Nat.le_of_ble_eq_true rfl) rfl rfl g0 (Nat.le_of_ble_eq_true rfl) (Nat.le_of_ble_eq_true rfl) (ct_X9_intervalTo g) ?_
        refine ev_i2l dX9_print_72 ?_
        refine ev_ladd dX9_print_73 ?_
        refine ev_lstore_n dX9_print_74 rfl (Nat.le_of_ble_eq_true rfl) rfl ?_
        refine Ev.pick [1, 0, 2, 3] rfl ?_
        exact lk_X9_print_75 hD hrec hk
      · rw [if_neg c] at hD
        refine ev_if_ne_f 50 dX9_print_44 (by decide) c ?_
        refine ev_goto (tgt := 75) dX9_print_47 (by decide) ?_
        exact lk_X9_print_75 hD hrec hk
def D_X9_print_13 : Nat → Nat → BitVec 64 → Int → mS → Option (BitVec 64)
  | 0, _, _, _, _ => none
  | f + 1, x0, x1, x3, σ =>
    (gI σ x0 8 6).bind fun v1 =>
    if v1 ≤ x3 then
      some x1
    else
      (D_X9_print_24 mFU x0 x1 x3 0 σ).bind fun r2 =>
      (D_X9_print_13 f) x0 ((31 : BitVec 64) * r2) (mw (x3 + 1)) σ
set_option maxRecDepth 100000 in
set_option maxHeartbeats 4000000 in
theorem lk_X9_print_13 {G : mG} (f : Nat) : ∀ {x0 : Nat} {x1 : BitVec 64} {x3 : Int} {σ : mS} {R : BitVec 64}, D_X9_print_13 f x0 x1 x3 σ = some R → ∀ {r : mX} {τ : mS}, Ev G M_X9_print 93 [(1, vl (R))] [] σ r τ → Ev G M_X9_print 13 [(0, vr x0), (1, vl x1), (3, vi x3)] [] σ r τ := by
  induction f with
  | zero =>
    intros
    rename_i hD _ _ _
    cases hD
  | succ f ih =>
    intro x0 x1 x3 σ R hD r τ hk
    have hrec := @ih
    rw [D_X9_print_13] at hD
    refine ev_iload_n dX9_print_13 2 rfl rfl ?_
    refine ev_aload_n dX9_print_14 0 rfl rfl ?_
    obtain ⟨v1, g, hD⟩ := bd hD
    refine ew_getI 8 6 dX9_print_15 rfl (Nat.le_of_ble_eq_true rfl) w_1271 in_X9 rfl g ?_
    by_cases c : v1 ≤ x3
    · rw [if_pos c] at hD
      refine ev_icmp_ge_t (tgt := 93) dX9_print_18 (by decide) c ?_
      cases hD
      refine Ev.pick [1] rfl ?_
      exact hk
    · rw [if_neg c] at hD
      refine ev_icmp_ge_f 93 dX9_print_18 (by decide) c ?_
      refine ev_iconst dX9_print_21 (mi_c rfl) ?_
      refine ev_istore dX9_print_22 (Nat.le_of_ble_eq_true rfl) rfl ?_
      obtain ⟨r2, g, hD⟩ := bd hD
      refine Ev.pick [1, 2, 3, 0] rfl ?_
      refine lk_X9_print_24 mFU g ?_
      refine ev_ldc2 dX9_print_81 w_1867 ?_
      refine ev_lload_n dX9_print_84 1 rfl rfl ?_
      refine ev_lmul dX9_print_85 ?_
      refine ev_lstore_n dX9_print_86 rfl (Nat.le_of_ble_eq_true rfl) rfl ?_
      refine ev_iinc dX9_print_87 2 rfl (Nat.le_of_ble_eq_true rfl) rfl ?_
      refine ev_goto (tgt := 13) dX9_print_90 (by decide) ?_
      refine Ev.pick [2, 1, 0] rfl ?_
      exact hrec hD hk
def D_X9_print (x0 : Nat) (σ : mS) : Option (BitVec 64 × mS) :=
  (pI σ x0 8 0 0).bind fun s1 =>
  (tgO s1 x0 8).bind fun _ =>
  (D_X9_lays x0 s1).bind fun r2 =>
  (D_X9_print_13 mFU x0 (0 : BitVec 64) 0 r2).bind fun r3 =>
  some (r3, r2)
set_option maxRecDepth 100000 in
set_option maxHeartbeats 4000000 in
theorem lk_X9_print {G : mG} {x0 : Nat} {σ : mS} {R : (BitVec 64 × mS)} (hD : D_X9_print x0 σ = some R) : Ev G M_X9_print 0 [(0, vr x0)] [] σ (.inl (some (vl R.1))) R.2 := by
  unfold D_X9_print at hD
  refine ev_aload_n dX9_print_0 0 rfl rfl ?_
  refine ev_iconst dX9_print_1 (mi_c rfl) ?_
  obtain ⟨s1, g, hD⟩ := bd hD
  refine ew_putI 8 0 dX9_print_2 rfl (Nat.le_of_ble_eq_true rfl) w_1265 in_X9 tyX9_ok nmX9 (Or.inl rfl) rfl g ?_
  refine ev_aload_n dX9_print_5 0 rfl rfl ?_
  obtain ⟨_, g0, hD⟩ := bd hD
  obtain ⟨r2, g, hD⟩ := bd hD
  refine ew_callV0 (as := []) (a := x0) (rest := []) dX9_print_6 v_X9_lays w_1621 rfl (Nat.le_of_ble_eq_true rfl) rfl rfl g0 (Nat.le_of_ble_eq_true rfl) (Nat.le_of_ble_eq_true rfl) (ct_X9_lays g) ?_
  refine ev_lconst (w := 0) dX9_print_9 rfl ?_
  refine ev_lstore_n dX9_print_10 rfl (Nat.le_of_ble_eq_true rfl) rfl ?_
  refine ev_iconst dX9_print_11 (mi_c rfl) ?_
  refine ev_istore_n dX9_print_12 rfl (Nat.le_of_ble_eq_true rfl) rfl ?_
  obtain ⟨r3, g, hD⟩ := bd hD
  refine Ev.pick [2, 1, 0] rfl ?_
  refine lk_X9_print_13 mFU g ?_
  refine ev_lload_n dX9_print_93 0 rfl rfl ?_
  cases hD
  exact ev_ret (some (vl _)) dX9_print_94 True.intro
theorem ct_X9_print {G : mG} {x0 : Nat} {σ : mS} {R : (BitVec 64 × mS)} (hD : D_X9_print x0 σ = some R) : Ct G M_X9_print [vr x0] σ (.inl (some (vl R.1))) R.2 := ct_of rfl (by decide +kernel) rfl (Nat.le_of_ble_eq_true rfl) rfl (lk_X9_print hD)
def D_X9_status_24 (y0 : Int) (σ : mS) : Option (Int × mS) :=
  some (y0, σ)
set_option maxRecDepth 100000 in
set_option maxHeartbeats 4000000 in
theorem lk_X9_status_24 {G : mG} {y0 : Int} {σ : mS} {R : (Int × mS)} (hD : D_X9_status_24 y0 σ = some R) : Ev G M_X9_status 24 [] [vi y0] σ (.inl (some (vi R.1))) R.2 := by
  unfold D_X9_status_24 at hD
  cases hD
  exact ev_ret (some (vi _)) dX9_status_24 True.intro
def D_X9_status (x0 : Nat) (x1 : Int) (σ : mS) : Option (Int × mS) :=
  (pI σ x0 8 0 0).bind fun s1 =>
  (D_X9_within x1 0 2 s1).bind fun r2 =>
  if r2 = 0 then
    D_X9_status_24 ((-1)) s1
  else
    (gR s1 x0 8 1).bind fun v3 =>
    (lI s1 v3 x1).bind fun v4 =>
    D_X9_status_24 v4 s1
set_option maxRecDepth 100000 in
set_option maxHeartbeats 4000000 in
theorem lk_X9_status {G : mG} {x0 : Nat} {x1 : Int} {σ : mS} {R : (Int × mS)} (hD : D_X9_status x0 x1 σ = some R) : Ev G M_X9_status 0 [(0, vr x0), (1, vi x1)] [] σ (.inl (some (vi R.1))) R.2 := by
  unfold D_X9_status at hD
  refine ev_aload_n dX9_status_0 0 rfl rfl ?_
  refine ev_iconst dX9_status_1 (mi_c rfl) ?_
  obtain ⟨s1, g, hD⟩ := bd hD
  refine ew_putI 8 0 dX9_status_2 rfl (Nat.le_of_ble_eq_true rfl) w_1265 in_X9 tyX9_ok nmX9 (Or.inl rfl) rfl g ?_
  refine ev_iload_n dX9_status_5 1 rfl rfl ?_
  refine ev_iconst dX9_status_6 (mi_c rfl) ?_
  refine ev_iconst dX9_status_7 (mi_c rfl) ?_
  obtain ⟨r2, g, hD⟩ := bd hD
  refine ew_callSv (as := [vi x1, vi 0, vi 2]) (rest := []) dX9_status_8 v_X9_within w_1438 rfl (Nat.le_of_ble_eq_true rfl) (Nat.le_of_ble_eq_true rfl) (Nat.le_of_ble_eq_true rfl) (ct_X9_within g) ?_
  by_cases c : r2 = 0
  · rw [if_pos c] at hD
    refine ev_if_eq_t (tgt := 23) dX9_status_11 (by decide) c ?_
    refine ev_iconst dX9_status_23 (mi_c rfl) ?_
    refine Ev.pick [] rfl ?_
    exact lk_X9_status_24 hD
  · rw [if_neg c] at hD
    refine ev_if_eq_f 23 dX9_status_11 (by decide) c ?_
    refine ev_aload_n dX9_status_14 0 rfl rfl ?_
    obtain ⟨v3, g, hD⟩ := bd hD
    refine ew_getR 8 1 dX9_status_15 rfl (Nat.le_of_ble_eq_true rfl) w_1266 in_X9 rfl g ?_
    refine ev_iload_n dX9_status_18 1 rfl rfl ?_
    obtain ⟨v4, g, hD⟩ := bd hD
    refine ew_iald dX9_status_19 g ?_
    refine ev_goto (tgt := 24) dX9_status_20 (by decide) ?_
    refine Ev.pick [] rfl ?_
    exact lk_X9_status_24 hD
theorem ct_X9_status {G : mG} {x0 : Nat} {x1 : Int} {σ : mS} {R : (Int × mS)} (hD : D_X9_status x0 x1 σ = some R) : Ct G M_X9_status [vr x0, vi x1] σ (.inl (some (vi R.1))) R.2 := ct_of rfl (by decide +kernel) rfl (Nat.le_of_ble_eq_true rfl) rfl (lk_X9_status hD)
