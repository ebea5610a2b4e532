def D_L_text (x0 : Nat) (x1 : Int) (x2 : Nat) (σ : mS) : Option (Int × mS) :=
  (tgO σ x0 7).bind fun _ =>
  (D_X8_text x0 x1 σ).bind fun r1 =>
  match r1 with
  | (Sum.inl v2, s4) =>
    (sL s4 x2 0 (mi2l v2)).bind fun s5 =>
    some (0, s5)
  | (Sum.inr e3, s4) =>
    if e3 = 1 then
      some (1, s4)
    else
      none
set_option maxRecDepth 100000 in
set_option maxHeartbeats 4000000 in
theorem lk_L_text {G : mG} {x0 : Nat} {x1 : Int} {x2 : Nat} {σ : mS} {R : (Int × mS)} (hnc : ∀ q ∈ mNcs, va_Nc q.1 q.2 G.1) (hD : D_L_text x0 x1 x2 σ = some R) : Ev G M_L_text 0 [(0, vr x0), (1, vi x1), (2, vr x2)] [] σ (.inl (some (vi R.1))) R.2 := by
  unfold D_L_text at hD
  refine ev_aload_n dL_text_0 2 rfl rfl ?_
  refine ev_iconst dL_text_1 (mi_c rfl) ?_
  refine ev_aload_n dL_text_2 0 rfl rfl ?_
  refine ev_iload_n dL_text_3 1 rfl rfl ?_
  obtain ⟨_, g0, hD⟩ := bd hD
  obtain ⟨r1, g, hD⟩ := bd hD
  obtain ⟨v2 | e3, s4⟩ := r1
  · refine ew_callVv (as := [vi x1]) (a := x0) (rest := [vi 0, vr x2]) dL_text_4 v_X8_text w_710 rfl (Nat.le_of_ble_eq_true rfl) rfl rfl g0 (Nat.le_of_ble_eq_true rfl) (Nat.le_of_ble_eq_true rfl) (ct_X8_text g) ?_
    dsimp only at hD
    refine ev_i2l dL_text_7 ?_
    obtain ⟨s5, g, hD⟩ := bd hD
    refine ew_last dL_text_8 g ?_
    refine ev_goto (tgt := 15) dL_text_9 (by decide) ?_
    refine ev_iconst dL_text_15 (mi_c rfl) ?_
    cases hD
    exact ev_ret (some (vi _)) dL_text_16 True.intro
  · dsimp only at hD
    by_cases c0 : e3 = 1
    · rw [if_pos c0] at hD
      subst c0
      refine ev_catV (as := [vi x1]) (a := x0) (rest := [vi 0, vr x2]) (E := 1) (i := 3) dL_text_4 v_X8_text w_710 rfl (Nat.le_of_ble_eq_true rfl) rfl rfl (tgO_s g0) (Nat.le_of_ble_eq_true rfl) (Nat.le_of_ble_eq_true rfl) hnc [] (0, 9, 12, 13) [] rfl (fun z hz => nomatch hz) (by decide) (by decide) w_709 w_t720 (ct_X8_text g) (Or.inl ⟨_, rfl, rfl, rfl⟩) dL_text_12 (Nat.le_of_ble_eq_true rfl) rfl ?_
      refine ev_iconst dL_text_13 (mi_c rfl) ?_
      cases hD
      exact ev_ret (some (vi _)) dL_text_14 True.intro
    rw [if_neg c0] at hD
    cases hD
theorem ct_L_text {G : mG} {x0 : Nat} {x1 : Int} {x2 : Nat} {σ : mS} {R : (Int × mS)} (hnc : ∀ q ∈ mNcs, va_Nc q.1 q.2 G.1) (hD : D_L_text x0 x1 x2 σ = some R) : Ct G M_L_text [vr x0, vi x1, vr x2] σ (.inl (some (vi R.1))) R.2 := ct_ofH rfl (by decide +kernel) rfl (Nat.le_of_ble_eq_true rfl) rfl (lk_L_text hnc hD)
def D_L_set (x0 : Nat) (x1 : Int) (x2 : Int) (x3 : Nat) (σ : mS) : Option (Int × mS) :=
  (tgO σ x0 7).bind fun _ =>
  (D_X8_set x0 x1 x2 σ).bind fun r1 =>
  match r1 with
  | (Sum.inl v2, s4) =>
    (sL s4 x3 0 (mi2l v2)).bind fun s5 =>
    some (0, s5)
  | (Sum.inr e3, s4) =>
    if e3 = 1 then
      some (1, s4)
    else
      none
set_option maxRecDepth 100000 in
set_option maxHeartbeats 4000000 in
theorem lk_L_set {G : mG} {x0 : Nat} {x1 : Int} {x2 : Int} {x3 : Nat} {σ : mS} {R : (Int × mS)} (hnc : ∀ q ∈ mNcs, va_Nc q.1 q.2 G.1) (hD : D_L_set x0 x1 x2 x3 σ = some R) : Ev G M_L_set 0 [(0, vr x0), (1, vi x1), (2, vi x2), (3, vr x3)] [] σ (.inl (some (vi R.1))) R.2 := by
  unfold D_L_set at hD
  refine ev_aload_n dL_set_0 3 rfl rfl ?_
  refine ev_iconst dL_set_1 (mi_c rfl) ?_
  refine ev_aload_n dL_set_2 0 rfl rfl ?_
  refine ev_iload_n dL_set_3 1 rfl rfl ?_
  refine ev_iload_n dL_set_4 2 rfl rfl ?_
  obtain ⟨_, g0, hD⟩ := bd hD
  obtain ⟨r1, g, hD⟩ := bd hD
  obtain ⟨v2 | e3, s4⟩ := r1
  · refine ew_callVv (as := [vi x1, vi x2]) (a := x0) (rest := [vi 0, vr x3]) dL_set_5 v_X8_set w_952 rfl (Nat.le_of_ble_eq_true rfl) rfl rfl g0 (Nat.le_of_ble_eq_true rfl) (Nat.le_of_ble_eq_true rfl) (ct_X8_set g) ?_
    dsimp only at hD
    refine ev_i2l dL_set_8 ?_
    obtain ⟨s5, g, hD⟩ := bd hD
    refine ew_last dL_set_9 g ?_
    refine ev_goto (tgt := 17) dL_set_10 (by decide) ?_
    refine ev_iconst dL_set_17 (mi_c rfl) ?_
    cases hD
    exact ev_ret (some (vi _)) dL_set_18 True.intro
  · dsimp only at hD
    by_cases c0 : e3 = 1
    · rw [if_pos c0] at hD
      subst c0
      refine ev_catV (as := [vi x1, vi x2]) (a := x0) (rest := [vi 0, vr x3]) (E := 1) (i := 4) dL_set_5 v_X8_set w_952 rfl (Nat.le_of_ble_eq_true rfl) rfl rfl (tgO_s g0) (Nat.le_of_ble_eq_true rfl) (Nat.le_of_ble_eq_true rfl) hnc [] (0, 10, 13, 13) [] rfl (fun z hz => nomatch hz) (by decide) (by decide) w_709 w_t720 (ct_X8_set g) (Or.inr ⟨rfl, rfl⟩) dL_set_13 (Nat.le_of_ble_eq_true rfl) rfl ?_
      refine ev_iconst dL_set_15 (mi_c rfl) ?_
      cases hD
      exact ev_ret (some (vi _)) dL_set_16 True.intro
    rw [if_neg c0] at hD
    cases hD
theorem ct_L_set {G : mG} {x0 : Nat} {x1 : Int} {x2 : Int} {x3 : Nat} {σ : mS} {R : (Int × mS)} (hnc : ∀ q ∈ mNcs, va_Nc q.1 q.2 G.1) (hD : D_L_set x0 x1 x2 x3 σ = some R) : Ct G M_L_set [vr x0, vi x1, vi x2, vr x3] σ (.inl (some (vi R.1))) R.2 := ct_ofH rfl (by decide +kernel) rfl (Nat.le_of_ble_eq_true rfl) rfl (lk_L_set hnc hD)
def D_L_redate (x0 : Nat) (x1 : Int) (x2 : Int) (x3 : Int) (x4 : Nat) (σ : mS) : Option (Int × mS) :=
  (tgO σ x0 7).bind fun _ =>
  (D_X8_redate x0 x1 x2 x3 σ).bind fun r1 =>
  match r1 with
  | (Sum.inl v2, s4) =>
    (sL s4 x4 0 (mi2l v2)).bind fun s5 =>
    some (0, s5)
  | (Sum.inr e3, s4) =>
    if e3 = 0 then
      some (1, s4)
    else
    if e3 = 1 then
      some (2, s4)
    else
      none
set_option maxRecDepth 100000 in
set_option maxHeartbeats 4000000 in
theorem lk_L_redate {G : mG} {x0 : Nat} {x1 : Int} {x2 : Int} {x3 : Int} {x4 : Nat} {σ : mS} {R : (Int × mS)} (hnc : ∀ q ∈ mNcs, va_Nc q.1 q.2 G.1) (hD : D_L_redate x0 x1 x2 x3 x4 σ = some R) : Ev G M_L_redate 0 [(0, vr x0), (1, vi x1), (2, vi x2), (3, vi x3), (4, vr x4)] [] σ (.inl (some (vi R.1))) R.2 := by
  unfold D_L_redate at hD
  refine ev_aload dL_redate_0 4 rfl ?_
  refine ev_iconst dL_redate_2 (mi_c rfl) ?_
  refine ev_aload_n dL_redate_3 0 rfl rfl ?_
  refine ev_iload_n dL_redate_4 1 rfl rfl ?_
  refine ev_iload_n dL_redate_5 2 rfl rfl ?_
  refine ev_iload_n dL_redate_6 3 rfl rfl ?_
  obtain ⟨_, g0, hD⟩ := bd hD
  obtain ⟨r1, g, hD⟩ := bd hD
  obtain ⟨v2 | e3, s4⟩ := r1
  · refine ew_callVv (as := [vi x1, vi x2, vi x3]) (a := x0) (rest := [vi 0, vr x4]) dL_redate_7 v_X8_redate w_964 rfl (Nat.le_of_ble_eq_true rfl) rfl rfl g0 (Nat.le_of_ble_eq_true rfl) (Nat.le_of_ble_eq_true rfl) (ct_X8_redate g) ?_
    dsimp only at hD
    refine ev_i2l dL_redate_10 ?_
    obtain ⟨s5, g, hD⟩ := bd hD
    refine ew_last dL_redate_11 g ?_
    refine ev_goto (tgt := 23) dL_redate_12 (by decide) ?_
    refine ev_iconst dL_redate_23 (mi_c rfl) ?_
    cases hD
    exact ev_ret (some (vi _)) dL_redate_24 True.intro
  · dsimp only at hD
    by_cases c0 : e3 = 0
    · rw [if_pos c0] at hD
      subst c0
      refine ev_catV (as := [vi x1, vi x2, vi x3]) (a := x0) (rest := [vi 0, vr x4]) (E := 0) (i := 5) dL_redate_7 v_X8_redate w_964 rfl (Nat.le_of_ble_eq_true rfl) rfl rfl (tgO_s g0) (Nat.le_of_ble_eq_true rfl) (Nat.le_of_ble_eq_true rfl) hnc [] (0, 12, 15, 23) [(0, 12, 19, 13)] rfl (fun z hz => nomatch hz) (by decide) (by decide) w_963 w_t978 (ct_X8_redate g) (Or.inr ⟨rfl, rfl⟩) dL_redate_15 (Nat.le_of_ble_eq_true rfl) rfl ?_
      refine ev_iconst dL_redate_17 (mi_c rfl) ?_
      cases hD
      exact ev_ret (some (vi _)) dL_redate_18 True.intro
    rw [if_neg c0] at hD
    by_cases c1 : e3 = 1
    · rw [if_pos c1] at hD
      subst c1
      refine ev_catV (as := [vi x1, vi x2, vi x3]) (a := x0) (rest := [vi 0, vr x4]) (E := 1) (i := 5) dL_redate_7 v_X8_redate w_964 rfl (Nat.le_of_ble_eq_true rfl) rfl rfl (tgO_s g0) (Nat.le_of_ble_eq_true rfl) (Nat.le_of_ble_eq_true rfl) hnc [(0, 12, 15, 23)] (0, 12, 19, 13) [] rfl (by
          intro z hz
          simp only [List.mem_cons, List.not_mem_nil, or_false] at hz
          rcases hz with rfl
          · exact ⟨by decide, _, w_963, by decide⟩) (by decide) (by decide) w_709 w_t720 (ct_X8_redate g) (Or.inr ⟨rfl, rfl⟩) dL_redate_19 (Nat.le_of_ble_eq_true rfl) rfl ?_
      refine ev_iconst dL_redate_21 (mi_c rfl) ?_
      cases hD
      exact ev_ret (some (vi _)) dL_redate_22 True.intro
    rw [if_neg c1] at hD
    cases hD
theorem ct_L_redate {G : mG} {x0 : Nat} {x1 : Int} {x2 : Int} {x3 : Int} {x4 : Nat} {σ : mS} {R : (Int × mS)} (hnc : ∀ q ∈ mNcs, va_Nc q.1 q.2 G.1) (hD : D_L_redate x0 x1 x2 x3 x4 σ = some R) : Ct G M_L_redate [vr x0, vi x1, vi x2, vi x3, vr x4] σ (.inl (some (vi R.1))) R.2 := ct_ofH rfl (by decide +kernel) rfl (Nat.le_of_ble_eq_true rfl) rfl (lk_L_redate hnc hD)
def D_L_before (x0 : Nat) (x1 : Int) (x2 : Int) (x3 : Int) (x4 : Int) (x5 : Nat) (σ : mS) : Option (Int × mS) :=
  (tgO σ x0 7).bind fun _ =>
  (D_X8_before x0 x1 x2 x3 x4 σ).bind fun r1 =>
  match r1 with
  | (Sum.inl v2, s4) =>
    (sL s4 x5 0 (mi2l v2)).bind fun s5 =>
    some (0, s5)
  | (Sum.inr e3, s4) =>
    if e3 = 0 then
      some (1, s4)
    else
    if e3 = 1 then
      some (2, s4)
    else
    if e3 = 2 then
      some (3, s4)
    else
      none
set_option maxRecDepth 100000 in
set_option maxHeartbeats 4000000 in
theorem lk_L_before {G : mG} {x0 : Nat} {x1 : Int} {x2 : Int} {x3 : Int} {x4 : Int} {x5 : Nat} {σ : mS} {R : (Int × mS)} (hnc : ∀ q ∈ mNcs, va_Nc q.1 q.2 G.1) (hD : D_L_before x0 x1 x2 x3 x4 x5 σ = some R) : Ev G M_L_before 0 [(0, vr x0), (1, vi x1), (2, vi x2), (3, vi x3), (4, vi x4), (5, vr x5)] [] σ (.inl (some (vi R.1))) R.2 := by
  unfold D_L_before at hD
  refine ev_aload dL_before_0 5 rfl ?_
  refine ev_iconst dL_before_2 (mi_c rfl) ?_
  refine ev_aload_n dL_before_3 0 rfl rfl ?_
  refine ev_iload_n dL_before_4 1 rfl rfl ?_
  refine ev_iload_n dL_before_5 2 rfl rfl ?_
  refine ev_iload_n dL_before_6 3 rfl rfl ?_
  refine ev_iload dL_before_7 4 rfl ?_
  obtain ⟨_, g0, hD⟩ := bd hD
  obtain ⟨r1, g, hD⟩ := bd hD
  obtain ⟨v2 | e3, s4⟩ := r1
  · refine ew_callVv (as := [vi x1, vi x2, vi x3, vi x4]) (a := x0) (rest := [vi 0, vr x5]) dL_before_9 v_X8_before w_995 rfl (Nat.le_of_ble_eq_true rfl) rfl rfl g0 (Nat.le_of_ble_eq_true rfl) (Nat.le_of_ble_eq_true rfl) (ct_X8_before g) ?_
    dsimp only at hD
    refine ev_i2l dL_before_12 ?_
    obtain ⟨s5, g, hD⟩ := bd hD
    refine ew_last dL_before_13 g ?_
    refine ev_goto (tgt := 29) dL_before_14 (by decide) ?_
    refine ev_iconst dL_before_29 (mi_c rfl) ?_
    cases hD
    exact ev_ret (some (vi _)) dL_before_30 True.intro
  · dsimp only at hD
    by_cases c0 : e3 = 0
    · rw [if_pos c0] at hD
      subst c0
      refine ev_catV (as := [vi x1, vi x2, vi x3, vi x4]) (a := x0) (rest := [vi 0, vr x5]) (E := 0) (i := 6) dL_before_9 v_X8_before w_995 rfl (Nat.le_of_ble_eq_true rfl) rfl rfl (tgO_s g0) (Nat.le_of_ble_eq_true rfl) (Nat.le_of_ble_eq_true rfl) hnc [] (0, 14, 17, 23) [(0, 14, 21, 13), (0, 14, 25, 29)] rfl (fun z hz => nomatch hz) (by decide) (by decide) w_963 w_t978 (ct_X8_before g) (Or.inr ⟨rfl, rfl⟩) dL_before_17 (Nat.le_of_ble_eq_true rfl) rfl ?_
      refine ev_iconst dL_before_19 (mi_c rfl) ?_
      cases hD
      exact ev_ret (some (vi _)) dL_before_20 True.intro
    rw [if_neg c0] at hD
    by_cases c1 : e3 = 1
    · rw [if_pos c1] at hD
      subst c1
      refine ev_catV (as := [vi x1, vi x2, vi x3, vi x4]) (a := x0) (rest := [vi 0, vr x5]) (E := 1) (i := 6) dL_before_9 v_X8_before w_995 rfl (Nat.le_of_ble_eq_true rfl) rfl rfl (tgO_s g0) (Nat.le_of_ble_eq_true rfl) (Nat.le_of_ble_eq_true rfl) hnc [(0, 14, 17, 23)] (0, 14, 21, 13) [(0, 14, 25, 29)] rfl (by
          intro z hz
          simp only [List.mem_cons, List.not_mem_nil, or_false] at hz
          rcases hz with rfl
          · exact ⟨by decide, _, w_963, by decide⟩) (by decide) (by decide) w_709 w_t720 (ct_X8_before g) (Or.inr ⟨rfl, rfl⟩) dL_before_21 (Nat.le_of_ble_eq_true rfl) rfl ?_
      refine ev_iconst dL_before_23 (mi_c rfl) ?_
      cases hD
      exact ev_ret (some (vi _)) dL_before_24 True.intro
    rw [if_neg c1] at hD
    by_cases c2 : e3 = 2
    · rw [if_pos c2] at hD
      subst c2
      refine ev_catV (as := [vi x1, vi x2, vi x3, vi x4]) (a := x0) (rest := [vi 0, vr x5]) (E := 2) (i := 6) dL_before_9 v_X8_before w_995 rfl (Nat.le_of_ble_eq_true rfl) rfl rfl (tgO_s g0) (Nat.le_of_ble_eq_true rfl) (Nat.le_of_ble_eq_true rfl) hnc [(0, 14, 17, 23), (0, 14, 21, 13)] (0, 14, 25, 29) [] rfl (by
          intro z hz
          simp only [List.mem_cons, List.not_mem_nil, or_false] at hz
          rcases hz with rfl | rfl
          · exact ⟨by decide, _, w_963, by decide⟩
          · exact ⟨by decide, _, w_709, by decide⟩) (by decide) (by decide) w_994 w_t1005 (ct_X8_before g) (Or.inr ⟨rfl, rfl⟩) dL_before_25 (Nat.le_of_ble_eq_true rfl) rfl ?_
      refine ev_iconst dL_before_27 (mi_c rfl) ?_
      cases hD
      exact ev_ret (some (vi _)) dL_before_28 True.intro
    rw [if_neg c2] at hD
    cases hD
theorem ct_L_before {G : mG} {x0 : Nat} {x1 : Int} {x2 : Int} {x3 : Int} {x4 : Int} {x5 : Nat} {σ : mS} {R : (Int × mS)} (hnc : ∀ q ∈ mNcs, va_Nc q.1 q.2 G.1) (hD : D_L_before x0 x1 x2 x3 x4 x5 σ = some R) : Ct G M_L_before [vr x0, vi x1, vi x2, vi x3, vi x4, vr x5] σ (.inl (some (vi R.1))) R.2 := ct_ofH rfl (by decide +kernel) rfl (Nat.le_of_ble_eq_true rfl) rfl (lk_L_before hnc hD)
def D_L_bounds (x0 : Nat) (x1 : Int) (x2 : Int) (x3 : Int) (x4 : Nat) (σ : mS) : Option (Int × mS) :=
  (tgO σ x0 7).bind fun _ =>
  (D_X8_bounds x0 x1 x2 x3 σ).bind fun r1 =>
  match r1 with
  | (Sum.inl v2, s4) =>
    (sL s4 x4 0 (mi2l v2)).bind fun s5 =>
    some (0, s5)
  | (Sum.inr e3, s4) =>
    if e3 = 0 then
      some (1, s4)
    else
    if e3 = 1 then
      some (2, s4)
    else
    if e3 = 2 then
      some (3, s4)
    else
      none
set_option maxRecDepth 100000 in
set_option maxHeartbeats 4000000 in
theorem lk_L_bounds {G : mG} {x0 : Nat} {x1 : Int} {x2 : Int} {x3 : Int} {x4 : Nat} {σ : mS} {R : (Int × mS)} (hnc : ∀ q ∈ mNcs, va_Nc q.1 q.2 G.1) (hD : D_L_bounds x0 x1 x2 x3 x4 σ = some R) : Ev G M_L_bounds 0 [(0, vr x0), (1, vi x1), (2, vi x2), (3, vi x3), (4, vr x4)] [] σ (.inl (some (vi R.1))) R.2 := by
  unfold D_L_bounds at hD
  refine ev_aload dL_bounds_0 4 rfl ?_
  refine ev_iconst dL_bounds_2 (mi_c rfl) ?_
  refine ev_aload_n dL_bounds_3 0 rfl rfl ?_
  refine ev_iload_n dL_bounds_4 1 rfl rfl ?_
  refine ev_iload_n dL_bounds_5 2 rfl rfl ?_
  refine ev_iload_n dL_bounds_6 3 rfl rfl ?_
  obtain ⟨_, g0, hD⟩ := bd hD
  obtain ⟨r1, g, hD⟩ := bd hD
  obtain ⟨v2 | e3, s4⟩ := r1
  · refine ew_callVv (as := [vi x1, vi x2, vi x3]) (a := x0) (rest := [vi 0, vr x4]) dL_bounds_7 v_X8_bounds w_1022 rfl (Nat.le_of_ble_eq_true rfl) rfl rfl g0 (Nat.le_of_ble_eq_true rfl) (Nat.le_of_ble_eq_true rfl) (ct_X8_bounds g) ?_
    dsimp only at hD
    refine ev_i2l dL_bounds_10 ?_
    obtain ⟨s5, g, hD⟩ := bd hD
    refine ew_last dL_bounds_11 g ?_
    refine ev_goto (tgt := 27) dL_bounds_12 (by decide) ?_
    refine ev_iconst dL_bounds_27 (mi_c rfl) ?_
    cases hD
    exact ev_ret (some (vi _)) dL_bounds_28 True.intro
  · dsimp only at hD
    by_cases c0 : e3 = 0
    · rw [if_pos c0] at hD
      subst c0
      refine ev_catV (as := [vi x1, vi x2, vi x3]) (a := x0) (rest := [vi 0, vr x4]) (E := 0) (i := 5) dL_bounds_7 v_X8_bounds w_1022 rfl (Nat.le_of_ble_eq_true rfl) rfl rfl (tgO_s g0) (Nat.le_of_ble_eq_true rfl) (Nat.le_of_ble_eq_true rfl) hnc [] (0, 12, 15, 23) [(0, 12, 19, 13), (0, 12, 23, 29)] rfl (fun z hz => nomatch hz) (by decide) (by decide) w_963 w_t978 (ct_X8_bounds g) (Or.inr ⟨rfl, rfl⟩) dL_bounds_15 (Nat.le_of_ble_eq_true rfl) rfl ?_
      refine ev_iconst dL_bounds_17 (mi_c rfl) ?_
      cases hD
      exact ev_ret (some (vi _)) dL_bounds_18 True.intro
    rw [if_neg c0] at hD
    by_cases c1 : e3 = 1
    · rw [if_pos c1] at hD
      subst c1
      refine ev_catV (as := [vi x1, vi x2, vi x3]) (a := x0) (rest := [vi 0, vr x4]) (E := 1) (i := 5) dL_bounds_7 v_X8_bounds w_1022 rfl (Nat.le_of_ble_eq_true rfl) rfl rfl (tgO_s g0) (Nat.le_of_ble_eq_true rfl) (Nat.le_of_ble_eq_true rfl) hnc [(0, 12, 15, 23)] (0, 12, 19, 13) [(0, 12, 23, 29)] rfl (by
          intro z hz
          simp only [List.mem_cons, List.not_mem_nil, or_false] at hz
          rcases hz with rfl
          · exact ⟨by decide, _, w_963, by decide⟩) (by decide) (by decide) w_709 w_t720 (ct_X8_bounds g) (Or.inr ⟨rfl, rfl⟩) dL_bounds_19 (Nat.le_of_ble_eq_true rfl) rfl ?_
      refine ev_iconst dL_bounds_21 (mi_c rfl) ?_
      cases hD
      exact ev_ret (some (vi _)) dL_bounds_22 True.intro
    rw [if_neg c1] at hD
    by_cases c2 : e3 = 2
    · rw [if_pos c2] at hD
      subst c2
      refine ev_catV (as := [vi x1, vi x2, vi x3]) (a := x0) (rest := [vi 0, vr x4]) (E := 2) (i := 5) dL_bounds_7 v_X8_bounds w_1022 rfl (Nat.le_of_ble_eq_true rfl) rfl rfl (tgO_s g0) (Nat.le_of_ble_eq_true rfl) (Nat.le_of_ble_eq_true rfl) hnc [(0, 12, 15, 23), (0, 12, 19, 13)] (0, 12, 23, 29) [] rfl (by
          intro z hz
          simp only [List.mem_cons, List.not_mem_nil, or_false] at hz
          rcases hz with rfl | rfl
          · exact ⟨by decide, _, w_963, by decide⟩
          · exact ⟨by decide, _, w_709, by decide⟩) (by decide) (by decide) w_994 w_t1005 (ct_X8_bounds g) (Or.inr ⟨rfl, rfl⟩) dL_bounds_23 (Nat.le_of_ble_eq_true rfl) rfl ?_
      refine ev_iconst dL_bounds_25 (mi_c rfl) ?_
      cases hD
      exact ev_ret (some (vi _)) dL_bounds_26 True.intro
    rw [if_neg c2] at hD
    cases hD
theorem ct_L_bounds {G : mG} {x0 : Nat} {x1 : Int} {x2 : Int} {x3 : Int} {x4 : Nat} {σ : mS} {R : (Int × mS)} (hnc : ∀ q ∈ mNcs, va_Nc q.1 q.2 G.1) (hD : D_L_bounds x0 x1 x2 x3 x4 σ = some R) : Ct G M_L_bounds [vr x0, vi x1, vi x2, vi x3, vr x4] σ (.inl (some (vi R.1))) R.2 := ct_ofH rfl (by decide +kernel) rfl (Nat.le_of_ble_eq_true rfl) rfl (lk_L_bounds hnc hD)
def D_L_drop (x0 : Nat) (x1 : Int) (x2 : Nat) (σ : mS) : Option (Int × mS) :=
  (tgO σ x0 7).bind fun _ =>
  (D_X8_drop x0 x1 σ).bind fun r1 =>
  match r1 with
  | (Sum.inl v2, s4) =>
    (sL s4 x2 0 (mi2l v2)).bind fun s5 =>
    some (0, s5)
  | (Sum.inr e3, s4) =>
    if e3 = 0 then
      some (1, s4)
    else
      none
set_option maxRecDepth 100000 in
set_option maxHeartbeats 4000000 in
theorem lk_L_drop {G : mG} {x0 : Nat} {x1 : Int} {x2 : Nat} {σ : mS} {R : (Int × mS)} (hnc : ∀ q ∈ mNcs, va_Nc q.1 q.2 G.1) (hD : D_L_drop x0 x1 x2 σ = some R) : Ev G M_L_drop 0 [(0, vr x0), (1, vi x1), (2, vr x2)] [] σ (.inl (some (vi R.1))) R.2 := by
  unfold D_L_drop at hD
  refine ev_aload_n dL_drop_0 2 rfl rfl ?_
  refine ev_iconst dL_drop_1 (mi_c rfl) ?_
  refine ev_aload_n dL_drop_2 0 rfl rfl ?_
  refine ev_iload_n dL_drop_3 1 rfl rfl ?_
  obtain ⟨_, g0, hD⟩ := bd hD
  obtain ⟨r1, g, hD⟩ := bd hD
  obtain ⟨v2 | e3, s4⟩ := r1
  · refine ew_callVv (as := [vi x1]) (a := x0) (rest := [vi 0, vr x2]) dL_drop_4 v_X8_drop w_1032 rfl (Nat.le_of_ble_eq_true rfl) rfl rfl g0 (Nat.le_of_ble_eq_true rfl) (Nat.le_of_ble_eq_true rfl) (ct_X8_drop g) ?_
    dsimp only at hD
    refine ev_i2l dL_drop_7 ?_
    obtain ⟨s5, g, hD⟩ := bd hD
    refine ew_last dL_drop_8 g ?_
    refine ev_goto (tgt := 15) dL_drop_9 (by decide) ?_
    refine ev_iconst dL_drop_15 (mi_c rfl) ?_
    cases hD
    exact ev_ret (some (vi _)) dL_drop_16 True.intro
  · dsimp only at hD
    by_cases c0 : e3 = 0
    · rw [if_pos c0] at hD
      subst c0
      refine ev_catV (as := [vi x1]) (a := x0) (rest := [vi 0, vr x2]) (E := 0) (i := 3) dL_drop_4 v_X8_drop w_1032 rfl (Nat.le_of_ble_eq_true rfl) rfl rfl (tgO_s g0) (Nat.le_of_ble_eq_true rfl) (Nat.le_of_ble_eq_true rfl) hnc [] (0, 9, 12, 23) [] rfl (fun z hz => nomatch hz) (by decide) (by decide) w_963 w_t978 (ct_X8_drop g) (Or.inl ⟨_, rfl, rfl, rfl⟩) dL_drop_12 (Nat.le_of_ble_eq_true rfl) rfl ?_
      refine ev_iconst dL_drop_13 (mi_c rfl) ?_
      cases hD
      exact ev_ret (some (vi _)) dL_drop_14 True.intro
    rw [if_neg c0] at hD
    cases hD
theorem ct_L_drop {G : mG} {x0 : Nat} {x1 : Int} {x2 : Nat} {σ : mS} {R : (Int × mS)} (hnc : ∀ q ∈ mNcs, va_Nc q.1 q.2 G.1) (hD : D_L_drop x0 x1 x2 σ = some R) : Ct G M_L_drop [vr x0, vi x1, vr x2] σ (.inl (some (vi R.1))) R.2 := ct_ofH rfl (by decide +kernel) rfl (Nat.le_of_ble_eq_true rfl) rfl (lk_L_drop hnc hD)
def D_L_told (x0 : Nat) (x1 : Int) (x2 : Nat) (σ : mS) : Option (Int × mS) :=
  (tgO σ x0 7).bind fun _ =>
  (D_X8_told x0 x1 σ).bind fun r1 =>
  match r1 with
  | (Sum.inl v2, s4) =>
    (sL s4 x2 0 (mi2l v2)).bind fun s5 =>
    some (0, s5)
  | (Sum.inr e3, s4) =>
    if e3 = 1 then
      some (1, s4)
    else
      none
set_option maxRecDepth 100000 in
set_option maxHeartbeats 4000000 in
theorem lk_L_told {G : mG} {x0 : Nat} {x1 : Int} {x2 : Nat} {σ : mS} {R : (Int × mS)} (hnc : ∀ q ∈ mNcs, va_Nc q.1 q.2 G.1) (hD : D_L_told x0 x1 x2 σ = some R) : Ev G M_L_told 0 [(0, vr x0), (1, vi x1), (2, vr x2)] [] σ (.inl (some (vi R.1))) R.2 := by
  unfold D_L_told at hD
  refine ev_aload_n dL_told_0 2 rfl rfl ?_
  refine ev_iconst dL_told_1 (mi_c rfl) ?_
  refine ev_aload_n dL_told_2 0 rfl rfl ?_
  refine ev_iload_n dL_told_3 1 rfl rfl ?_
  obtain ⟨_, g0, hD⟩ := bd hD
  obtain ⟨r1, g, hD⟩ := bd hD
  obtain ⟨v2 | e3, s4⟩ := r1
  · refine ew_callVv (as := [vi x1]) (a := x0) (rest := [vi 0, vr x2]) dL_told_4 v_X8_told w_1047 rfl (Nat.le_of_ble_eq_true rfl) rfl rfl g0 (Nat.le_of_ble_eq_true rfl) (Nat.le_of_ble_eq_true rfl) (ct_X8_told g) ?_
    dsimp only at hD
    refine ev_i2l dL_told_7 ?_
    obtain ⟨s5, g, hD⟩ := bd hD
    refine ew_last dL_told_8 g ?_
    refine ev_goto (tgt := 15) dL_told_9 (by decide) ?_
    refine ev_iconst dL_told_15 (mi_c rfl) ?_
    cases hD
    exact ev_ret (some (vi _)) dL_told_16 True.intro
  · dsimp only at hD
    by_cases c0 : e3 = 1
    · rw [if_pos c0] at hD
      subst c0
      refine ev_catV (as := [vi x1]) (a := x0) (rest := [vi 0, vr x2]) (E := 1) (i := 3) dL_told_4 v_X8_told w_1047 rfl (Nat.le_of_ble_eq_true rfl) rfl rfl (tgO_s g0) (Nat.le_of_ble_eq_true rfl) (Nat.le_of_ble_eq_true rfl) hnc [] (0, 9, 12, 13) [] rfl (fun z hz => nomatch hz) (by decide) (by decide) w_709 w_t720 (ct_X8_told g) (Or.inl ⟨_, rfl, rfl, rfl⟩) dL_told_12 (Nat.le_of_ble_eq_true rfl) rfl ?_
      refine ev_iconst dL_told_13 (mi_c rfl) ?_
      cases hD
      exact ev_ret (some (vi _)) dL_told_14 True.intro
    rw [if_neg c0] at hD
    cases hD
theorem ct_L_told {G : mG} {x0 : Nat} {x1 : Int} {x2 : Nat} {σ : mS} {R : (Int × mS)} (hnc : ∀ q ∈ mNcs, va_Nc q.1 q.2 G.1) (hD : D_L_told x0 x1 x2 σ = some R) : Ct G M_L_told [vr x0, vi x1, vr x2] σ (.inl (some (vi R.1))) R.2 := ct_ofH rfl (by decide +kernel) rfl (Nat.le_of_ble_eq_true rfl) rfl (lk_L_told hnc hD)
def D_L_age (x0 : Nat) (x1 : Int) (x2 : Nat) (σ : mS) : Option (Int × mS) :=
  (tgO σ x0 7).bind fun _ =>
  (D_X8_age x0 x1 σ).bind fun r1 =>
  match r1 with
  | (Sum.inl v2, s4) =>
    (sL s4 x2 0 (mi2l v2)).bind fun s5 =>
    some (0, s5)
  | (Sum.inr e3, s4) =>
    if e3 = 0 then
      some (1, s4)
    else
      none
set_option maxRecDepth 100000 in
set_option maxHeartbeats 4000000 in
theorem lk_L_age {G : mG} {x0 : Nat} {x1 : Int} {x2 : Nat} {σ : mS} {R : (Int × mS)} (hnc : ∀ q ∈ mNcs, va_Nc q.1 q.2 G.1) (hD : D_L_age x0 x1 x2 σ = some R) : Ev G M_L_age 0 [(0, vr x0), (1, vi x1), (2, vr x2)] [] σ (.inl (some (vi R.1))) R.2 := by
  unfold D_L_age at hD
  refine ev_aload_n dL_age_0 2 rfl rfl ?_
  refine ev_iconst dL_age_1 (mi_c rfl) ?_
  refine ev_aload_n dL_age_2 0 rfl rfl ?_
  refine ev_iload_n dL_age_3 1 rfl rfl ?_
  obtain ⟨_, g0, hD⟩ := bd hD
  obtain ⟨r1, g, hD⟩ := bd hD
  obtain ⟨v2 | e3, s4⟩ := r1
  · refine ew_callVv (as := [vi x1]) (a := x0) (rest := [vi 0, vr x2]) dL_age_4 v_X8_age w_1066 rfl (Nat.le_of_ble_eq_true rfl) rfl rfl g0 (Nat.le_of_ble_eq_true rfl) (Nat.le_of_ble_eq_true rfl) (ct_X8_age g) ?_
    dsimp only at hD
    refine ev_i2l dL_age_7 ?_
    obtain ⟨s5, g, hD⟩ := bd hD
    refine ew_last dL_age_8 g ?_
    refine ev_goto (tgt := 15) dL_age_9 (by decide) ?_
    refine ev_iconst dL_age_15 (mi_c rfl) ?_
    cases hD
    exact ev_ret (some (vi _)) dL_age_16 True.intro
  · dsimp only at hD
    by_cases c0 : e3 = 0
    · rw [if_pos c0] at hD
      subst c0
      refine ev_catV (as := [vi x1]) (a := x0) (rest := [vi 0, vr x2]) (E := 0) (i := 3) dL_age_4 v_X8_age w_1066 rfl (Nat.le_of_ble_eq_true rfl) rfl rfl (tgO_s g0) (Nat.le_of_ble_eq_true rfl) (Nat.le_of_ble_eq_true rfl) hnc [] (0, 9, 12, 23) [] rfl (fun z hz => nomatch hz) (by decide) (by decide) w_963 w_t978 (ct_X8_age g) (Or.inl ⟨_, rfl, rfl, rfl⟩) dL_age_12 (Nat.le_of_ble_eq_true rfl) rfl ?_
      refine ev_iconst dL_age_13 (mi_c rfl) ?_
      cases hD
      exact ev_ret (some (vi _)) dL_age_14 True.intro
    rw [if_neg c0] at hD
    cases hD
theorem ct_L_age {G : mG} {x0 : Nat} {x1 : Int} {x2 : Nat} {σ : mS} {R : (Int × mS)} (hnc : ∀ q ∈ mNcs, va_Nc q.1 q.2 G.1) (hD : D_L_age x0 x1 x2 σ = some R) : Ct G M_L_age [vr x0, vi x1, vr x2] σ (.inl (some (vi R.1))) R.2 := ct_ofH rfl (by decide +kernel) rfl (Nat.le_of_ble_eq_true rfl) rfl (lk_L_age hnc hD)
def D_L_years (x0 : Nat) (x1 : Int) (x2 : Int) (x3 : Nat) (σ : mS) : Option (Int × mS) :=
  (tgO σ x0 7).bind fun _ =>
  (D_X8_years x0 x1 x2 σ).bind fun r1 =>
  match r1 with
  | (Sum.inl v2, s4) =>
    (sL s4 x3 0 (mi2l v2)).bind fun s5 =>
    some (0, s5)
  | (Sum.inr e3, s4) =>
    if e3 = 1 then
      some (1, s4)
    else
      none
set_option maxRecDepth 100000 in
set_option maxHeartbeats 4000000 in
theorem lk_L_years {G : mG} {x0 : Nat} {x1 : Int} {x2 : Int} {x3 : Nat} {σ : mS} {R : (Int × mS)} (hnc : ∀ q ∈ mNcs, va_Nc q.1 q.2 G.1) (hD : D_L_years x0 x1 x2 x3 σ = some R) : Ev G M_L_years 0 [(0, vr x0), (1, vi x1), (2, vi x2), (3, vr x3)] [] σ (.inl (some (vi R.1))) R.2 := by
  unfold D_L_years at hD
  refine ev_aload_n dL_years_0 3 rfl rfl ?_
  refine ev_iconst dL_years_1 (mi_c rfl) ?_
  refine ev_aload_n dL_years_2 0 rfl rfl ?_
  refine ev_iload_n dL_years_3 1 rfl rfl ?_
  refine ev_iload_n dL_years_4 2 rfl rfl ?_
  obtain ⟨_, g0, hD⟩ := bd hD
  obtain ⟨r1, g, hD⟩ := bd hD
  obtain ⟨v2 | e3, s4⟩ := r1
  · refine ew_callVv (as := [vi x1, vi x2]) (a := x0) (rest := [vi 0, vr x3]) dL_years_5 v_X8_years w_1077 rfl (Nat.le_of_ble_eq_true rfl) rfl rfl g0 (Nat.le_of_ble_eq_true rfl) (Nat.le_of_ble_eq_true rfl) (ct_X8_years g) ?_
    dsimp only at hD
    refine ev_i2l dL_years_8 ?_
    obtain ⟨s5, g, hD⟩ := bd hD
    refine ew_last dL_years_9 g ?_
    refine ev_goto (tgt := 17) dL_years_10 (by decide) ?_
    refine ev_iconst dL_years_17 (mi_c rfl) ?_
    cases hD
    exact ev_ret (some (vi _)) dL_years_18 True.intro
  · dsimp only at hD
    by_cases c0 : e3 = 1
    · rw [if_pos c0] at hD
      subst c0
      refine ev_catV (as := [vi x1, vi x2]) (a := x0) (rest := [vi 0, vr x3]) (E := 1) (i := 4) dL_years_5 v_X8_years w_1077 rfl (Nat.le_of_ble_eq_true rfl) rfl rfl (tgO_s g0) (Nat.le_of_ble_eq_true rfl) (Nat.le_of_ble_eq_true rfl) hnc [] (0, 10, 13, 13) [] rfl (fun z hz => nomatch hz) (by decide) (by decide) w_709 w_t720 (ct_X8_years g) (Or.inr ⟨rfl, rfl⟩) dL_years_13 (Nat.le_of_ble_eq_true rfl) rfl ?_
      refine ev_iconst dL_years_15 (mi_c rfl) ?_
      cases hD
      exact ev_ret (some (vi _)) dL_years_16 True.intro
    rw [if_neg c0] at hD
    cases hD
theorem ct_L_years {G : mG} {x0 : Nat} {x1 : Int} {x2 : Int} {x3 : Nat} {σ : mS} {R : (Int × mS)} (hnc : ∀ q ∈ mNcs, va_Nc q.1 q.2 G.1) (hD : D_L_years x0 x1 x2 x3 σ = some R) : Ct G M_L_years [vr x0, vi x1, vi x2, vr x3] σ (.inl (some (vi R.1))) R.2 := ct_ofH rfl (by decide +kernel) rfl (Nat.le_of_ble_eq_true rfl) rfl (lk_L_years hnc hD)
def D_L_knot (x0 : Nat) (x1 : Int) (x2 : Int) (x3 : Nat) (σ : mS) : Option (Int × mS) :=
  (tgO σ x0 7).bind fun _ =>
  (D_X8_knot x0 x1 x2 σ).bind fun r1 =>
  match r1 with
  | (Sum.inl v2, s4) =>
    (sL s4 x3 0 (mi2l v2)).bind fun s5 =>
    some (0, s5)
  | (Sum.inr e3, s4) =>
    if e3 = 0 then
      some (1, s4)
    else
    if e3 = 1 then
      some (2, s4)
    else
      none
set_option maxRecDepth 100000 in
set_option maxHeartbeats 4000000 in
theorem lk_L_knot {G : mG} {x0 : Nat} {x1 : Int} {x2 : Int} {x3 : Nat} {σ : mS} {R : (Int × mS)} (hnc : ∀ q ∈ mNcs, va_Nc q.1 q.2 G.1) (hD : D_L_knot x0 x1 x2 x3 σ = some R) : Ev G M_L_knot 0 [(0, vr x0), (1, vi x1), (2, vi x2), (3, vr x3)] [] σ (.inl (some (vi R.1))) R.2 := by
  unfold D_L_knot at hD
  refine ev_aload_n dL_knot_0 3 rfl rfl ?_
  refine ev_iconst dL_knot_1 (mi_c rfl) ?_
  refine ev_aload_n dL_knot_2 0 rfl rfl ?_
  refine ev_iload_n dL_knot_3 1 rfl rfl ?_
  refine ev_iload_n dL_knot_4 2 rfl rfl ?_
  obtain ⟨_, g0, hD⟩ := bd hD
  obtain ⟨r1, g, hD⟩ := bd hD
  obtain ⟨v2 | e3, s4⟩ := r1
  · refine ew_callVv (as := [vi x1, vi x2]) (a := x0) (rest := [vi 0, vr x3]) dL_knot_5 v_X8_knot w_1084 rfl (Nat.le_of_ble_eq_true rfl) rfl rfl g0 (Nat.le_of_ble_eq_true rfl) (Nat.le_of_ble_eq_true rfl) (ct_X8_knot g) ?_
    dsimp only at hD
    refine ev_i2l dL_knot_8 ?_
    obtain ⟨s5, g, hD⟩ := bd hD
    refine ew_last dL_knot_9 g ?_
    refine ev_goto (tgt := 21) dL_knot_10 (by decide) ?_
    refine ev_iconst dL_knot_21 (mi_c rfl) ?_
    cases hD
    exact ev_ret (some (vi _)) dL_knot_22 True.intro
  · dsimp only at hD
    by_cases c0 : e3 = 0
    · rw [if_pos c0] at hD
      subst c0
      refine ev_catV (as := [vi x1, vi x2]) (a := x0) (rest := [vi 0, vr x3]) (E := 0) (i := 4) dL_knot_5 v_X8_knot w_1084 rfl (Nat.le_of_ble_eq_true rfl) rfl rfl (tgO_s g0) (Nat.le_of_ble_eq_true rfl) (Nat.le_of_ble_eq_true rfl) hnc [] (0, 10, 13, 23) [(0, 10, 17, 13)] rfl (fun z hz => nomatch hz) (by decide) (by decide) w_963 w_t978 (ct_X8_knot g) (Or.inr ⟨rfl, rfl⟩) dL_knot_13 (Nat.le_of_ble_eq_true rfl) rfl ?_
      refine ev_iconst dL_knot_15 (mi_c rfl) ?_
      cases hD
      exact ev_ret (some (vi _)) dL_knot_16 True.intro
    rw [if_neg c0] at hD
    by_cases c1 : e3 = 1
    · rw [if_pos c1] at hD
      subst c1
      refine ev_catV (as := [vi x1, vi x2]) (a := x0) (rest := [vi 0, vr x3]) (E := 1) (i := 4) dL_knot_5 v_X8_knot w_1084 rfl (Nat.le_of_ble_eq_true rfl) rfl rfl (tgO_s g0) (Nat.le_of_ble_eq_true rfl) (Nat.le_of_ble_eq_true rfl) hnc [(0, 10, 13, 23)] (0, 10, 17, 13) [] rfl (by
          intro z hz
          simp only [List.mem_cons, List.not_mem_nil, or_false] at hz
          rcases hz with rfl
          · exact ⟨by decide, _, w_963, by decide⟩) (by decide) (by decide) w_709 w_t720 (ct_X8_knot g) (Or.inr ⟨rfl, rfl⟩) dL_knot_17 (Nat.le_of_ble_eq_true rfl) rfl ?_
      refine ev_iconst dL_knot_19 (mi_c rfl) ?_
      cases hD
      exact ev_ret (some (vi _)) dL_knot_20 True.intro
    rw [if_neg c1] at hD
    cases hD
theorem ct_L_knot {G : mG} {x0 : Nat} {x1 : Int} {x2 : Int} {x3 : Nat} {σ : mS} {R : (Int × mS)} (hnc : ∀ q ∈ mNcs, va_Nc q.1 q.2 G.1) (hD : D_L_knot x0 x1 x2 x3 σ = some R) : Ct G M_L_knot [vr x0, vi x1, vi x2, vr x3] σ (.inl (some (vi R.1))) R.2 := ct_ofH rfl (by decide +kernel) rfl (Nat.le_of_ble_eq_true rfl) rfl (lk_L_knot hnc hD)
def D_L_sample (x0 : Nat) (x1 : Int) (x2 : Int) (x3 : Nat) (σ : mS) : Option (Int × mS) :=
  (tgO σ x0 7).bind fun _ =>
  (D_X8_sample x0 x1 x2 σ).bind fun r1 =>
  match r1 with
  | (Sum.inl v2, s4) =>
    (sL s4 x3 0 (mi2l v2)).bind fun s5 =>
    some (0, s5)
  | (Sum.inr e3, s4) =>
    if e3 = 0 then
      some (1, s4)
    else
    if e3 = 1 then
      some (2, s4)
    else
      none
set_option maxRecDepth 100000 in
set_option maxHeartbeats 4000000 in
theorem lk_L_sample {G : mG} {x0 : Nat} {x1 : Int} {x2 : Int} {x3 : Nat} {σ : mS} {R : (Int × mS)} (hnc : ∀ q ∈ mNcs, va_Nc q.1 q.2 G.1) (hD : D_L_sample x0 x1 x2 x3 σ = some R) : Ev G M_L_sample 0 [(0, vr x0), (1, vi x1), (2, vi x2), (3, vr x3)] [] σ (.inl (some (vi R.1))) R.2 := by
  unfold D_L_sample at hD
  refine ev_aload_n dL_sample_0 3 rfl rfl ?_
  refine ev_iconst dL_sample_1 (mi_c rfl) ?_
  refine ev_aload_n dL_sample_2 0 rfl rfl ?_
  refine ev_iload_n dL_sample_3 1 rfl rfl ?_
  refine ev_iload_n dL_sample_4 2 rfl rfl ?_
  obtain ⟨_, g0, hD⟩ := bd hD
  obtain ⟨r1, g, hD⟩ := bd hD
  obtain ⟨v2 | e3, s4⟩ := r1
  · refine ew_callVv (as := [vi x1, vi x2]) (a := x0) (rest := [vi 0, vr x3]) dL_sample_5 v_X8_sample w_1091 rfl (Nat.le_of_ble_eq_true rfl) rfl rfl g0 (Nat.le_of_ble_eq_true rfl) (Nat.le_of_ble_eq_true rfl) (ct_X8_sample g) ?_
    dsimp only at hD
    refine ev_i2l dL_sample_8 ?_
    obtain ⟨s5, g, hD⟩ := bd hD
    refine ew_last dL_sample_9 g ?_
    refine ev_goto (tgt := 21) dL_sample_10 (by decide) ?_
    refine ev_iconst dL_sample_21 (mi_c rfl) ?_
    cases hD
    exact ev_ret (some (vi _)) dL_sample_22 True.intro
  · dsimp only at hD
    by_cases c0 : e3 = 0
    · rw [if_pos c0] at hD
      subst c0
      refine ev_catV (as := [vi x1, vi x2]) (a := x0) (rest := [vi 0, vr x3]) (E := 0) (i := 4) dL_sample_5 v_X8_sample w_1091 rfl (Nat.le_of_ble_eq_true rfl) rfl rfl (tgO_s g0) (Nat.le_of_ble_eq_true rfl) (Nat.le_of_ble_eq_true rfl) hnc [] (0, 10, 13, 23) [(0, 10, 17, 13)] rfl (fun z hz => nomatch hz) (by decide) (by decide) w_963 w_t978 (ct_X8_sample g) (Or.inr ⟨rfl, rfl⟩) dL_sample_13 (Nat.le_of_ble_eq_true rfl) rfl ?_
      refine ev_iconst dL_sample_15 (mi_c rfl) ?_
      cases hD
      exact ev_ret (some (vi _)) dL_sample_16 True.intro
    rw [if_neg c0] at hD
    by_cases c1 : e3 = 1
    · rw [if_pos c1] at hD
      subst c1
      refine ev_catV (as := [vi x1, vi x2]) (a := x0) (rest := [vi 0, vr x3]) (E := 1) (i := 4) dL_sample_5 v_X8_sample w_1091 rfl (Nat.le_of_ble_eq_true rfl) rfl rfl (tgO_s g0) (Nat.le_of_ble_eq_true rfl) (Nat.le_of_ble_eq_true rfl) hnc [(0, 10, 13, 23)] (0, 10, 17, 13) [] rfl (by
          intro z hz
          simp only [List.mem_cons, List.not_mem_nil, or_false] at hz
          rcases hz with rfl
          · exact ⟨by decide, _, w_963, by decide⟩) (by decide) (by decide) w_709 w_t720 (ct_X8_sample g) (Or.inr ⟨rfl, rfl⟩) dL_sample_17 (Nat.le_of_ble_eq_true rfl) rfl ?_
      refine ev_iconst dL_sample_19 (mi_c rfl) ?_
      cases hD
      exact ev_ret (some (vi _)) dL_sample_20 True.intro
    rw [if_neg c1] at hD
    cases hD
theorem ct_L_sample {G : mG} {x0 : Nat} {x1 : Int} {x2 : Int} {x3 : Nat} {σ : mS} {R : (Int × mS)} (hnc : ∀ q ∈ mNcs, va_Nc q.1 q.2 G.1) (hD : D_L_sample x0 x1 x2 x3 σ = some R) : Ct G M_L_sample [vr x0, vi x1, vi x2, vr x3] σ (.inl (some (vi R.1))) R.2 := ct_ofH rfl (by decide +kernel) rfl (Nat.le_of_ble_eq_true rfl) rfl (lk_L_sample hnc hD)
def D_L_interval (x0 : Nat) (x1 : Int) (x2 : Int) (x3 : Int) (x4 : Nat) (σ : mS) : Option (Int × mS) :=
  (tgO σ x0 7).bind fun _ =>
  (D_X8_interval x0 x1 x2 x3 σ).bind fun r1 =>
  match r1 with
  | (Sum.inl v2, s4) =>
    (sL s4 x4 0 (mi2l v2)).bind fun s5 =>
    some (0, s5)
  | (Sum.inr e3, s4) =>
    if e3 = 0 then
      some (1, s4)
    else
    if e3 = 1 then
      some (2, s4)
    else
      none
set_option maxRecDepth 100000 in
set_option maxHeartbeats 4000000 in
theorem lk_L_interval {G : mG} {x0 : Nat} {x1 : Int} {x2 : Int} {x3 : Int} {x4 : Nat} {σ : mS} {R : (Int × mS)} (hnc : ∀ q ∈ mNcs, va_Nc q.1 q.2 G.1) (hD : D_L_interval x0 x1 x2 x3 x4 σ = some R) : Ev G M_L_interval 0 [(0, vr x0), (1, vi x1), (2, vi x2), (3, vi x3), (4, vr x4)] [] σ (.inl (some (vi R.1))) R.2 := by
  unfold D_L_interval at hD
  refine ev_aload dL_interval_0 4 rfl ?_
  refine ev_iconst dL_interval_2 (mi_c rfl) ?_
  refine ev_aload_n dL_interval_3 0 rfl rfl ?_
  refine ev_iload_n dL_interval_4 1 rfl rfl ?_
  refine ev_iload_n dL_interval_5 2 rfl rfl ?_
  refine ev_iload_n dL_interval_6 3 rfl rfl ?_
  obtain ⟨_, g0, hD⟩ := bd hD
  obtain ⟨r1, g, hD⟩ := bd hD
  obtain ⟨v2 | e3, s4⟩ := r1
  · refine ew_callVv (as := [vi x1, vi x2, vi x3]) (a := x0) (rest := [vi 0, vr x4]) dL_interval_7 v_X8_interval w_1116 rfl (Nat.le_of_ble_eq_true rfl) rfl rfl g0 (Nat.le_of_ble_eq_true rfl) (Nat.le_of_ble_eq_true rfl) (ct_X8_interval g) ?_
    dsimp only at hD
    refine ev_i2l dL_interval_10 ?_
    obtain ⟨s5, g, hD⟩ := bd hD
    refine ew_last dL_interval_11 g ?_
    refine ev_goto (tgt := 23) dL_interval_12 (by decide) ?_
    refine ev_iconst dL_interval_23 (mi_c rfl) ?_
    cases hD
    exact ev_ret (some (vi _)) dL_interval_24 True.intro
  · dsimp only at hD
    by_cases c0 : e3 = 0
    · rw [if_pos c0] at hD
      subst c0
      refine ev_catV (as := [vi x1, vi x2, vi x3]) (a := x0) (rest := [vi 0, vr x4]) (E := 0) (i := 5) dL_interval_7 v_X8_interval w_1116 rfl (Nat.le_of_ble_eq_true rfl) rfl rfl (tgO_s g0) (Nat.le_of_ble_eq_true rfl) (Nat.le_of_ble_eq_true rfl) hnc [] (0, 12, 15, 23) [(0, 12, 19, 13)] rfl (fun z hz => nomatch hz) (by decide) (by decide) w_963 w_t978 (ct_X8_interval g) (Or.inr ⟨rfl, rfl⟩) dL_interval_15 (Nat.le_of_ble_eq_true rfl) rfl ?_
      refine ev_iconst dL_interval_17 (mi_c rfl) ?_
      cases hD
      exact ev_ret (some (vi _)) dL_interval_18 True.intro
    rw [if_neg c0] at hD
    by_cases c1 : e3 = 1
    · rw [if_pos c1] at hD
      subst c1
      refine ev_catV (as := [vi x1, vi x2, vi x3]) (a := x0) (rest := [vi 0, vr x4]) (E := 1) (i := 5) dL_interval_7 v_X8_interval w_1116 rfl (Nat.le_of_ble_eq_true rfl) rfl rfl (tgO_s g0) (Nat.le_of_ble_eq_true rfl) (Nat.le_of_ble_eq_true rfl) hnc [(0, 12, 15, 23)] (0, 12, 19, 13) [] rfl (by
          intro z hz
          simp only [List.mem_cons, List.not_mem_nil, or_false] at hz
          rcases hz with rfl
          · exact ⟨by decide, _, w_963, by decide⟩) (by decide) (by decide) w_709 w_t720 (ct_X8_interval g) (Or.inr ⟨rfl, rfl⟩) dL_interval_19 (Nat.le_of_ble_eq_true rfl) rfl ?_
      refine ev_iconst dL_interval_21 (mi_c rfl) ?_
      cases hD
      exact ev_ret (some (vi _)) dL_interval_22 True.intro
    rw [if_neg c1] at hD
    cases hD
theorem ct_L_interval {G : mG} {x0 : Nat} {x1 : Int} {x2 : Int} {x3 : Int} {x4 : Nat} {σ : mS} {R : (Int × mS)} (hnc : ∀ q ∈ mNcs, va_Nc q.1 q.2 G.1) (hD : D_L_interval x0 x1 x2 x3 x4 σ = some R) : Ct G M_L_interval [vr x0, vi x1, vi x2, vi x3, vr x4] σ (.inl (some (vi R.1))) R.2 := ct_ofH rfl (by decide +kernel) rfl (Nat.le_of_ble_eq_true rfl) rfl (lk_L_interval hnc hD)
def D_L_misfit (x0 : Nat) (x1 : Int) (x2 : Int) (x3 : Nat) (σ : mS) : Option (Int × mS) :=
  (tgO σ x0 7).bind fun _ =>
  (D_X8_misfit x0 x1 x2 σ).bind fun r1 =>
  match r1 with
  | (Sum.inl v2, s4) =>
    (sL s4 x3 0 (mi2l v2)).bind fun s5 =>
    some (0, s5)
  | (Sum.inr e3, s4) =>
    if e3 = 0 then
      some (1, s4)
    else
      none
set_option maxRecDepth 100000 in
set_option maxHeartbeats 4000000 in
theorem lk_L_misfit {G : mG} {x0 : Nat} {x1 : Int} {x2 : Int} {x3 : Nat} {σ : mS} {R : (Int × mS)} (hnc : ∀ q ∈ mNcs, va_Nc q.1 q.2 G.1) (hD : D_L_misfit x0 x1 x2 x3 σ = some R) : Ev G M_L_misfit 0 [(0, vr x0), (1, vi x1), (2, vi x2), (3, vr x3)] [] σ (.inl (some (vi R.1))) R.2 := by
  unfold D_L_misfit at hD
  refine ev_aload_n dL_misfit_0 3 rfl rfl ?_
  refine ev_iconst dL_misfit_1 (mi_c rfl) ?_
  refine ev_aload_n dL_misfit_2 0 rfl rfl ?_
  refine ev_iload_n dL_misfit_3 1 rfl rfl ?_
  refine ev_iload_n dL_misfit_4 2 rfl rfl ?_
  obtain ⟨_, g0, hD⟩ := bd hD
  obtain ⟨r1, g, hD⟩ := bd hD
  obtain ⟨v2 | e3, s4⟩ := r1
  · refine ew_callVv (as := [vi x1, vi x2]) (a := x0) (rest := [vi 0, vr x3]) dL_misfit_5 v_X8_misfit w_1126 rfl (Nat.le_of_ble_eq_true rfl) rfl rfl g0 (Nat.le_of_ble_eq_true rfl) (Nat.le_of_ble_eq_true rfl) (ct_X8_misfit g) ?_
    dsimp only at hD
    refine ev_i2l dL_misfit_8 ?_
    obtain ⟨s5, g, hD⟩ := bd hD
    refine ew_last dL_misfit_9 g ?_
    refine ev_goto (tgt := 17) dL_misfit_10 (by decide) ?_
    refine ev_iconst dL_misfit_17 (mi_c rfl) ?_
    cases hD
    exact ev_ret (some (vi _)) dL_misfit_18 True.intro
  · dsimp only at hD
    by_cases c0 : e3 = 0
    · rw [if_pos c0] at hD
      subst c0
      refine ev_catV (as := [vi x1, vi x2]) (a := x0) (rest := [vi 0, vr x3]) (E := 0) (i := 4) dL_misfit_5 v_X8_misfit w_1126 rfl (Nat.le_of_ble_eq_true rfl) rfl rfl (tgO_s g0) (Nat.le_of_ble_eq_true rfl) (Nat.le_of_ble_eq_true rfl) hnc [] (0, 10, 13, 23) [] rfl (fun z hz => nomatch hz) (by decide) (by decide) w_963 w_t978 (ct_X8_misfit g) (Or.inr ⟨rfl, rfl⟩) dL_misfit_13 (Nat.le_of_ble_eq_true rfl) rfl ?_
      refine ev_iconst dL_misfit_15 (mi_c rfl) ?_
      cases hD
      exact ev_ret (some (vi _)) dL_misfit_16 True.intro
    rw [if_neg c0] at hD
    cases hD
theorem ct_L_misfit {G : mG} {x0 : Nat} {x1 : Int} {x2 : Int} {x3 : Nat} {σ : mS} {R : (Int × mS)} (hnc : ∀ q ∈ mNcs, va_Nc q.1 q.2 G.1) (hD : D_L_misfit x0 x1 x2 x3 σ = some R) : Ct G M_L_misfit [vr x0, vi x1, vi x2, vr x3] σ (.inl (some (vi R.1))) R.2 := ct_ofH rfl (by decide +kernel) rfl (Nat.le_of_ble_eq_true rfl) rfl (lk_L_misfit hnc hD)
def D_L_place (x0 : Nat) (x1 : Int) (x2 : Int) (x3 : Nat) (σ : mS) : Option (Int × mS) :=
  (tgO σ x0 7).bind fun _ =>
  (D_X8_place x0 x1 x2 σ).bind fun r1 =>
  match r1 with
  | (Sum.inl v2, s4) =>
    (sL s4 x3 0 (mi2l v2)).bind fun s5 =>
    some (0, s5)
  | (Sum.inr e3, s4) =>
    if e3 = 0 then
      some (1, s4)
    else
      none
set_option maxRecDepth 100000 in
set_option maxHeartbeats 4000000 in
theorem lk_L_place {G : mG} {x0 : Nat} {x1 : Int} {x2 : Int} {x3 : Nat} {σ : mS} {R : (Int × mS)} (hnc : ∀ q ∈ mNcs, va_Nc q.1 q.2 G.1) (hD : D_L_place x0 x1 x2 x3 σ = some R) : Ev G M_L_place 0 [(0, vr x0), (1, vi x1), (2, vi x2), (3, vr x3)] [] σ (.inl (some (vi R.1))) R.2 := by
  unfold D_L_place at hD
  refine ev_aload_n dL_place_0 3 rfl rfl ?_
  refine ev_iconst dL_place_1 (mi_c rfl) ?_
  refine ev_aload_n dL_place_2 0 rfl rfl ?_
  refine ev_iload_n dL_place_3 1 rfl rfl ?_
  refine ev_iload_n dL_place_4 2 rfl rfl ?_
  obtain ⟨_, g0, hD⟩ := bd hD
  obtain ⟨r1, g, hD⟩ := bd hD
  obtain ⟨v2 | e3, s4⟩ := r1
  · refine ew_callVv (as := [vi x1, vi x2]) (a := x0) (rest := [vi 0, vr x3]) dL_place_5 v_X8_place w_1133 rfl (Nat.le_of_ble_eq_true rfl) rfl rfl g0 (Nat.le_of_ble_eq_true rfl) (Nat.le_of_ble_eq_true rfl) (ct_X8_place g) ?_
    dsimp only at hD
    refine ev_i2l dL_place_8 ?_
    obtain ⟨s5, g, hD⟩ := bd hD
    refine ew_last dL_place_9 g ?_
    refine ev_goto (tgt := 17) dL_place_10 (by decide) ?_
    refine ev_iconst dL_place_17 (mi_c rfl) ?_
    cases hD
    exact ev_ret (some (vi _)) dL_place_18 True.intro
  · dsimp only at hD
    by_cases c0 : e3 = 0
    · rw [if_pos c0] at hD
      subst c0
      refine ev_catV (as := [vi x1, vi x2]) (a := x0) (rest := [vi 0, vr x3]) (E := 0) (i := 4) dL_place_5 v_X8_place w_1133 rfl (Nat.le_of_ble_eq_true rfl) rfl rfl (tgO_s g0) (Nat.le_of_ble_eq_true rfl) (Nat.le_of_ble_eq_true rfl) hnc [] (0, 10, 13, 23) [] rfl (fun z hz => nomatch hz) (by decide) (by decide) w_963 w_t978 (ct_X8_place g) (Or.inr ⟨rfl, rfl⟩) dL_place_13 (Nat.le_of_ble_eq_true rfl) rfl ?_
      refine ev_iconst dL_place_15 (mi_c rfl) ?_
      cases hD
      exact ev_ret (some (vi _)) dL_place_16 True.intro
    rw [if_neg c0] at hD
    cases hD
theorem ct_L_place {G : mG} {x0 : Nat} {x1 : Int} {x2 : Int} {x3 : Nat} {σ : mS} {R : (Int × mS)} (hnc : ∀ q ∈ mNcs, va_Nc q.1 q.2 G.1) (hD : D_L_place x0 x1 x2 x3 σ = some R) : Ct G M_L_place [vr x0, vi x1, vi x2, vr x3] σ (.inl (some (vi R.1))) R.2 := ct_ofH rfl (by decide +kernel) rfl (Nat.le_of_ble_eq_true rfl) rfl (lk_L_place hnc hD)
def D_L_rule (x0 : Nat) (x1 : Int) (x2 : Int) (x3 : Nat) (σ : mS) : Option (Int × mS) :=
  (tgO σ x0 7).bind fun _ =>
  (D_X8_rule x0 x1 x2 σ).bind fun r1 =>
  match r1 with
  | (Sum.inl v2, s4) =>
    (sL s4 x3 0 (mi2l v2)).bind fun s5 =>
    some (0, s5)
  | (Sum.inr e3, s4) =>
    if e3 = 0 then
      some (1, s4)
    else
    if e3 = 1 then
      some (2, s4)
    else
      none
set_option maxRecDepth 100000 in
set_option maxHeartbeats 4000000 in
theorem lk_L_rule {G : mG} {x0 : Nat} {x1 : Int} {x2 : Int} {x3 : Nat} {σ : mS} {R : (Int × mS)} (hnc : ∀ q ∈ mNcs, va_Nc q.1 q.2 G.1) (hD : D_L_rule x0 x1 x2 x3 σ = some R) : Ev G M_L_rule 0 [(0, vr x0), (1, vi x1), (2, vi x2), (3, vr x3)] [] σ (.inl (some (vi R.1))) R.2 := by
  unfold D_L_rule at hD
  refine ev_aload_n dL_rule_0 3 rfl rfl ?_
  refine ev_iconst dL_rule_1 (mi_c rfl) ?_
  refine ev_aload_n dL_rule_2 0 rfl rfl ?_
  refine ev_iload_n dL_rule_3 1 rfl rfl ?_
  refine ev_iload_n dL_rule_4 2 rfl rfl ?_
  obtain ⟨_, g0, hD⟩ := bd hD
  obtain ⟨r1, g, hD⟩ := bd hD
  obtain ⟨v2 | e3, s4⟩ := r1
  · refine ew_callVv (as := [vi x1, vi x2]) (a := x0) (rest := [vi 0, vr x3]) dL_rule_5 v_X8_rule w_1143 rfl (Nat.le_of_ble_eq_true rfl) rfl rfl g0 (Nat.le_of_ble_eq_true rfl) (Nat.le_of_ble_eq_true rfl) (ct_X8_rule g) ?_
    dsimp only at hD
    refine ev_i2l dL_rule_8 ?_
    obtain ⟨s5, g, hD⟩ := bd hD
    refine ew_last dL_rule_9 g ?_
    refine ev_goto (tgt := 21) dL_rule_10 (by decide) ?_
    refine ev_iconst dL_rule_21 (mi_c rfl) ?_
    cases hD
    exact ev_ret (some (vi _)) dL_rule_22 True.intro
  · dsimp only at hD
    by_cases c0 : e3 = 0
    · rw [if_pos c0] at hD
      subst c0
      refine ev_catV (as := [vi x1, vi x2]) (a := x0) (rest := [vi 0, vr x3]) (E := 0) (i := 4) dL_rule_5 v_X8_rule w_1143 rfl (Nat.le_of_ble_eq_true rfl) rfl rfl (tgO_s g0) (Nat.le_of_ble_eq_true rfl) (Nat.le_of_ble_eq_true rfl) hnc [] (0, 10, 13, 23) [(0, 10, 17, 13)] rfl (fun z hz => nomatch hz) (by decide) (by decide) w_963 w_t978 (ct_X8_rule g) (Or.inr ⟨rfl, rfl⟩) dL_rule_13 (Nat.le_of_ble_eq_true rfl) rfl ?_
      refine ev_iconst dL_rule_15 (mi_c rfl) ?_
      cases hD
      exact ev_ret (some (vi _)) dL_rule_16 True.intro
    rw [if_neg c0] at hD
    by_cases c1 : e3 = 1
    · rw [if_pos c1] at hD
      subst c1
      refine ev_catV (as := [vi x1, vi x2]) (a := x0) (rest := [vi 0, vr x3]) (E := 1) (i := 4) dL_rule_5 v_X8_rule w_1143 rfl (Nat.le_of_ble_eq_true rfl) rfl rfl (tgO_s g0) (Nat.le_of_ble_eq_true rfl) (Nat.le_of_ble_eq_true rfl) hnc [(0, 10, 13, 23)] (0, 10, 17, 13) [] rfl (by
          intro z hz
          simp only [List.mem_cons, List.not_mem_nil, or_false] at hz
          rcases hz with rfl
          · exact ⟨by decide, _, w_963, by decide⟩) (by decide) (by decide) w_709 w_t720 (ct_X8_rule g) (Or.inr ⟨rfl, rfl⟩) dL_rule_17 (Nat.le_of_ble_eq_true rfl) rfl ?_
      refine ev_iconst dL_rule_19 (mi_c rfl) ?_
      cases hD
      exact ev_ret (some (vi _)) dL_rule_20 True.intro
    rw [if_neg c1] at hD
    cases hD
theorem ct_L_rule {G : mG} {x0 : Nat} {x1 : Int} {x2 : Int} {x3 : Nat} {σ : mS} {R : (Int × mS)} (hnc : ∀ q ∈ mNcs, va_Nc q.1 q.2 G.1) (hD : D_L_rule x0 x1 x2 x3 σ = some R) : Ct G M_L_rule [vr x0, vi x1, vi x2, vr x3] σ (.inl (some (vi R.1))) R.2 := ct_ofH rfl (by decide +kernel) rfl (Nat.le_of_ble_eq_true rfl) rfl (lk_L_rule hnc hD)
def D_L_clash (x0 : Nat) (x1 : Int) (x2 : Nat) (σ : mS) : Option (Int × mS) :=
  (tgO σ x0 7).bind fun _ =>
  (D_X8_clash x0 x1 σ).bind fun r1 =>
  match r1 with
  | (Sum.inl v2, s4) =>
    (sL s4 x2 0 (mi2l v2)).bind fun s5 =>
    some (0, s5)
  | (Sum.inr e3, s4) =>
    if e3 = 1 then
      some (1, s4)
    else
      none
set_option maxRecDepth 100000 in
set_option maxHeartbeats 4000000 in
theorem lk_L_clash {G : mG} {x0 : Nat} {x1 : Int} {x2 : Nat} {σ : mS} {R : (Int × mS)} (hnc : ∀ q ∈ mNcs, va_Nc q.1 q.2 G.1) (hD : D_L_clash x0 x1 x2 σ = some R) : Ev G M_L_clash 0 [(0, vr x0), (1, vi x1), (2, vr x2)] [] σ (.inl (some (vi R.1))) R.2 := by
  unfold D_L_clash at hD
  refine ev_aload_n dL_clash_0 2 rfl rfl ?_
  refine ev_iconst dL_clash_1 (mi_c rfl) ?_
  refine ev_aload_n dL_clash_2 0 rfl rfl ?_
  refine ev_iload_n dL_clash_3 1 rfl rfl ?_
  obtain ⟨_, g0, hD⟩ := bd hD
  obtain ⟨r1, g, hD⟩ := bd hD
  obtain ⟨v2 | e3, s4⟩ := r1
  · refine ew_callVv (as := [vi x1]) (a := x0) (rest := [vi 0, vr x2]) dL_clash_4 v_X8_clash w_1150 rfl (Nat.le_of_ble_eq_true rfl) rfl rfl g0 (Nat.le_of_ble_eq_true rfl) (Nat.le_of_ble_eq_true rfl) (ct_X8_clash g) ?_
    dsimp only at hD
    refine ev_i2l dL_clash_7 ?_
    obtain ⟨s5, g, hD⟩ := bd hD
    refine ew_last dL_clash_8 g ?_
    refine ev_goto (tgt := 15) dL_clash_9 (by decide) ?_
    refine ev_iconst dL_clash_15 (mi_c rfl) ?_
    cases hD
    exact ev_ret (some (vi _)) dL_clash_16 True.intro
  · dsimp only at hD
    by_cases c0 : e3 = 1
    · rw [if_pos c0] at hD
      subst c0
      refine ev_catV (as := [vi x1]) (a := x0) (rest := [vi 0, vr x2]) (E := 1) (i := 3) dL_clash_4 v_X8_clash w_1150 rfl (Nat.le_of_ble_eq_true rfl) rfl rfl (tgO_s g0) (Nat.le_of_ble_eq_true rfl) (Nat.le_of_ble_eq_true rfl) hnc [] (0, 9, 12, 13) [] rfl (fun z hz => nomatch hz) (by decide) (by decide) w_709 w_t720 (ct_X8_clash g) (Or.inl ⟨_, rfl, rfl, rfl⟩) dL_clash_12 (Nat.le_of_ble_eq_true rfl) rfl ?_
      refine ev_iconst dL_clash_13 (mi_c rfl) ?_
      cases hD
      exact ev_ret (some (vi _)) dL_clash_14 True.intro
    rw [if_neg c0] at hD
    cases hD
theorem ct_L_clash {G : mG} {x0 : Nat} {x1 : Int} {x2 : Nat} {σ : mS} {R : (Int × mS)} (hnc : ∀ q ∈ mNcs, va_Nc q.1 q.2 G.1) (hD : D_L_clash x0 x1 x2 σ = some R) : Ct G M_L_clash [vr x0, vi x1, vr x2] σ (.inl (some (vi R.1))) R.2 := ct_ofH rfl (by decide +kernel) rfl (Nat.le_of_ble_eq_true rfl) rfl (lk_L_clash hnc hD)
def D_L_without (x0 : Nat) (x1 : Int) (x2 : Int) (x3 : Nat) (σ : mS) : Option (Int × mS) :=
  (tgO σ x0 7).bind fun _ =>
  (D_X8_without x0 x1 x2 σ).bind fun r1 =>
  match r1 with
  | (Sum.inl v2, s4) =>
    (sL s4 x3 0 (mi2l v2)).bind fun s5 =>
    some (0, s5)
  | (Sum.inr e3, s4) =>
    if e3 = 0 then
      some (1, s4)
    else
    if e3 = 1 then
      some (2, s4)
    else
      none
set_option maxRecDepth 100000 in
set_option maxHeartbeats 4000000 in
theorem lk_L_without {G : mG} {x0 : Nat} {x1 : Int} {x2 : Int} {x3 : Nat} {σ : mS} {R : (Int × mS)} (hnc : ∀ q ∈ mNcs, va_Nc q.1 q.2 G.1) (hD : D_L_without x0 x1 x2 x3 σ = some R) : Ev G M_L_without 0 [(0, vr x0), (1, vi x1), (2, vi x2), (3, vr x3)] [] σ (.inl (some (vi R.1))) R.2 := by
  unfold D_L_without at hD
  refine ev_aload_n dL_without_0 3 rfl rfl ?_
  refine ev_iconst dL_without_1 (mi_c rfl) ?_
  refine ev_aload_n dL_without_2 0 rfl rfl ?_
  refine ev_iload_n dL_without_3 1 rfl rfl ?_
  refine ev_iload_n dL_without_4 2 rfl rfl ?_
  obtain ⟨_, g0, hD⟩ := bd hD
  obtain ⟨r1, g, hD⟩ := bd hD
  obtain ⟨v2 | e3, s4⟩ := r1
  · refine ew_callVv (as := [vi x1, vi x2]) (a := x0) (rest := [vi 0, vr x3]) dL_without_5 v_X8_without w_1157 rfl (Nat.le_of_ble_eq_true rfl) rfl rfl g0 (Nat.le_of_ble_eq_true rfl) (Nat.le_of_ble_eq_true rfl) (ct_X8_without g) ?_
    dsimp only at hD
    refine ev_i2l dL_without_8 ?_
    obtain ⟨s5, g, hD⟩ := bd hD
    refine ew_last dL_without_9 g ?_
    refine ev_goto (tgt := 21) dL_without_10 (by decide) ?_
    refine ev_iconst dL_without_21 (mi_c rfl) ?_
    cases hD
    exact ev_ret (some (vi _)) dL_without_22 True.intro
  · dsimp only at hD
    by_cases c0 : e3 = 0
    · rw [if_pos c0] at hD
      subst c0
      refine ev_catV (as := [vi x1, vi x2]) (a := x0) (rest := [vi 0, vr x3]) (E := 0) (i := 4) dL_without_5 v_X8_without w_1157 rfl (Nat.le_of_ble_eq_true rfl) rfl rfl (tgO_s g0) (Nat.le_of_ble_eq_true rfl) (Nat.le_of_ble_eq_true rfl) hnc [] (0, 10, 13, 23) [(0, 10, 17, 13)] rfl (fun z hz => nomatch hz) (by decide) (by decide) w_963 w_t978 (ct_X8_without g) (Or.inr ⟨rfl, rfl⟩) dL_without_13 (Nat.le_of_ble_eq_true rfl) rfl ?_
      refine ev_iconst dL_without_15 (mi_c rfl) ?_
      cases hD
      exact ev_ret (some (vi _)) dL_without_16 True.intro
    rw [if_neg c0] at hD
    by_cases c1 : e3 = 1
    · rw [if_pos c1] at hD
      subst c1
      refine ev_catV (as := [vi x1, vi x2]) (a := x0) (rest := [vi 0, vr x3]) (E := 1) (i := 4) dL_without_5 v_X8_without w_1157 rfl (Nat.le_of_ble_eq_true rfl) rfl rfl (tgO_s g0) (Nat.le_of_ble_eq_true rfl) (Nat.le_of_ble_eq_true rfl) hnc [(0, 10, 13, 23)] (0, 10, 17, 13) [] rfl (by
          intro z hz
          simp only [List.mem_cons, List.not_mem_nil, or_false] at hz
          rcases hz with rfl
          · exact ⟨by decide, _, w_963, by decide⟩) (by decide) (by decide) w_709 w_t720 (ct_X8_without g) (Or.inr ⟨rfl, rfl⟩) dL_without_17 (Nat.le_of_ble_eq_true rfl) rfl ?_
      refine ev_iconst dL_without_19 (mi_c rfl) ?_
      cases hD
      exact ev_ret (some (vi _)) dL_without_20 True.intro
    rw [if_neg c1] at hD
    cases hD
theorem ct_L_without {G : mG} {x0 : Nat} {x1 : Int} {x2 : Int} {x3 : Nat} {σ : mS} {R : (Int × mS)} (hnc : ∀ q ∈ mNcs, va_Nc q.1 q.2 G.1) (hD : D_L_without x0 x1 x2 x3 σ = some R) : Ct G M_L_without [vr x0, vi x1, vi x2, vr x3] σ (.inl (some (vi R.1))) R.2 := ct_ofH rfl (by decide +kernel) rfl (Nat.le_of_ble_eq_true rfl) rfl (lk_L_without hnc hD)
def D_L_pinned (x0 : Nat) (x1 : Int) (x2 : Int) (x3 : Int) (x4 : Nat) (σ : mS) : Option (Int × mS) :=
  (tgO σ x0 7).bind fun _ =>
  (D_X8_pinned x0 x1 x2 x3 σ).bind fun r1 =>
  match r1 with
  | (Sum.inl v2, s4) =>
    (sL s4 x4 0 (mi2l v2)).bind fun s5 =>
    some (0, s5)
  | (Sum.inr e3, s4) =>
    if e3 = 0 then
      some (1, s4)
    else
    if e3 = 1 then
      some (2, s4)
    else
      none
set_option maxRecDepth 100000 in
set_option maxHeartbeats 4000000 in
theorem lk_L_pinned {G : mG} {x0 : Nat} {x1 : Int} {x2 : Int} {x3 : Int} {x4 : Nat} {σ : mS} {R : (Int × mS)} (hnc : ∀ q ∈ mNcs, va_Nc q.1 q.2 G.1) (hD : D_L_pinned x0 x1 x2 x3 x4 σ = some R) : Ev G M_L_pinned 0 [(0, vr x0), (1, vi x1), (2, vi x2), (3, vi x3), (4, vr x4)] [] σ (.inl (some (vi R.1))) R.2 := by
  unfold D_L_pinned at hD
  refine ev_aload dL_pinned_0 4 rfl ?_
  refine ev_iconst dL_pinned_2 (mi_c rfl) ?_
  refine ev_aload_n dL_pinned_3 0 rfl rfl ?_
  refine ev_iload_n dL_pinned_4 1 rfl rfl ?_
  refine ev_iload_n dL_pinned_5 2 rfl rfl ?_
  refine ev_iload_n dL_pinned_6 3 rfl rfl ?_
  obtain ⟨_, g0, hD⟩ := bd hD
  obtain ⟨r1, g, hD⟩ := bd hD
  obtain ⟨v2 | e3, s4⟩ := r1
  · refine ew_callVv (as := [vi x1, vi x2, vi x3]) (a := x0) (rest := [vi 0, vr x4]) dL_pinned_7 v_X8_pinned w_1168 rfl (Nat.le_of_ble_eq_true rfl) rfl rfl g0 (Nat.le_of_ble_eq_true rfl) (Nat.le_of_ble_eq_true rfl) (ct_X8_pinned g) ?_
    dsimp only at hD
    refine ev_i2l dL_pinned_10 ?_
    obtain ⟨s5, g, hD⟩ := bd hD
    refine ew_last dL_pinned_11 g ?_
    refine ev_goto (tgt := 23) dL_pinned_12 (by decide) ?_
    refine ev_iconst dL_pinned_23 (mi_c rfl) ?_
    cases hD
    exact ev_ret (some (vi _)) dL_pinned_24 True.intro
  · dsimp only at hD
    by_cases c0 : e3 = 0
    · rw [if_pos c0] at hD
      subst c0
      refine ev_catV (as := [vi x1, vi x2, vi x3]) (a := x0) (rest := [vi 0, vr x4]) (E := 0) (i := 5) dL_pinned_7 v_X8_pinned w_1168 rfl (Nat.le_of_ble_eq_true rfl) rfl rfl (tgO_s g0) (Nat.le_of_ble_eq_true rfl) (Nat.le_of_ble_eq_true rfl) hnc [] (0, 12, 15, 23) [(0, 12, 19, 13)] rfl (fun z hz => nomatch hz) (by decide) (by decide) w_963 w_t978 (ct_X8_pinned g) (Or.inr ⟨rfl, rfl⟩) dL_pinned_15 (Nat.le_of_ble_eq_true rfl) rfl ?_
      refine ev_iconst dL_pinned_17 (mi_c rfl) ?_
      cases hD
      exact ev_ret (some (vi _)) dL_pinned_18 True.intro
    rw [if_neg c0] at hD
    by_cases c1 : e3 = 1
    · rw [if_pos c1] at hD
      subst c1
      refine ev_catV (as := [vi x1, vi x2, vi x3]) (a := x0) (rest := [vi 0, vr x4]) (E := 1) (i := 5) dL_pinned_7 v_X8_pinned w_1168 rfl (Nat.le_of_ble_eq_true rfl) rfl rfl (tgO_s g0) (Nat.le_of_ble_eq_true rfl) (Nat.le_of_ble_eq_true rfl) hnc [(0, 12, 15, 23)] (0, 12, 19, 13) [] rfl (by
          intro z hz
          simp only [List.mem_cons, List.not_mem_nil, or_false] at hz
          rcases hz with rfl
          · exact ⟨by decide, _, w_963, by decide⟩) (by decide) (by decide) w_709 w_t720 (ct_X8_pinned g) (Or.inr ⟨rfl, rfl⟩) dL_pinned_19 (Nat.le_of_ble_eq_true rfl) rfl ?_
      refine ev_iconst dL_pinned_21 (mi_c rfl) ?_
      cases hD
      exact ev_ret (some (vi _)) dL_pinned_22 True.intro
    rw [if_neg c1] at hD
    cases hD
theorem ct_L_pinned {G : mG} {x0 : Nat} {x1 : Int} {x2 : Int} {x3 : Int} {x4 : Nat} {σ : mS} {R : (Int × mS)} (hnc : ∀ q ∈ mNcs, va_Nc q.1 q.2 G.1) (hD : D_L_pinned x0 x1 x2 x3 x4 σ = some R) : Ct G M_L_pinned [vr x0, vi x1, vi x2, vi x3, vr x4] σ (.inl (some (vi R.1))) R.2 := ct_ofH rfl (by decide +kernel) rfl (Nat.le_of_ble_eq_true rfl) rfl (lk_L_pinned hnc hD)
def D_L_doomed (x0 : Nat) (x1 : Int) (x2 : Nat) (σ : mS) : Option (Int × mS) :=
  (tgO σ x0 7).bind fun _ =>
  (D_X8_doomed x0 x1 σ).bind fun r1 =>
  match r1 with
  | (Sum.inl v2, s4) =>
    (sL s4 x2 0 (mi2l v2)).bind fun s5 =>
    some (0, s5)
  | (Sum.inr e3, s4) =>
    if e3 = 0 then
      some (1, s4)
    else
      none
set_option maxRecDepth 100000 in
set_option maxHeartbeats 4000000 in
theorem lk_L_doomed {G : mG} {x0 : Nat} {x1 : Int} {x2 : Nat} {σ : mS} {R : (Int × mS)} (hnc : ∀ q ∈ mNcs, va_Nc q.1 q.2 G.1) (hD : D_L_doomed x0 x1 x2 σ = some R) : Ev G M_L_doomed 0 [(0, vr x0), (1, vi x1), (2, vr x2)] [] σ (.inl (some (vi R.1))) R.2 := by
  unfold D_L_doomed at hD
  refine ev_aload_n dL_doomed_0 2 rfl rfl ?_
  refine ev_iconst dL_doomed_1 (mi_c rfl) ?_
  refine ev_aload_n dL_doomed_2 0 rfl rfl ?_
  refine ev_iload_n dL_doomed_3 1 rfl rfl ?_
  obtain ⟨_, g0, hD⟩ := bd hD
  obtain ⟨r1, g, hD⟩ := bd hD
  obtain ⟨v2 | e3, s4⟩ := r1
  · refine ew_callVv (as := [vi x1]) (a := x0) (rest := [vi 0, vr x2]) dL_doomed_4 v_X8_doomed w_1179 rfl (Nat.le_of_ble_eq_true rfl) rfl rfl g0 (Nat.le_of_ble_eq_true rfl) (Nat.le_of_ble_eq_true rfl) (ct_X8_doomed g) ?_
    dsimp only at hD
    refine ev_i2l dL_doomed_7 ?_
    obtain ⟨s5, g, hD⟩ := bd hD
    refine ew_last dL_doomed_8 g ?_
    refine ev_goto (tgt := 15) dL_doomed_9 (by decide) ?_
    refine ev_iconst dL_doomed_15 (mi_c rfl) ?_
    cases hD
    exact ev_ret (some (vi _)) dL_doomed_16 True.intro
  · dsimp only at hD
    by_cases c0 : e3 = 0
    · rw [if_pos c0] at hD
      subst c0
      refine ev_catV (as := [vi x1]) (a := x0) (rest := [vi 0, vr x2]) (E := 0) (i := 3) dL_doomed_4 v_X8_doomed w_1179 rfl (Nat.le_of_ble_eq_true rfl) rfl rfl (tgO_s g0) (Nat.le_of_ble_eq_true rfl) (Nat.le_of_ble_eq_true rfl) hnc [] (0, 9, 12, 23) [] rfl (fun z hz => nomatch hz) (by decide) (by decide) w_963 w_t978 (ct_X8_doomed g) (Or.inl ⟨_, rfl, rfl, rfl⟩) dL_doomed_12 (Nat.le_of_ble_eq_true rfl) rfl ?_
      refine ev_iconst dL_doomed_13 (mi_c rfl) ?_
      cases hD
      exact ev_ret (some (vi _)) dL_doomed_14 True.intro
    rw [if_neg c0] at hD
    cases hD
theorem ct_L_doomed {G : mG} {x0 : Nat} {x1 : Int} {x2 : Nat} {σ : mS} {R : (Int × mS)} (hnc : ∀ q ∈ mNcs, va_Nc q.1 q.2 G.1) (hD : D_L_doomed x0 x1 x2 σ = some R) : Ct G M_L_doomed [vr x0, vi x1, vr x2] σ (.inl (some (vi R.1))) R.2 := ct_ofH rfl (by decide +kernel) rfl (Nat.le_of_ble_eq_true rfl) rfl (lk_L_doomed hnc hD)
def D_L_phase (x0 : Nat) (x1 : Int) (x2 : Int) (x3 : Nat) (σ : mS) : Option (Int × mS) :=
  (tgO σ x0 7).bind fun _ =>
  (D_X8_phase x0 x1 x2 σ).bind fun r1 =>
  match r1 with
  | (Sum.inl v2, s4) =>
    (sL s4 x3 0 (mi2l v2)).bind fun s5 =>
    some (0, s5)
  | (Sum.inr e3, s4) =>
    if e3 = 0 then
      some (1, s4)
    else
    if e3 = 1 then
      some (2, s4)
    else
      none
set_option maxRecDepth 100000 in
set_option maxHeartbeats 4000000 in
theorem lk_L_phase {G : mG} {x0 : Nat} {x1 : Int} {x2 : Int} {x3 : Nat} {σ : mS} {R : (Int × mS)} (hnc : ∀ q ∈ mNcs, va_Nc q.1 q.2 G.1) (hD : D_L_phase x0 x1 x2 x3 σ = some R) : Ev G M_L_phase 0 [(0, vr x0), (1, vi x1), (2, vi x2), (3, vr x3)] [] σ (.inl (some (vi R.1))) R.2 := by
  unfold D_L_phase at hD
  refine ev_aload_n dL_phase_0 3 rfl rfl ?_
  refine ev_iconst dL_phase_1 (mi_c rfl) ?_
  refine ev_aload_n dL_phase_2 0 rfl rfl ?_
  refine ev_iload_n dL_phase_3 1 rfl rfl ?_
  refine ev_iload_n dL_phase_4 2 rfl rfl ?_
  obtain ⟨_, g0, hD⟩ := bd hD
  obtain ⟨r1, g, hD⟩ := bd hD
  obtain ⟨v2 | e3, s4⟩ := r1
  · refine ew_callVv (as := [vi x1, vi x2]) (a := x0) (rest := [vi 0, vr x3]) dL_phase_5 v_X8_phase w_1190 rfl (Nat.le_of_ble_eq_true rfl) rfl rfl g0 (Nat.le_of_ble_eq_true rfl) (Nat.le_of_ble_eq_true rfl) (ct_X8_phase g) ?_
    dsimp only at hD
    refine ev_i2l dL_phase_8 ?_
    obtain ⟨s5, g, hD⟩ := bd hD
    refine ew_last dL_phase_9 g ?_
    refine ev_goto (tgt := 21) dL_phase_10 (by decide) ?_
    refine ev_iconst dL_phase_21 (mi_c rfl) ?_
    cases hD
    exact ev_ret (some (vi _)) dL_phase_22 True.intro
  · dsimp only at hD
    by_cases c0 : e3 = 0
    · rw [if_pos c0] at hD
      subst c0
      refine ev_catV (as := [vi x1, vi x2]) (a := x0) (rest := [vi 0, vr x3]) (E := 0) (i := 4) dL_phase_5 v_X8_phase w_1190 rfl (Nat.le_of_ble_eq_true rfl) rfl rfl (tgO_s g0) (Nat.le_of_ble_eq_true rfl) (Nat.le_of_ble_eq_true rfl) hnc [] (0, 10, 13, 23) [(0, 10, 17, 13)] rfl (fun z hz => nomatch hz) (by decide) (by decide) w_963 w_t978 (ct_X8_phase g) (Or.inr ⟨rfl, rfl⟩) dL_phase_13 (Nat.le_of_ble_eq_true rfl) rfl ?_
      refine ev_iconst dL_phase_15 (mi_c rfl) ?_
      cases hD
      exact ev_ret (some (vi _)) dL_phase_16 True.intro
    rw [if_neg c0] at hD
    by_cases c1 : e3 = 1
    · rw [if_pos c1] at hD
      subst c1
      refine ev_catV (as := [vi x1, vi x2]) (a := x0) (rest := [vi 0, vr x3]) (E := 1) (i := 4) dL_phase_5 v_X8_phase w_1190 rfl (Nat.le_of_ble_eq_true rfl) rfl rfl (tgO_s g0) (Nat.le_of_ble_eq_true rfl) (Nat.le_of_ble_eq_true rfl) hnc [(0, 10, 13, 23)] (0, 10, 17, 13) [] rfl (by
          intro z hz
          simp only [List.mem_cons, List.not_mem_nil, or_false] at hz
          rcases hz with rfl
          · exact ⟨by decide, _, w_963, by decide⟩) (by decide) (by decide) w_709 w_t720 (ct_X8_phase g) (Or.inr ⟨rfl, rfl⟩) dL_phase_17 (Nat.le_of_ble_eq_true rfl) rfl ?_
      refine ev_iconst dL_phase_19 (mi_c rfl) ?_
      cases hD
      exact ev_ret (some (vi _)) dL_phase_20 True.intro
    rw [if_neg c1] at hD
    cases hD
theorem ct_L_phase {G : mG} {x0 : Nat} {x1 : Int} {x2 : Int} {x3 : Nat} {σ : mS} {R : (Int × mS)} (hnc : ∀ q ∈ mNcs, va_Nc q.1 q.2 G.1) (hD : D_L_phase x0 x1 x2 x3 σ = some R) : Ct G M_L_phase [vr x0, vi x1, vi x2, vr x3] σ (.inl (some (vi R.1))) R.2 := ct_ofH rfl (by decide +kernel) rfl (Nat.le_of_ble_eq_true rfl) rfl (lk_L_phase hnc hD)
def D_L_member (x0 : Nat) (x1 : Int) (x2 : Int) (x3 : Nat) (σ : mS) : Option (Int × mS) :=
  (tgO σ x0 7).bind fun _ =>
  (D_X8_member x0 x1 x2 σ).bind fun r1 =>
  match r1 with
  | (Sum.inl v2, s4) =>
    (sL s4 x3 0 (mi2l v2)).bind fun s5 =>
    some (0, s5)
  | (Sum.inr e3, s4) =>
    if e3 = 0 then
      some (1, s4)
    else
      none
set_option maxRecDepth 100000 in
set_option maxHeartbeats 4000000 in
theorem lk_L_member {G : mG} {x0 : Nat} {x1 : Int} {x2 : Int} {x3 : Nat} {σ : mS} {R : (Int × mS)} (hnc : ∀ q ∈ mNcs, va_Nc q.1 q.2 G.1) (hD : D_L_member x0 x1 x2 x3 σ = some R) : Ev G M_L_member 0 [(0, vr x0), (1, vi x1), (2, vi x2), (3, vr x3)] [] σ (.inl (some (vi R.1))) R.2 := by
  unfold D_L_member at hD
  refine ev_aload_n dL_member_0 3 rfl rfl ?_
  refine ev_iconst dL_member_1 (mi_c rfl) ?_
  refine ev_aload_n dL_member_2 0 rfl rfl ?_
  refine ev_iload_n dL_member_3 1 rfl rfl ?_
  refine ev_iload_n dL_member_4 2 rfl rfl ?_
  obtain ⟨_, g0, hD⟩ := bd hD
  obtain ⟨r1, g, hD⟩ := bd hD
  obtain ⟨v2 | e3, s4⟩ := r1
  · refine ew_callVv (as := [vi x1, vi x2]) (a := x0) (rest := [vi 0, vr x3]) dL_member_5 v_X8_member w_1207 rfl (Nat.le_of_ble_eq_true rfl) rfl rfl g0 (Nat.le_of_ble_eq_true rfl) (Nat.le_of_ble_eq_true rfl) (ct_X8_member g) ?_
    dsimp only at hD
    refine ev_i2l dL_member_8 ?_
    obtain ⟨s5, g, hD⟩ := bd hD
    refine ew_last dL_member_9 g ?_
    refine ev_goto (tgt := 17) dL_member_10 (by decide) ?_
    refine ev_iconst dL_member_17 (mi_c rfl) ?_
    cases hD
    exact ev_ret (some (vi _)) dL_member_18 True.intro
  · dsimp only at hD
    by_cases c0 : e3 = 0
    · rw [if_pos c0] at hD
      subst c0
      refine ev_catV (as := [vi x1, vi x2]) (a := x0) (rest := [vi 0, vr x3]) (E := 0) (i := 4) dL_member_5 v_X8_member w_1207 rfl (Nat.le_of_ble_eq_true rfl) rfl rfl (tgO_s g0) (Nat.le_of_ble_eq_true rfl) (Nat.le_of_ble_eq_true rfl) hnc [] (0, 10, 13, 23) [] rfl (fun z hz => nomatch hz) (by decide) (by decide) w_963 w_t978 (ct_X8_member g) (Or.inr ⟨rfl, rfl⟩) dL_member_13 (Nat.le_of_ble_eq_true rfl) rfl ?_
      refine ev_iconst dL_member_15 (mi_c rfl) ?_
      cases hD
      exact ev_ret (some (vi _)) dL_member_16 True.intro
    rw [if_neg c0] at hD
    cases hD
theorem ct_L_member {G : mG} {x0 : Nat} {x1 : Int} {x2 : Int} {x3 : Nat} {σ : mS} {R : (Int × mS)} (hnc : ∀ q ∈ mNcs, va_Nc q.1 q.2 G.1) (hD : D_L_member x0 x1 x2 x3 σ = some R) : Ct G M_L_member [vr x0, vi x1, vi x2, vr x3] σ (.inl (some (vi R.1))) R.2 := ct_ofH rfl (by decide +kernel) rfl (Nat.le_of_ble_eq_true rfl) rfl (lk_L_member hnc hD)
def D_L_trial (x0 : Nat) (x1 : Int) (x2 : Nat) (σ : mS) : Option (Int × mS) :=
  (tgO σ x0 7).bind fun _ =>
  (D_X8_trial x0 x1 σ).bind fun r1 =>
  match r1 with
  | (Sum.inl v2, s4) =>
    (sL s4 x2 0 (mi2l v2)).bind fun s5 =>
    some (0, s5)
  | (Sum.inr e3, s4) =>
    if e3 = 1 then
      some (1, s4)
    else
      none
set_option maxRecDepth 100000 in
set_option maxHeartbeats 4000000 in
theorem lk_L_trial {G : mG} {x0 : Nat} {x1 : Int} {x2 : Nat} {σ : mS} {R : (Int × mS)} (hnc : ∀ q ∈ mNcs, va_Nc q.1 q.2 G.1) (hD : D_L_trial x0 x1 x2 σ = some R) : Ev G M_L_trial 0 [(0, vr x0), (1, vi x1), (2, vr x2)] [] σ (.inl (some (vi R.1))) R.2 := by
  unfold D_L_trial at hD
  refine ev_aload_n dL_trial_0 2 rfl rfl ?_
  refine ev_iconst dL_trial_1 (mi_c rfl) ?_
  refine ev_aload_n dL_trial_2 0 rfl rfl ?_
  refine ev_iload_n dL_trial_3 1 rfl rfl ?_
  obtain ⟨_, g0, hD⟩ := bd hD
  obtain ⟨r1, g, hD⟩ := bd hD
  obtain ⟨v2 | e3, s4⟩ := r1
  · refine ew_callVv (as := [vi x1]) (a := x0) (rest := [vi 0, vr x2]) dL_trial_4 v_X8_trial w_1214 rfl (Nat.le_of_ble_eq_true rfl) rfl rfl g0 (Nat.le_of_ble_eq_true rfl) (Nat.le_of_ble_eq_true rfl) (ct_X8_trial g) ?_
    dsimp only at hD
    refine ev_i2l dL_trial_7 ?_
    obtain ⟨s5, g, hD⟩ := bd hD
    refine ew_last dL_trial_8 g ?_
    refine ev_goto (tgt := 15) dL_trial_9 (by decide) ?_
    refine ev_iconst dL_trial_15 (mi_c rfl) ?_
    cases hD
    exact ev_ret (some (vi _)) dL_trial_16 True.intro
  · dsimp only at hD
    by_cases c0 : e3 = 1
    · rw [if_pos c0] at hD
      subst c0
      refine ev_catV (as := [vi x1]) (a := x0) (rest := [vi 0, vr x2]) (E := 1) (i := 3) dL_trial_4 v_X8_trial w_1214 rfl (Nat.le_of_ble_eq_true rfl) rfl rfl (tgO_s g0) (Nat.le_of_ble_eq_true rfl) (Nat.le_of_ble_eq_true rfl) hnc [] (0, 9, 12, 13) [] rfl (fun z hz => nomatch hz) (by decide) (by decide) w_709 w_t720 (ct_X8_trial g) (Or.inl ⟨_, rfl, rfl, rfl⟩) dL_trial_12 (Nat.le_of_ble_eq_true rfl) rfl ?_
      refine ev_iconst dL_trial_13 (mi_c rfl) ?_
      cases hD
      exact ev_ret (some (vi _)) dL_trial_14 True.intro
    rw [if_neg c0] at hD
    cases hD
theorem ct_L_trial {G : mG} {x0 : Nat} {x1 : Int} {x2 : Nat} {σ : mS} {R : (Int × mS)} (hnc : ∀ q ∈ mNcs, va_Nc q.1 q.2 G.1) (hD : D_L_trial x0 x1 x2 σ = some R) : Ct G M_L_trial [vr x0, vi x1, vr x2] σ (.inl (some (vi R.1))) R.2 := ct_ofH rfl (by decide +kernel) rfl (Nat.le_of_ble_eq_true rfl) rfl (lk_L_trial hnc hD)
def D_L_tried (x0 : Nat) (x1 : Int) (x2 : Nat) (σ : mS) : Option (Int × mS) :=
  (tgO σ x0 7).bind fun _ =>
  (D_X8_tried x0 x1 σ).bind fun r1 =>
  match r1 with
  | (Sum.inl v2, s4) =>
    (sL s4 x2 0 (mi2l v2)).bind fun s5 =>
    some (0, s5)
  | (Sum.inr e3, s4) =>
    if e3 = 0 then
      some (1, s4)
    else
      none
set_option maxRecDepth 100000 in
set_option maxHeartbeats 4000000 in
theorem lk_L_tried {G : mG} {x0 : Nat} {x1 : Int} {x2 : Nat} {σ : mS} {R : (Int × mS)} (hnc : ∀ q ∈ mNcs, va_Nc q.1 q.2 G.1) (hD : D_L_tried x0 x1 x2 σ = some R) : Ev G M_L_tried 0 [(0, vr x0), (1, vi x1), (2, vr x2)] [] σ (.inl (some (vi R.1))) R.2 := by
  unfold D_L_tried at hD
  refine ev_aload_n dL_tried_0 2 rfl rfl ?_
  refine ev_iconst dL_tried_1 (mi_c rfl) ?_
  refine ev_aload_n dL_tried_2 0 rfl rfl ?_
  refine ev_iload_n dL_tried_3 1 rfl rfl ?_
  obtain ⟨_, g0, hD⟩ := bd hD
  obtain ⟨r1, g, hD⟩ := bd hD
  obtain ⟨v2 | e3, s4⟩ := r1
  · refine ew_callVv (as := [vi x1]) (a := x0) (rest := [vi 0, vr x2]) dL_tried_4 v_X8_tried w_1249 rfl (Nat.le_of_ble_eq_true rfl) rfl rfl g0 (Nat.le_of_ble_eq_true rfl) (Nat.le_of_ble_eq_true rfl) (ct_X8_tried g) ?_
    dsimp only at hD
    refine ev_i2l dL_tried_7 ?_
    obtain ⟨s5, g, hD⟩ := bd hD
    refine ew_last dL_tried_8 g ?_
    refine ev_goto (tgt := 15) dL_tried_9 (by decide) ?_
    refine ev_iconst dL_tried_15 (mi_c rfl) ?_
    cases hD
    exact ev_ret (some (vi _)) dL_tried_16 True.intro
  · dsimp only at hD
    by_cases c0 : e3 = 0
    · rw [if_pos c0] at hD
      subst c0
      refine ev_catV (as := [vi x1]) (a := x0) (rest := [vi 0, vr x2]) (E := 0) (i := 3) dL_tried_4 v_X8_tried w_1249 rfl (Nat.le_of_ble_eq_true rfl) rfl rfl (tgO_s g0) (Nat.le_of_ble_eq_true rfl) (Nat.le_of_ble_eq_true rfl) hnc [] (0, 9, 12, 23) [] rfl (fun z hz => nomatch hz) (by decide) (by decide) w_963 w_t978 (ct_X8_tried g) (Or.inl ⟨_, rfl, rfl, rfl⟩) dL_tried_12 (Nat.le_of_ble_eq_true rfl) rfl ?_
      refine ev_iconst dL_tried_13 (mi_c rfl) ?_
      cases hD
      exact ev_ret (some (vi _)) dL_tried_14 True.intro
    rw [if_neg c0] at hD
    cases hD
theorem ct_L_tried {G : mG} {x0 : Nat} {x1 : Int} {x2 : Nat} {σ : mS} {R : (Int × mS)} (hnc : ∀ q ∈ mNcs, va_Nc q.1 q.2 G.1) (hD : D_L_tried x0 x1 x2 σ = some R) : Ct G M_L_tried [vr x0, vi x1, vr x2] σ (.inl (some (vi R.1))) R.2 := ct_ofH rfl (by decide +kernel) rfl (Nat.le_of_ble_eq_true rfl) rfl (lk_L_tried hnc hD)
