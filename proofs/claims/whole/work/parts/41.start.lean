/-! the start: what stays, the store, the law's run out of the pure claim -/
theorem sw_G {s : State} {b : Nat} (hts : ∀ w ∈ lw_tbl, w.before #[Value.ref b] s = true) (hgv : (Jvm.Cond.and given_1 narrow_1).before #[Value.ref b] s = true) (hb : b < s.heap.size) : ∃ G : mG, G.1 = s ∧ G.2.1 = b ∧ mGF G ∧ mNg G s ∧ ∀ q ∈ mNcs, va_Nc q.1 q.2 s := by
  have hg : ∀ c ∈ sw_F, c.before #[Value.ref b] s = true := flat_of_before _ hgv
  have hA : ∀ q : Nat, q < s.heap.size → ¬ (fun q : Nat => s.heap.size ≤ q) q := fun q h => Nat.not_le.mpr h
  obtain ⟨dC, dI, h1⟩ := sw_cls hts
  obtain ⟨aC, h2⟩ := sw_arr hts
  obtain ⟨z, hz⟩ := Classical.axiomOfChoice (sw_str hg)
  have f1 : vx_Zq Bundle.tN "UNASSIGNED_STACK" Bundle.steD (fun q : Nat => s.heap.size ≤ q) s s.heap := vx_Zqof (hts _ (List.mem_of_getElem? (i := 745) (by decide +kernel))) (hts _ (List.mem_of_getElem? (i := 139) (by decide +kernel))) (hg _ (by decide +kernel)) hA
  have f2 : vx_Zq Bundle.tN "SUPPRESSED_SENTINEL" Bundle.listD (fun q : Nat => s.heap.size ≤ q) s s.heap := vx_Zqof (hts _ (List.mem_of_getElem? (i := 747) (by decide +kernel))) (hts _ (List.mem_of_getElem? (i := 139) (by decide +kernel))) (hg _ (by decide +kernel)) hA
  have f3 : va_Z "java/lang/String" "COMPACT_STRINGS" "Z" (.int 1) (fun q : Nat => s.heap.size ≤ q) s s.heap := va_Zof (args := #[Value.ref b]) (hts _ (List.mem_of_getElem? (i := 826) (by decide +kernel))) (hts _ (List.mem_of_getElem? (i := 143) (by decide +kernel))) (va_eqt (hg _ (by decide +kernel))) hA
  have f4 : va_Zq "jdk/internal/util/Preconditions" "SIOOBE_FORMATTER" "Ljava/util/function/BiFunction;" (fun q : Nat => s.heap.size ≤ q) s s.heap := va_Zqof (hts _ (List.mem_of_getElem? (i := 842) (by decide +kernel))) (hts _ (List.mem_of_getElem? (i := 145) (by decide +kernel))) (hg _ (by decide +kernel)) hA
  obtain ⟨fm, f5⟩ : ∃ fm : Nat, va_Z "jdk/internal/util/Preconditions" "SIOOBE_FORMATTER" "Ljava/util/function/BiFunction;" .null (fun q : Nat => s.heap.size ≤ q) s s.heap ∨ va_Z "jdk/internal/util/Preconditions" "SIOOBE_FORMATTER" "Ljava/util/function/BiFunction;" (.ref fm) (fun q : Nat => s.heap.size ≤ q) s s.heap := by
    rcases f4 with h | ⟨t, h⟩
    · exact ⟨0, Or.inl h⟩
    · exact ⟨t, Or.inr h⟩
  have eA : ∀ j, j < 12 → (fun r : Nat => if r < 14 then (z (r - 2)).1 else if r < 26 then (z (r - 14)).2 else fm) (2 + j) = (z j).1 := by
    intro j hj
    show (if 2 + j < 14 then (z (2 + j - 2)).1 else _) = _
    rw [if_pos (by omega), show 2 + j - 2 = j by omega]
  have eB : ∀ j, j < 12 → (fun r : Nat => if r < 14 then (z (r - 2)).1 else if r < 26 then (z (r - 14)).2 else fm) (14 + j) = (z j).2 := by
    intro j hj
    show (if 14 + j < 14 then _ else if 14 + j < 26 then (z (14 + j - 14)).2 else fm) = _
    rw [if_neg (by omega), if_pos (by omega), show 14 + j - 14 = j by omega]
  refine ⟨(s, b, dC, dI, aC, fun r : Nat => if r < 14 then (z (r - 2)).1 else if r < 26 then (z (r - 14)).2 else fm), rfl, rfl, ⟨h1, h2, hb, f1, f2⟩, ⟨sw_nk hts, ?_, ?_, f3, f5⟩, ?_⟩
  · intro own k text j hw hj
    have hj12 : j < 12 := (List.getElem?_eq_some_iff.mp hj).1
    have h9 := sw_7 _ hw
    simp only [sw_w, List.any_eq_true, List.mem_range, Bool.and_eq_true, beq_iff_eq, Bool.or_eq_true] at h9
    obtain ⟨i, hi, e1, h9⟩ := h9
    have e : i = j := sw_8 i hi j hj12 (e1.trans hj.symm)
    subst e
    rcases h9 with ⟨rfl, rfl⟩ | ⟨rfl, rfl⟩
    · refine vk_R.of (hts _ hw) ?_
      rw [show ((s, b, dC, dI, aC, fun r : Nat => if r < 14 then (z (r - 2)).1 else if r < 26 then (z (r - 14)).2 else fm) : mG).2.2.2.2.2 (2 + i) = (z i).1 from eA i hi]
      exact (hz i hi).1
    · refine vk_R.of (hts _ hw) ?_
      rw [show ((s, b, dC, dI, aC, fun r : Nat => if r < 14 then (z (r - 2)).1 else if r < 26 then (z (r - 14)).2 else fm) : mG).2.2.2.2.2 (2 + i) = (z i).1 from eA i hi]
      exact sw_eq (hg _ (sw_6 i hi)) (hz i hi).1
  · intro j hj
    rw [show ((s, b, dC, dI, aC, fun r : Nat => if r < 14 then (z (r - 2)).1 else if r < 26 then (z (r - 14)).2 else fm) : mG).2.2.2.2.2 (2 + j) = (z j).1 from eA j hj, show ((s, b, dC, dI, aC, fun r : Nat => if r < 14 then (z (r - 2)).1 else if r < 26 then (z (r - 14)).2 else fm) : mG).2.2.2.2.2 (14 + j) = (z j).2 from eB j hj]
    exact (hz j hj).2
  · intro q hq
    simp only [mNcs, List.mem_cons, List.not_mem_nil, or_false] at hq
    rcases hq with rfl | rfl | rfl
    · exact va_Nc.of (hg _ (by decide +kernel))
    · exact va_Nc.of (hg _ (by decide +kernel))
    · exact va_Nc.of (hg _ (by decide +kernel))
theorem sw_rz {G : mG} {L : Nat} {xs : Nat → Int32} (hX : va_X G.2.1 L xs G.1 G.1.heap) : mRZ G (lwS0 L xs) G.1.heap := by
  obtain ⟨scr, q1, q2, q3, q4, q5⟩ := hX
  refine ⟨⟨Nat.le_refl _, fun _ => rfl⟩, fun _ _ => rfl, ?_, ?_, ?_, ?_⟩
  · intro r k
    show mIn (if r = 1 then (xs k).toInt else 0)
    split
    · exact oi_in _
    · exact mIn0
  · intro r t h32 h
    have e : mH (lwS0 L xs) r = (0, 0) := if_neg (by omega)
    rw [e] at h
    cases h
  · intro r _ h1
    show (if r = 1 then (51, L) else (0, 0) : Nat × Nat).1 = 0
    rw [if_neg h1]
  · refine ⟨rfl, scr, q1, q2, q3, q4, fun i hi => ?_⟩
    rw [q5 i hi]
    show _ = some (Value.int (Int32.ofInt (if 1 = 1 then (xs i).toInt else 0)))
    rw [if_pos rfl, oi_back]
theorem whole_start_of {p : Program} {e : Env} {s : State} {m : MethodId} {below : List Frame} {meth : Method} {c : Code} (l : Launch) (hflags : l.flags = flags0) {b L : Nat} {xs : Nat → Int32} (hex : c.exceptionTable.toList = []) (C0 : lw_At p s m meth c b L xs)
    {τ : mS} (hD : D_L_law 1 (lwS0 L xs) = some (1, τ)) (hc : mC τ ≤ 601024) (hz : mZ τ ≤ 7293034) : W p l e room_1 s m #[Value.ref b] below meth c s.heap [] 0 0 (lw_Z below #[Value.ref b] s) (entryFrame m ([Value.ref b] : List Value).toArray 7) := by
  obtain ⟨hx, hb, hr, hml, hown, hts, hX, hbl, hlocks, hgv⟩ := id C0
  obtain ⟨G, e1, e2, hGF, hNg, hNc⟩ := sw_G hts hgv hbl
  subst e1
  subst e2
  have h9 := lk_L_law (G := G) hNc hD
  have hst : l.stackTraces = false := by
    unfold Launch.stackTraces
    rw [hflags]
    decide +kernel
  have hF : mFr G M_L_law p l room_1 G.1 m #[Value.ref G.2.1] meth c := ⟨hx, hb, hml, hown, fun w hw => hts w (List.mem_filter.mp hw).1, hlocks, hr, fun h => absurd h (by decide +kernel), hex, Vm.Alike.refl _, Nat.le_refl _, Nat.le_refl _, hst, Nat.le_refl _, fun _ _ => rfl, hNg, hGF⟩
  rw [lg_entry_eq]
  have hls := lv_entry (([vr 1] : List mV).map (tv G)) (n := 7) (by rw [mSl_tv]; decide)
  rw [← mLo_tv] at hls
  refine h9.2 0 0 p l e room_1 G.1 m #[Value.ref G.2.1] below meth c G.1.heap [] _ _ hF ⟨sw_rz hX, Nat.le_refl _, fun x hx => (by cases hx), fun v hv => (by cases hv), fun q hq => ?_, hls, Nat.le_refl _, Nat.le_refl _, by show mC τ ≤ 0 + 601024; omega, by show mZ τ ≤ 0 + 7293034; omega⟩ ?_
  · rw [List.mem_singleton.mp hq]
    trivial
  · intro H locs ls pc _ _ hl _ _ hd
    exact W.forget (locs := []) hl (W.widen (k := 601024) (n := 7293034) (by show mC τ - 0 ≤ _; omega) (by show mZ τ - 0 ≤ _; omega) (lw_ret hx hb hr hlocks hd))
