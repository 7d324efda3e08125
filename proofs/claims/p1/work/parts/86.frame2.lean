/-! a constructor on a part of the picture; a boolean made by ?: ; the ends of the law -/
section HF2
variable {p : Program} {l : Launch} {e : Env} {R : Room} {s : State} {m : MethodId} {args : Array Value} {below : List Frame} {meth : Method} {c : Code} {H : Heap} {locs : List Loc} {cells slots : Nat} {Q : State → Prop}
variable {cc : ByteArray} {ret : Option FieldType} {maxL : Nat} {y : MethodName} {Ts : List Cond} {pc : Nat} {ls : Array Slot} {rest st0 : List Value} {D : va_G} {cl : List vw_C} {E : hp_N} {A : Nat → Prop} {tys : List (ClassId × FieldType)} {g g1 : hp_M}
variable {y1 : MethodName} {bytes : ByteArray} {maxL1 mc ms n index b : Nat} {ws : List Cond} {rm : Room} {As : List Value}
theorem hp_callFIv (cx : hp_C p c cc meth ret maxL s m args y Ts) (hw : hp_w D cl tys E A s H locs g) (hsub : ∀ a e, g1 a = some e → g a = some e) {post : hp_M → Prop} (hM : Met l y1 ws rm (hp_Pc D cl tys E H.size g1 (.ref b :: As)) (hp_Qv D cl tys H.size g1 post) mc ms (hp_A g1 H.size)) (cw : CallB R s args y.cls index y1 bytes maxL1 none ws rm mc ms n ∧ y1.name = "<init>" ∧ (Cond.instanceMethod y1).before args s = true) (hn : As.length = n) (hsz : ls.size = maxL) (hst : st0 = As.reverse ++ .ref b :: rest) (hW : (rest.map fun v => v.category).sum ≤ 8) (hdg : decode cc pc = .ok (.invokespecial index, 3)) (hf : cells + mc ≤ R.cells ∧ slots + ms ≤ R.slots)
    (kk : ∀ (u g2 : hp_M) (H1 : Heap) (locs1 : List Loc), post u → (∀ a e, u a = some e → g2 a = some e) → (∀ a e, g a = some e → g1 a = none → g2 a = some e) → (∀ a e, u a = some e → g1 a = none → g a = none) → hp_w D cl tys E A s H1 locs1 g2 → W p l e R s m args below meth c H1 locs1 (cells + mc) (slots + ms) Q (F0 m (pc + 3) ls rest)) : W p l e R s m args below meth c H locs cells slots Q (F0 m pc ls st0) := by
  obtain ⟨hx, hb, hr, hml, hown, hts, hlk, hnm⟩ := cx
  exact va_callv (va_runI (As := As) (rest := rest) ⟨hx, hb, hml, hown, hts⟩ hM cw ⟨hp_blind, hp_preF hw hsub _⟩ rfl hn hsz hst (by simpa [F0] using hW) hdg hf) hw.2.1 (fun q _ h => hp_subF hw hsub q h) (hp_subF hw hsub) (fun u t H1 locs1 ht hvm hp hB hz hk hS => by
    have hu : hp_is D cl (hp_A g1 H.size) u H1 := by rw [← ht]; exact hB.1
    obtain ⟨a1, a2⟩ := hp_overlay hw hsub hu hk hS
    refine kk u _ H1 locs1 hp (fun a e h => hp_ov_u h) a2 (fun a e h h1 => ?_) a1
    rcases hp_inA hu (a := a) (by rw [h]; exact fun z => by cases z) with q | q
    · exact absurd h1 q
    · cases hg : g a with
      | none => rfl
      | some x => exact absurd (hp_lt hw.1 (a := a) (by rw [hg]; exact fun z => by cases z)) (Nat.not_lt.mpr q))
/-- x != 0 as a number: 1 or 0, some number of x alone -/
def lb (x : Int32) : Int32 := if x = 0 then 0 else 1
theorem lw_bool (cx : hp_C p c cc meth ret maxL s m args y Ts) {x : Int32} {off off2 : Int} {tz tj : Nat} (d1 : decode cc pc = .ok (.ifCond .eq off, 3)) (h1 : (pc : Int) + off = (tz : Int)) (d2 : decode cc (pc + 3) = .ok (.iconst 1, 1)) (d3 : decode cc (pc + 4) = .ok (.goto off2, 3)) (h3 : ((pc + 4 : Nat) : Int) + off2 = (tj : Int)) (d4 : decode cc tz = .ok (.iconst 0, 1)) (h4 : tz + 1 = tj)
    (kk : W p l e R s m args below meth c H locs cells slots Q (F0 m tj ls (.int (lb x) :: rest))) : W p l e R s m args below meth c H locs cells slots Q (F0 m pc ls (.int x :: rest)) := by
  refine lv_if_eq (tgt := tz) cx.1 cx.2.1 d1 h1 (fun h => ?_) (fun h => ?_)
  · refine lv_iconst (v := 0) cx.1 cx.2.1 d4 (by decide) ?_
    rw [h4]
    rw [show lb x = 0 from if_pos h] at kk
    exact kk
  · refine lv_iconst (v := 1) cx.1 cx.2.1 d2 (by decide) ?_
    refine lv_goto (tgt := tj) cx.1 cx.2.1 d3 h3 ?_
    rw [show lb x = 1 from if_neg h] at kk
    exact kk
end HF2
theorem i64_neg {x : Int32} : x.toInt64 < 0 ↔ x < 0 := by
  rw [Int64.lt_iff_toInt_lt, Int32.lt_iff_toInt_lt, Int32.toInt_toInt64]
  exact Iff.rfl
theorem i64_lt {x : Int32} {k : Int64} {k32 : Int32} (hk : k.toInt = k32.toInt) : k < x.toInt64 ↔ k32 < x := by
  rw [Int64.lt_iff_toInt_lt, Int32.lt_iff_toInt_lt, Int32.toInt_toInt64, hk]
theorem lq_count {x r1 r2 : Int32} (h1 : r1 = if ¬ x < 0 ∧ x ≤ 9 then 0 else -1) (h2 : (x = 9 ∧ r2 = 0) ∨ (¬ x = 9 ∧ ((¬ (¬ x.toInt64 < 0 ∧ ¬ (8 : Int64) < x.toInt64) ∧ r2 = -1) ∨ ((¬ x.toInt64 < 0 ∧ ¬ (8 : Int64) < x.toInt64) ∧ r2 = 0)))) : r1 = r2 := by
  rw [i64_neg, i64_lt (k := 8) (k32 := 8) (by decide)] at h2
  have e9 : x = 9 ↔ x.toInt = 9 := ⟨fun h => by rw [h]; decide, fun h => Int32.toInt_inj.mp (h.trans (by decide))⟩
  have e0 : x < 0 ↔ x.toInt < 0 := by rw [Int32.lt_iff_toInt_lt, Int32.toInt_zero]
  have e8 : (8 : Int32) < x ↔ 8 < x.toInt := by rw [Int32.lt_iff_toInt_lt]; exact Iff.rfl
  have el : x ≤ 9 ↔ x.toInt ≤ 9 := by rw [Int32.le_iff_toInt_le]; exact Iff.rfl
  rw [e9, e0, e8] at h2
  rcases h2 with ⟨a, rfl⟩ | ⟨a, ⟨b, rfl⟩ | ⟨b, rfl⟩⟩
  · rw [h1, if_pos ⟨fun q => by have := e0.mp q; omega, el.mpr (by omega)⟩]
  · rw [h1, if_neg (fun q => b ⟨fun z => q.1 (e0.mpr z), fun z => by have := el.mp q.2; omega⟩)]
  · rw [h1, if_pos ⟨fun q => b.1 (e0.mp q), el.mpr (by omega)⟩]
theorem lq_end {x r1 r2 : Int32} (h1 : r1 = if x = 0 then 1 else 0) (h2 : (¬ (¬ x.toInt64 < 0 ∧ ¬ ((0 : Int32).toInt64) < x.toInt64) ∧ r2 = 0) ∨ ((¬ x.toInt64 < 0 ∧ ¬ ((0 : Int32).toInt64) < x.toInt64) ∧ r2 = 1)) : r1 = r2 := by
  rw [i64_neg, i64_lt (k := (0 : Int32).toInt64) (k32 := 0) (by decide)] at h2
  have e0 : x < 0 ↔ x.toInt < 0 := by rw [Int32.lt_iff_toInt_lt, Int32.toInt_zero]
  have e1 : (0 : Int32) < x ↔ 0 < x.toInt := by rw [Int32.lt_iff_toInt_lt, Int32.toInt_zero]
  have ez : x = 0 ↔ x.toInt = 0 := ⟨fun h => by rw [h]; decide, fun h => Int32.toInt_inj.mp (h.trans (by decide))⟩
  rw [e0, e1] at h2
  rcases h2 with ⟨b, rfl⟩ | ⟨b, rfl⟩
  · rw [h1, if_neg (fun q => b ⟨by have := ez.mp q; omega, by have := ez.mp q; omega⟩)]
  · rw [h1, if_pos (ez.mpr (by omega))]
