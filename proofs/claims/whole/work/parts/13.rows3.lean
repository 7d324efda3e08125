section H3
variable {p : Program} {l : Launch} {e : Env} {R : Room} {s : State} {m : MethodId} {args : Array Value} {below : List Frame} {meth : Method} {c : Code} {H : Heap} {locs : List Loc} {cells slots : Nat}
variable {cc : ByteArray} {maxL : Nat} {y : MethodName} {Ts : List Cond} {pc : Nat} {ls : Array Slot} {D : va_G} {cl : List vw_C} {E : hp_N} {sz mc ms : Nat} {tys : List (ClassId × FieldType)} {g g0 : hp_M}
theorem hp_nret {ty : FieldType} (cx : hp_C p c cc meth (some ty) maxL s m args y Ts) (hw : hp_w D cl tys E (hp_A g0 sz) s H locs g) {v : Int32} {post : Int32 → hp_M → Prop} (hp : post v g) (hnz : narrow ty (.int v) = .int v) (hdg : decode cc pc = .ok (.ireturn, 1)) (h1 : cells ≤ mc := by first | exact Nat.le_refl _ | decide | omega) (h2 : slots ≤ ms := by first | exact Nat.le_refl _ | decide | omega) : W p l e R s m args below meth c H locs cells slots (MQ below (hp_Qi D cl tys sz g0 post) args s mc ms (hp_A g0 sz)) (F0 m pc ls [.int v]) := by
  obtain ⟨hx, hb, hr, hml, hown, hts, hlk, hnm⟩ := cx
  obtain ⟨hI, hS, hK, hA, hG, hE⟩ := hw
  refine W.widen h1 h2 ?_
  exact W.zret hx hb hr hnz (fun t ht hW => ⟨⟨v, g, rfl, hp, by rw [ht]; exact hI, va_K.moved hW.alike hK⟩, hS.F ht⟩) hS.2.2 hdg hlk
end H3
section HK
variable {p : Program} {l : Launch} {e : Env} {R : Room} {s : State} {m : MethodId} {args : Array Value} {below : List Frame} {meth : Method} {c : Code} {H : Heap} {locs : List Loc} {cells slots : Nat} {Q : State → Prop}
variable {cc : ByteArray} {ret : Option FieldType} {maxL : Nat} {y : MethodName} {Ts : List Cond} {pc : Nat} {ls : Array Slot} {rest st0 : List Value} {D : va_G} {cl : List vw_C} {E : hp_N} {A : Nat → Prop} {tys : List (ClassId × FieldType)} {g : hp_M}
variable {y1 : MethodName} {bytes : ByteArray} {maxL1 mc ms n index b : Nat} {ret1 : Option FieldType} {ws : List Cond} {rm : Room} {As : List Value} {C : String}
/-- a call whose receiver is a constant object -/
theorem hp_callKi (cx : hp_C p c cc meth ret maxL s m args y Ts) (hw : hp_w D cl tys E A s H locs g) {post : Int32 → hp_M → Prop} (hM : Met l y1 ws rm (hp_Pc D cl tys E H.size g (.ref b :: As)) (hp_Qi D cl tys H.size g post) mc ms (hp_A g H.size)) (cw : CallW R s args y.cls C index y1 bytes maxL1 ret1 ws rm mc ms n) (hO : va_O C b A s s.heap) (hn : As.length = n) (hsz : ls.size = maxL) (hst : st0 = As.reverse ++ .ref b :: rest) (hW : (rest.map fun v => v.category).sum ≤ 8) (hdg : decode cc pc = .ok (.invokevirtual index, 3)) (hf : cells + mc ≤ R.cells ∧ slots + ms ≤ R.slots)
    (kk : ∀ (r : Int32) (u : hp_M) (H1 : Heap) (locs1 : List Loc), post r u → hp_w D cl tys E A s H1 locs1 u → W p l e R s m args below meth c H1 locs1 (cells + mc) (slots + ms) Q (F0 m (pc + 3) ls (.int r :: rest))) : W p l e R s m args below meth c H locs cells slots Q (F0 m pc ls st0) := by
  obtain ⟨hx, hb, hr, hml, hown, hts, hlk, hnm⟩ := cx
  have hrc : ∃ cell : Cell, H[b]? = some cell ∧ cell.vm.isStatics = false ∧ s.vm.findClass C = some cell.cls := by
    obtain ⟨cell, q1, q2, q3, q4⟩ := hO.kept hw.2.1.2.1
    exact ⟨cell, q1, q2, q3⟩
  exact va_calli (va_runV (As := As) (rest := rest) ⟨hx, hb, hml, hown, hts⟩ hM cw ⟨hp_blind, hrc, hp_pre hw _⟩ rfl hn hsz hst (by simpa [F0] using hW) hdg hf) hw.2.1 (fun q _ h => hp_sub hw q h) (hp_sub hw) (fun r u t H1 locs1 ht hvm hp hB hz hk hS => kk r u H1 locs1 hp (hp_behind hw ht hvm hB hS))
end HK
/-- a constant String: its cell, its bytes -/
def st_str (E : hp_N) (q v n : Nat) (b : Nat → Int32) : Prop := ∀ A U H, E A U H → va_O "java/lang/String" q A U H ∧ va_OF "java/lang/String" "coder" "B" (.int 0) q A U H ∧ va_OF "java/lang/String" "value" "[B" (.ref v) q A U H ∧ va_T .byte v n (fun j => .int (b j)) A U H
def st_cs (E : hp_N) : Prop := ∀ A U H, E A U H → va_Z "java/lang/String" "COMPACT_STRINGS" "Z" (.int 1) A U H
def st_fm (E : hp_N) : Prop := ∀ A U H, E A U H → va_Zq "jdk/internal/util/Preconditions" "SIOOBE_FORMATTER" "Ljava/util/function/BiFunction;" A U H
