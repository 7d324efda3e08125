/-- the bytes of the keywords' text -/
def kwB : List Int32 := [103, 114, 97, 110, 116, 32, 109, 111, 100, 117, 108, 101, 32, 102, 105, 101, 108, 100, 32, 108, 101, 116, 32, 105, 110, 32, 105, 102, 32, 116, 104, 101, 110, 32, 101, 108, 115, 101, 32, 116, 114, 121, 32, 99, 97, 116, 99, 104, 32, 112, 114, 105, 118, 32, 117, 110, 100, 101, 114, 32, 102, 117, 110, 32, 110, 101, 119, 32, 110, 111, 110, 101, 32, 115, 101, 108, 102, 32, 99, 116, 120, 32, 99, 104, 101, 99, 107, 32, 97, 98, 108, 101, 32, 111, 117, 116, 32, 115, 112, 97, 119, 110, 32, 119, 97, 105, 116, 32, 102, 97, 105, 108, 32]
theorem kwB_ok : ∀ i, i < 113 → ¬ (kwS (fun j => kwB.getD j 0) i).1 < 0 ∧ (kwS (fun j => kwB.getD j 0) i).1 < 23 := by decide +kernel
def kwT : String := "grant module field let in if then else try catch priv under fun new none self ctx check able out spawn wait fail "
/-- what is true outside the picture: constant Strings, statics, array classes, what a throw leans on -/
def ev_E (adK adV : Nat → Nat) (sr1 sr2 : Nat) : hp_N := fun A U H => (va_AO "WardenHouse$Right" U ∧ va_AO "WardenHouse$Strand" U ∧ va_AO "WardenHouse$Unit" U) ∧ (va_Z "java/lang/String" "COMPACT_STRINGS" "Z" (.int 1) A U H ∧ va_Zq "jdk/internal/util/Preconditions" "SIOOBE_FORMATTER" "Ljava/util/function/BiFunction;" A U H ∧ vx_Zq Bundle.tN "UNASSIGNED_STACK" Bundle.steD A U H ∧ vx_Zq Bundle.tN "SUPPRESSED_SENTINEL" Bundle.listD A U H) ∧ ((Cond.castable "java/lang/IllegalArgumentException" "java/lang/IllegalArgumentException").before #[] U = true ∧ (Cond.castable "java/lang/IllegalStateException" "java/lang/IllegalStateException").before #[] U = true ∧ ∀ w ∈ thD, w.before #[] U = true) ∧ vk_S 1 [113] [kwB] adK adV A U H ∧ vk_R "WardenHouse$Words" 31 "grant module field let in if then else try catch priv under fun new none self ctx check able out spawn wait fail " (adK 0) U ∧ vk_R "WardenHouse$Reader" 87 "the text has a fault" sr1 U ∧ vk_R "WardenHouse" 208 "there is no program" sr2 U
theorem ev_cast {C T : String} {u U : State} (hvm : u.vm.Alike U.vm) (h : (Cond.castable C T).before #[] u = true) : (Cond.castable C T).before #[] U = true := by
  have h1 : (Cond.castable C T).before #[] (u.setVm U.vm) = true := by rw [Cond.castable_setVm hvm]; exact h
  have h2 := Cond.onTables_vm (A := #[]) (A' := #[]) (U := u) (U' := U) U.vm (.castable C T) rfl
  have h3 : U.setVm U.vm = U := rfl
  rw [h3] at h2
  rw [← h2]; exact h1
theorem ev_decl {x : MethodName} {u U : State} (hvm : u.vm.Alike U.vm) (h : (Cond.declares x).before #[] u = true) : (Cond.declares x).before #[] U = true := by
  have h1 : (Cond.declares x).before #[] (u.setVm U.vm) = true := by rw [Cond.declares_setVm hvm]; exact h
  have h2 := Cond.onTables_vm (A := #[]) (A' := #[]) (U := u) (U' := U) U.vm (.declares x) rfl
  have h3 : U.setVm U.vm = U := rfl
  rw [h3] at h2
  rw [← h2]; exact h1
theorem ev_thD {u U : State} (hvm : u.vm.Alike U.vm) (h : ∀ w ∈ thD, w.before #[] u = true) : ∀ w ∈ thD, w.before #[] U = true := by
  intro w hw
  have h1 := h w hw
  rcases List.mem_cons.mp hw with rfl | hw
  · exact ev_decl hvm h1
  · rcases List.mem_cons.mp hw with rfl | hw
    · exact ev_decl hvm h1
    · rcases List.mem_cons.mp hw with rfl | hw
      · exact ev_decl hvm h1
      · exact nomatch hw
theorem ev_good (adK adV : Nat → Nat) (sr1 sr2 : Nat) : hp_good (ev_E adK adV sr1 sr2) := by
  have alike : ∀ (A : Nat → Prop) (u U : State) (H : Heap), u.vm.Alike U.vm → (vk_R "WardenHouse$Words" 31 kwT (adK 0) u → vk_R "WardenHouse$Words" 31 kwT (adK 0) U) → (vk_R "WardenHouse$Reader" 87 "the text has a fault" sr1 u → vk_R "WardenHouse$Reader" 87 "the text has a fault" sr1 U) → (vk_R "WardenHouse" 208 "there is no program" sr2 u → vk_R "WardenHouse" 208 "there is no program" sr2 U) → ev_E adK adV sr1 sr2 A u H → ev_E adK adV sr1 sr2 A U H := by
    intro A u U H hvm k1 k2 k3 h
    obtain ⟨⟨a1, a2, a3⟩, ⟨b1, b2, b3, b4⟩, ⟨c1, c2, c3⟩, d, e1, e2, e3⟩ := h
    exact ⟨⟨a1.moved hvm, a2.moved hvm, a3.moved hvm⟩, ⟨b1.moved hvm, b2.moved hvm, b3.moved hvm, b4.moved hvm⟩, ⟨ev_cast hvm c1, ev_cast hvm c2, ev_thD hvm c3⟩, d.moved hvm, k1 e1, k2 e2, k3 e3⟩
  refine ⟨fun A B U H hAB h => ?_, fun A u U H hW h => alike A u U H hW.alike (fun k => k.warm hW) (fun k => k.warm hW) (fun k => k.warm hW) h, fun A u U H hv h => alike A u U H (by rw [hv]; exact Vm.Alike.refl _) (fun k => k.same hv) (fun k => k.same hv) (fun k => k.same hv) h, fun A U H H1 hq h => ?_⟩
  · obtain ⟨a, ⟨b1, b2, b3, b4⟩, c, d, e⟩ := h
    exact ⟨a, ⟨b1.narrow hAB, b2.narrow hAB, b3.narrow hAB, b4.narrow hAB⟩, c, d.narrow hAB, e⟩
  · obtain ⟨a, ⟨b1, b2, b3, b4⟩, c, d, e⟩ := h
    exact ⟨a, ⟨b1.kept hq, b2.kept hq, b3.kept hq, b4.kept hq⟩, c, d.kept hq, e⟩
section EV
variable {adK adV : Nat → Nat} {sr1 sr2 : Nat}
theorem ev_cs : st_cs (ev_E adK adV sr1 sr2) := fun _ _ _ h => h.2.1.1
theorem ev_fm : st_fm (ev_E adK adV sr1 sr2) := fun _ _ _ h => h.2.1.2.1
theorem ev_str : st_str (ev_E adK adV sr1 sr2) (adK 0) (adV 0) 113 (fun j => kwB.getD j 0) := fun _ _ _ h => h.2.2.2.1.1 0 (by decide)
theorem ev_thA : st_thr (ev_E adK adV sr1 sr2) "java/lang/IllegalArgumentException" := fun _ _ _ h => ⟨h.2.2.1.1, h.2.2.1.2.2, h.2.1.2.2.1, h.2.1.2.2.2⟩
theorem ev_thS : st_thr (ev_E adK adV sr1 sr2) "java/lang/IllegalStateException" := fun _ _ _ h => ⟨h.2.2.1.2.1, h.2.2.1.2.2, h.2.1.2.2.1, h.2.1.2.2.2⟩
end EV
