theorem hp_nd {L : List Nat} (h : ∀ (i j a : Nat), L[i]? = some a → L[j]? = some a → i = j) : L.Nodup := by
  rw [List.nodup_iff_pairwise_ne, List.pairwise_iff_getElem]
  intro i j hi hj hij he
  exact absurd (h i j L[i] (List.getElem?_eq_getElem hi) (by rw [he]; exact List.getElem?_eq_getElem hj)) (by omega)
theorem hp_nd2 {L : List Nat} (h : L.Nodup) {i j a : Nat} (hi : L[i]? = some a) (hj : L[j]? = some a) : i = j := by
  rw [List.nodup_iff_pairwise_ne, List.pairwise_iff_getElem] at h
  obtain ⟨hi1, hi2⟩ := List.getElem?_eq_some_iff.mp hi
  obtain ⟨hj1, hj2⟩ := List.getElem?_eq_some_iff.mp hj
  rcases Nat.lt_trichotomy i j with q | q | q
  · exact absurd (hi2.trans hj2.symm) (h i j hi1 hj1 q)
  · exact q
  · exact absurd (hj2.trans hi2.symm) (h j i hj1 hi1 q)
/-- a picture of fewer cells -/
theorem hp_less {D : va_G} {cl : List vw_C} {A : Nat → Prop} {g g1 : hp_M} {H : Heap} (h : hp_is D cl A g H) (hs : ∀ a e, g1 a = some e → g a = some e) : hp_is D cl A g1 H := by
  obtain ⟨L, f, h1, hP, hD⟩ := h
  have hN : L.Nodup := hp_nd (fun i j a hi hj => hD.1 i j (a, f a) (a, f a) (by unfold va_pl; rw [List.getElem?_map, hi]; rfl) (by unfold va_pl; rw [List.getElem?_map, hj]; rfl) rfl)
  have hN1 : (L.filter (fun a => (g1 a).isSome)).Nodup := List.Pairwise.filter _ hN
  have back : ∀ (k : Nat) (q : Nat × va_E), (va_pl (L.filter (fun a => (g1 a).isSome)) f)[k]? = some q → ∃ j : Nat, (va_pl L f)[j]? = some q ∧ q.1 ∈ L.filter (fun a => (g1 a).isSome) ∧ (L.filter (fun a => (g1 a).isSome))[k]? = some q.1 := by
    intro k q hk
    unfold va_pl at hk ⊢
    rw [List.getElem?_map] at hk
    cases hl : (L.filter (fun a => (g1 a).isSome))[k]? with
    | none => rw [hl] at hk; cases hk
    | some a =>
      rw [hl] at hk
      obtain rfl := Option.some.inj hk
      have hm := List.mem_of_getElem? hl
      obtain ⟨j, hj⟩ := List.getElem?_of_mem (List.mem_filter.mp hm).1
      exact ⟨j, by rw [List.getElem?_map, hj]; rfl, hm, by first | exact hl | rfl⟩
  refine ⟨L.filter (fun a => (g1 a).isSome), f, fun a => ?_, fun k q hk => ?_, fun i j p q hi hj he => ?_, fun k q hk => ?_⟩
  · cases hg : g1 a with
    | none => rw [if_neg (fun hm => by have := (List.mem_filter.mp hm).2; rw [hg] at this; cases this)]
    | some e =>
      obtain ⟨hm, he⟩ := hp_in h1 (hs a e hg)
      rw [if_pos (List.mem_filter.mpr ⟨hm, by rw [hg]; rfl⟩), he]
  · obtain ⟨j, hj, -⟩ := back k q hk
    exact hP j q hj
  · obtain ⟨-, -, -, h3⟩ := back i p hi
    obtain ⟨-, -, -, h4⟩ := back j q hj
    rw [← he] at h4
    exact hp_nd2 hN1 h3 h4
  · obtain ⟨j, hj, -⟩ := back k q hk
    exact hD.2 j q hj
theorem hp_lessw {D : va_G} {cl : List vw_C} {tys : List (ClassId × FieldType)} {E : hp_N} {A : Nat → Prop} {s : State} {H : Heap} {locs : List Loc} {g g1 : hp_M} (hw : hp_w D cl tys E A s H locs g) (hs : ∀ a e, g1 a = some e → g a = some e) : hp_w D cl tys E A s H locs g1 := ⟨hp_less hw.1 hs, hw.2⟩
section CDS
variable {p : Program} {l : Launch} {e : Env} {R : Room} {s : State} {m : MethodId} {args : Array Value} {below : List Frame} {meth : Method} {c : Code} {H : Heap} {locs : List Loc} {cells slots : Nat} {Q : State → Prop}
variable {cc : ByteArray} {ret : Option FieldType} {maxL : Nat} {y : MethodName} {Ts : List Cond} {pc : Nat} {ls : Array Slot} {rest : List Value} {D : va_G} {cl : List vw_C} {tys : List (ClassId × FieldType)} {E : hp_N} {A : Nat → Prop} {g : hp_M}
theorem hp_max (cx : hp_C p c cc meth ret maxL s m args y Ts) (hw : hp_w D cl tys E A s H locs g) {index : Nat} (h1 : (Cond.methodLink y.cls index Lib.Math.max.name).before args s = true) (h2 : (Cond.static Lib.Math.max.name).before args s = true) (h3 : (Cond.initialized "java/lang/Math").before args s = true) (h4 : (Cond.code Lib.Math.max.name Lib.Math.max.code 2 (some .int)).before args s = true) (hsz : ls.size = maxL) {a b : Int32} (hdg : decode cc pc = .ok (.invokestatic index, 3)) (hR : 1 ≤ R.frames ∧ (rest.map fun v => v.category).sum + 13 ≤ R.locals ∧ cells ≤ R.cells ∧ slots ≤ R.slots) (kk : W p l e R s m args below meth c H locs cells slots Q (F0 m (pc + 3) ls (.int (if a < b then b else a) :: rest))) : W p l e R s m args below meth c H locs cells slots Q (F0 m pc ls (.int b :: .int a :: rest)) :=
  va_mmax cx.1 cx.2.1 (by rw [cx.2.2.2.1, hsz]) cx.2.2.2.2.1 h1 h2 h3 h4 hR.1 hR.2.1 hR.2.2.1 hR.2.2.2 hdg kk
theorem hp_copyl (cx : hp_C p c cc meth ret maxL s m args y Ts) (hw : hp_w D cl tys E A s H locs g) {index : Nat} (h1 : (Cond.methodLink y.cls index arraycopyName).before args s = true) (h2 : (Cond.native arraycopyName).before args s = true) (h3 : (Cond.static arraycopyName).before args s = true) (h4 : (Cond.initialized "java/lang/System").before args s = true) (hsz : ls.size = maxL) (t0 t1 : Nat) {a0 a1 : Nat} {c0 c1 : ClassId} {n0 n1 : Nat} {f f1 : Nat → Int64} {ty : FieldType} (ha0 : g a0 = some (.inl (c0, n0, .inr (.inl f)))) (ha1 : g a1 = some (.inl (c1, n1, .inr (.inl f1)))) (ht0 : tys[t0]? = some (c0, ty)) (ht1 : tys[t1]? = some (c1, ty)) (hprim : refKind ty = false) {sp dp n : Int32} (k1 : ¬ sp < 0) (k2 : ¬ dp < 0) (k3 : ¬ n < 0) (k4 : sp.toNatClampNeg + n.toNatClampNeg ≤ n0) (k5 : dp.toNatClampNeg + n.toNatClampNeg ≤ n1) (hfit : ∀ i, i < n.toNatClampNeg → fits ty (.long (f (sp.toNatClampNeg + i))) = true) (hframes : 1 ≤ R.frames) (hlocals : (rest.map fun v => v.category).sum + (nativeFrameWords "java/lang/System" "arraycopy" 5 + 11) ≤ R.locals) (hdg : decode cc pc = .ok (.invokestatic index, 3))
    (kk : ∀ (g1 : hp_M) (H1 : Heap) (locs1 : List Loc), g1 = hp_up g a1 (.inl (c1, n1, .inr (.inl (va_cpy f f1 sp.toNatClampNeg dp.toNatClampNeg n.toNatClampNeg)))) → hp_w D cl tys E A s H1 locs1 g1 → W p l e R s m args below meth c H1 locs1 cells slots Q (F0 m (pc + 3) ls rest)) : W p l e R s m args below meth c H locs cells slots Q (F0 m pc ls (.int n :: .int dp :: .ref a1 :: .int sp :: .ref a0 :: rest)) := by
  obtain ⟨hx, hb, hr, hml, hown, hts, hlk, hnm⟩ := cx
  obtain ⟨⟨L, f0, q1, hP, hD⟩, hS, hK, hA, hG, hE⟩ := hw
  obtain ⟨j0, hj0⟩ := hp_at q1 ha0
  obtain ⟨j1, hj1⟩ := hp_at q1 ha1
  exact va_copyl hx hb (by rw [hml, hsz]) hown h1 h2 h3 h4 hK hP hD hS j0 j1 t0 t1 hj0 hj1 ht0 ht1 hprim k1 k2 k3 k4 k5 hfit hframes hlocals hdg (fun H1 locs1 hP1 hD1 hS1 => kk _ H1 locs1 rfl ⟨hp_set q1 hj1 hD hP1 hD1, hS1, hK, hA, hG, hE⟩)
end CDS
theorem cd_natI {n : Nat} {N : Int32} (h : (n : Int) < N.toInt) : (Int32.ofNat n).toInt = n ∧ ¬ N = Int32.ofNat n ∧ (Int32.ofNat n).toNatClampNeg = n := by
  have h1 : N.toInt < 2 ^ 31 := Int32.toInt_lt N
  have h2 : (Int32.ofNat n).toInt = n := Int32.toInt_ofNat_of_lt (by omega)
  refine ⟨h2, fun q => ?_, ?_⟩
  · rw [q] at h
    omega
  · show (Int32.ofNat n).toInt.toNat = n
    omega
set_option maxHeartbeats 4000000 in
theorem kj_copyOf (l : Launch) (D : va_G) (cA : Nat → ClassId) (E : hp_N) (sz : Nat) (g : hp_M) (a n : Nat) (f : Nat → Int64) (N : Int32) (ha : g a = some (.inl (cA 2, n, .inr (.inl f)))) (h0 : 0 ≤ N.toInt) (h1 : (n : Int) < N.toInt) (h2 : N.toInt ≤ 4000000) : Met l yJ7_copyOf_c38d5 (Cond.code yJ7_copyOf_c38d5 cJ7_copyOf_c38d5 3 (some (.array .long)) :: v_CLS) ({ frames := 2, cells := 1, slots := N.toNatClampNeg, locals := 60 }) (hp_Pc D vwCl (hp_Tl cA) E sz g [.ref a, .int N]) (hp_Qr D vwCl (hp_Tl cA) sz g (fun q u => g q = none ∧ u = hp_up g q (.inl (cA 2, N.toNatClampNeg, .inr (.inl (fun j => if j < n then f j else 0)))))) 1 N.toNatClampNeg (hp_A g sz) := by
  obtain ⟨i1, i2, i3⟩ := cd_natI h1
  have hN : N.toNatClampNeg = N.toInt.toNat := rfl
  have hneg : ¬ N < 0 := fun q => by rw [Int32.lt_iff_toInt_lt, Int32.toInt_zero] at q; omega
  refine hp_ofW (cc := cJ7_copyOf_c38d5) (maxL := 3) (ret := (some (.array .long))) (by decide) rfl (Nat.le_of_ble_eq_true rfl) ?_
  intro pp ee ss mm bb mt cd ls cx hsz hw hl
  have hl : lv_has ls 3 [(0, .ref a), (1, .int N)] := hl
  refine lv_iload_n cx.1 cx.2.1 dJ7_copyOf_c38d5_0 rfl (lv_at hl 1 rfl) ?_
  refine lv_aload_n cx.1 cx.2.1 dJ7_copyOf_c38d5_1 rfl (lv_at hl 0 rfl) ?_
  refine hp_alen (v := Int32.ofNat n) cx hw 2 ha rfl rfl dJ7_copyOf_c38d5_2 ?_
  refine lv_icmp_ne (tgt := 14) cx.1 cx.2.1 dJ7_copyOf_c38d5_3 (by decide) (fun c3 => ?_) (fun c3 => ?_)
  rotate_left
  · exact absurd c3 i2
  refine lv_iload_n cx.1 cx.2.1 dJ7_copyOf_c38d5_14 rfl (lv_at hl 1 rfl) ?_
  refine hp_newa (atype := .long) (N' := N.toNatClampNeg) (a0 := (N.toNatClampNeg, .inr (.inl (fun _ => 0)))) cx hw (List.mem_cons_of_mem _ cm_1240) 2 (ty := .long) rfl rfl (fun _ => rfl) hneg rfl (by show N.toNatClampNeg * 8 ≤ _; omega) (by dsimp only; omega) (by dsimp only; omega) dJ7_copyOf_c38d5_15 (fun q g1 H nq eg hw => ?_)
  have hq : g1 q = some (.inl (cA 2, N.toNatClampNeg, .inr (.inl (fun _ => 0)))) := by rw [eg]; exact hp_up_self _ _ _
  have ha1 : g1 a = some (.inl (cA 2, n, .inr (.inl f))) := by rw [eg]; exact (hp_up_ne _ _ (hp_neN ha nq)).trans ha
  refine lv_astore_n (lv' := [(2, .ref q), (0, .ref a), (1, .int N)]) cx.1 cx.2.1 dJ7_copyOf_c38d5_17 rfl hl (by decide) rfl (fun ls hl => ?_)
  refine lv_aload_n cx.1 cx.2.1 dJ7_copyOf_c38d5_18 rfl (lv_at hl 1 rfl) ?_
  refine lv_iconst (v := 0) cx.1 cx.2.1 dJ7_copyOf_c38d5_19 (by decide) ?_
  refine lv_aload_n cx.1 cx.2.1 dJ7_copyOf_c38d5_20 rfl (lv_at hl 0 rfl) ?_
  refine lv_iconst (v := 0) cx.1 cx.2.1 dJ7_copyOf_c38d5_21 (by decide) ?_
  refine lv_aload_n cx.1 cx.2.1 dJ7_copyOf_c38d5_22 rfl (lv_at hl 1 rfl) ?_
  refine hp_alen (v := Int32.ofNat n) cx hw 2 ha1 rfl rfl dJ7_copyOf_c38d5_23 ?_
  refine lv_iload_n cx.1 cx.2.1 dJ7_copyOf_c38d5_24 rfl (lv_at hl 2 rfl) ?_
  refine va_mmin cx.1 cx.2.1 (by rw [cx.2.2.2.1]; exact hl.1.symm) cx.2.2.2.2.1 (cx.2.2.2.2.2.1 _ (List.mem_cons_of_mem _ cm_1241)) (cx.2.2.2.2.2.1 _ (List.mem_cons_of_mem _ cm_1242)) (cx.2.2.2.2.2.1 _ (List.mem_cons_of_mem _ cm_151)) (cx.2.2.2.2.2.1 _ (List.mem_cons_of_mem _ cm_1243)) (by dsimp only; omega) (Nat.le_of_ble_eq_true rfl) (by dsimp only; omega) (by dsimp only; omega) dJ7_copyOf_c38d5_25 ?_
  have hmin : (if N < Int32.ofNat n then N else Int32.ofNat n) = Int32.ofNat n := if_neg (fun r => by rw [Int32.lt_iff_toInt_lt] at r; omega)
  rw [hmin]
  refine hp_copyl cx hw (cx.2.2.2.2.2.1 _ (List.mem_cons_of_mem _ cm_1244)) (cx.2.2.2.2.2.1 _ (List.mem_cons_of_mem _ cm_1245)) (cx.2.2.2.2.2.1 _ (List.mem_cons_of_mem _ cm_1246)) (cx.2.2.2.2.2.1 _ (List.mem_cons_of_mem _ cm_1247)) hl.1 2 2 ha1 hq rfl rfl rfl (by decide) (by decide) (fun r => by rw [Int32.lt_iff_toInt_lt, Int32.toInt_zero] at r; omega) (by rw [i3]; show 0 + n ≤ n; omega) (by rw [i3]; show 0 + n ≤ _; omega) (fun _ _ => rfl) (by dsimp only; omega) (Nat.le_of_ble_eq_true rfl) dJ7_copyOf_c38d5_28 (fun g2 H locs eg2 hw => ?_)
  refine lv_aload_n cx.1 cx.2.1 dJ7_copyOf_c38d5_31 rfl (lv_at hl 0 rfl) ?_
  refine hp_aret cx hw ⟨nq, ?_⟩ (Or.inr ⟨_, rfl⟩) dJ7_copyOf_c38d5_32
  rw [eg2, eg]
  funext b
  unfold hp_up
  by_cases hb : b = q
  · rw [if_pos hb, if_pos hb, i3]
    have hf : va_cpy f (fun _ => 0) (0 : Int32).toNatClampNeg (0 : Int32).toNatClampNeg n = (fun j => if j < n then f j else 0) := by
      funext j
      show (if 0 ≤ j ∧ j < 0 + n then f (0 + (j - 0)) else 0) = _
      by_cases hj : j < n
      · rw [if_pos ⟨Nat.zero_le _, by omega⟩, if_pos hj, show 0 + (j - 0) = j by omega]
      · rw [if_neg (fun r => hj (by omega)), if_neg hj]
    rw [hf]
  · rw [if_neg hb, if_neg hb, if_neg hb]
theorem cd_k5 : ∀ f, f < 384 → cd_kind f = 5 → f = 192 := by decide +kernel
/-- the addresses behind a growth -/
def cd_ca (ca : Nat → Nat) (i r : Nat) : Nat → Nat := fun x => if x = i then r else ca x
theorem cd_AD_ne {ad : Nat → Nat → Nat} {ca : Nat → Nat} {i r : Nat} {x : Nat × Nat} (h : x ≠ (98, i)) : cd_AD ad (cd_ca ca i r) x = cd_AD ad ca x := by
  unfold cd_AD cd_ca
  by_cases h1 : x.1 = 98
  · rw [if_pos h1, if_pos h1, if_neg (fun q => h (Prod.ext h1 q))]
  · rw [if_neg h1, if_neg h1]
theorem cd_AD_eq {ad : Nat → Nat → Nat} {ca : Nat → Nat} {i r : Nat} : cd_AD ad (cd_ca ca i r) (98, i) = r := by
  unfold cd_AD cd_ca
  rw [if_pos rfl, if_pos rfl]
theorem cd_valG {ad : Nat → Nat → Nat} {ca : Nat → Nat} {s : cd_S} {i r N f j : Nat} {g : Nat → Int64} (h : ¬ (cd_kind f = 5 ∧ j = i)) : cd_val ad (cd_ca ca i r) (cSG s i N g) f j = cd_val ad ca s f j := by
  unfold cd_val
  by_cases h5 : cd_kind f = 5
  · rw [if_neg (by rw [h5]; decide), if_neg (by rw [h5]; decide), if_neg (by rw [h5]; decide), if_neg (by rw [h5]; decide), if_neg (by rw [h5]; decide), if_pos h5, if_neg (by rw [h5]; decide), if_neg (by rw [h5]; decide), if_neg (by rw [h5]; decide), if_neg (by rw [h5]; decide), if_neg (by rw [h5]; decide), if_pos h5]
    unfold cd_ca
    rw [if_neg (fun q => h ⟨h5, q⟩)]
  · rw [if_neg h5, if_neg h5]
    rfl
theorem cd_cellG {cA : Nat → ClassId} {ad : Nat → Nat → Nat} {ca : Nat → Nat} {s : cd_S} {i r N : Nat} {g : Nat → Int64} {x : Nat × Nat} (h1 : x ≠ (98, i)) (h2 : x ≠ (6, i)) : cd_cell cA ad (cd_ca ca i r) (cSG s i N g) x = cd_cell cA ad ca s x := by
  unfold cd_cell
  split
  · rename_i hlt
    have hb := cd_nf32 x.1 hlt
    have e : cd_fs ad (cd_ca ca i r) (cSG s i N g) x.1 x.2 = cd_fs ad ca s x.1 x.2 := by
      apply List.ext_getElem?
      intro j
      by_cases hj : j < cd_nf x.1
      · rw [cd_fsget hj, cd_fsget hj, cd_valG (fun q => h2 (Prod.ext (by have := cd_k5 _ (by omega) q.1; dsimp only; omega) q.2))]
      · rw [List.getElem?_eq_none (by rw [cd_fslen]; omega), List.getElem?_eq_none (by rw [cd_fslen]; omega)]
    rw [e]
  · split
    · rename_i h98
      have hx : x.2 ≠ i := fun q => h1 (Prod.ext h98 q)
      unfold cSG
      dsimp only
      rw [if_neg hx, if_neg hx]
    · rfl
theorem cd_injG {cA : Nat → ClassId} {ad : Nat → Nat → Nat} {ca : Nat → Nat} {s : cd_S} {i r : Nat} (hj : cd_inj ad ca) (hr : cd_pic cA ad ca s r = none) : cd_inj ad (cd_ca ca i r) := by
  have fresh : ∀ x ∈ cd_LC, cd_AD ad ca x ≠ r := fun x hx q => by
    have := cd_at (cA := cA) (s := s) hj hx
    rw [q, hr] at this
    cases this
  intro x hx y hy he
  by_cases h1 : x = (98, i)
  · by_cases h2 : y = (98, i)
    · rw [h1, h2]
    · rw [h1, cd_AD_eq, cd_AD_ne h2] at he
      exact absurd he.symm (fresh y hy)
  · by_cases h2 : y = (98, i)
    · rw [h2, cd_AD_eq, cd_AD_ne h1] at he
      exact absurd he (fresh x hx)
    · rw [cd_AD_ne h1, cd_AD_ne h2] at he
      exact hj x hx y hy he
theorem cd_lessG {cA : Nat → ClassId} {ad : Nat → Nat → Nat} {ca : Nat → Nat} {s : cd_S} {i r N : Nat} {g : Nat → Int64} (hj : cd_inj ad ca) (hi : i < 197) (hr : cd_pic cA ad ca s r = none) : ∀ a e, cd_pic cA ad (cd_ca ca i r) (cSG s i N g) a = some e → hp_up (hp_up (cd_pic cA ad ca s) r (.inl (cA 2, N, .inr (.inl g)))) (ad 6 i) (.inr (6, (cd_fs ad ca s 6 i).set 0 (.ref r))) a = some e := by
  intro a e h
  have h6 : cd_pic cA ad ca s (ad 6 i) = some (.inr (6, cd_fs ad ca s 6 i)) := cd_atO hj (by decide) (show i < 197 from hi)
  have hr6 : r ≠ ad 6 i := fun q => by rw [q, h6] at hr; cases hr
  unfold cd_pic at h
  cases hf : cd_LC.find? (fun x => cd_AD ad (cd_ca ca i r) x == a) with
  | none => rw [hf] at h; cases h
  | some x =>
    rw [hf] at h
    obtain rfl := Option.some.inj h
    have hx := List.mem_of_find?_eq_some hf
    have hxa : cd_AD ad (cd_ca ca i r) x = a := by simpa using List.find?_some hf
    by_cases h1 : x = (98, i)
    · rw [h1, cd_AD_eq] at hxa
      rw [← hxa, hp_up_ne _ _ hr6, hp_up_self, h1]
      unfold cd_cell cSG
      dsimp only
      rw [if_neg (by decide), if_pos rfl, if_pos rfl, if_pos rfl]
    · rw [cd_AD_ne h1] at hxa
      by_cases h2 : x = (6, i)
      · have ha : a = ad 6 i := by rw [← hxa, h2]; unfold cd_AD; rw [if_neg (show ¬ (6 : Nat) = 98 by decide)]
        rw [ha, hp_up_self, h2]
        unfold cd_cell
        rw [if_pos (show (6 : Nat) < 12 by decide)]
        have e : (cd_fs ad ca s 6 i).set 0 (.ref r) = cd_fs ad (cd_ca ca i r) (cSG s i N g) 6 i := by
          apply List.ext_getElem?
          intro j
          by_cases hjn : j < cd_nf 6
          · rw [cd_fsget hjn]
            by_cases q : 0 = j
            · subst q
              rw [List.getElem?_set_self (by rw [cd_fslen]; exact hjn)]
              unfold cd_val cd_ca
              rw [if_neg (by decide), if_neg (by decide), if_neg (by decide), if_neg (by decide), if_neg (by decide), if_pos (by decide), if_pos rfl]
            · rw [List.getElem?_set_ne q, cd_fsget hjn, cd_valG (fun w => by have hb : cd_nf 6 = 2 := rfl; have := cd_k5 _ (by omega) w.1; omega)]
          · rw [List.getElem?_eq_none (by rw [List.length_set, cd_fslen]; omega), List.getElem?_eq_none (by rw [cd_fslen]; omega)]
        rw [e]
      · have ha6 : a ≠ ad 6 i := fun q => h2 (hj x hx (6, i) (cd_inO (by decide) (show i < 197 from hi)) (by rw [hxa, q]; unfold cd_AD; rw [if_neg (show ¬ (6 : Nat) = 98 by decide)]))
        have hg : cd_pic cA ad ca s a = some (cd_cell cA ad ca s x) := by rw [← hxa]; exact cd_at hj hx
        have har : a ≠ r := fun q => by rw [q, hr] at hg; cases hg
        rw [hp_up_ne _ _ ha6, hp_up_ne _ _ har, hg, cd_cellG h1 h2]
section CDG
variable {p : Program} {l : Launch} {e : Env} {R : Room} {s : State} {m : MethodId} {args : Array Value} {below : List Frame} {meth : Method} {c : Code} {H : Heap} {locs : List Loc} {cells slots : Nat} {Q : State → Prop}
variable {cc : ByteArray} {ret : Option FieldType} {maxL : Nat} {y : MethodName} {pc : Nat} {ls : Array Slot} {D : va_G} {E : hp_N} {A : Nat → Prop} {cA : Nat → ClassId} {ad : Nat → Nat → Nat} {ca : Nat → Nat} {σ : cd_S} {c0 : Cond}
theorem cd_growW (hj : cd_inj ad ca) (cx : hp_C p c cc meth ret maxL s m args y (c0 :: v_CLS)) (hw : hp_w D vwCl (hp_Tl cA) E A s H locs (cd_pic cA ad ca σ)) {i i1 i2 : Nat} (hi : i < 197) {b : cd_B} {N : Int32} {pr : cd_S × cd_B} (he : cd_grow σ b i N = some pr) (m1 : Cond.methodLink y.cls i1 yJ7_copyOf_c38d5 ∈ v_CLS) (m2 : Cond.static yJ7_copyOf_c38d5 ∈ v_CLS) (m3 : Cond.initialized RJ7 ∈ v_CLS) (m4 : Cond.code yJ7_copyOf_c38d5 cJ7_copyOf_c38d5 3 (some (.array .long)) ∈ v_CLS) (m5 : Cond.fieldLink y.cls i2 (TX6 0).1 (TX6 0).2.1 (TX6 0).2.2.1 ∈ v_CLS) (d1 : decode cc pc = .ok (.invokestatic i1, 3)) (d2 : decode cc (pc + 3) = .ok (.putfield i2, 3)) (hsz : ls.size = maxL) (hR : 3 ≤ R.frames ∧ 82 ≤ R.locals) (hb : cells + (b.1 - pr.2.1) ≤ R.cells ∧ slots + (b.2 - pr.2.2) ≤ R.slots) (kk : ∀ (ca1 : Nat → Nat) (_ : cd_inj ad ca1) (H1 : Heap) (locs1 : List Loc), hp_w D vwCl (hp_Tl cA) E A s H1 locs1 (cd_pic cA ad ca1 pr.1) → W p l e R s m args below meth c H1 locs1 (cells + (b.1 - pr.2.1)) (slots + (b.2 - pr.2.2)) Q (F0 m (pc + 6) ls [])) : W p l e R s m args below meth c H locs cells slots Q (F0 m pc ls [.int N, .ref (ca i), .ref (ad 6 i)]) := by
  unfold cd_grow at he
  split at he
  rotate_left
  · cases he
  rename_i hq
  obtain ⟨q0, q1, q2, q3, q4⟩ := hq
  obtain rfl := Option.some.inj he
  have e1 : b.1 - (b.1 - 1) = 1 := by omega
  have e2 : b.2 - (b.2 - N.toNatClampNeg) = N.toNatClampNeg := by omega
  dsimp only at kk hb
  rw [e1, e2] at kk hb
  have hcell : cd_pic cA ad ca σ (ca i) = some (.inl (cA 2, cRC σ i, .inr (.inl (cRF σ i)))) := cd_atC hj hi
  have hobj : cd_pic cA ad ca σ (ad 6 i) = some (.inr (6, cd_fs ad ca σ 6 i)) := cd_atO hj (by decide) (show i < 197 from hi)
  have hM := kj_copyOf l D cA E H.size (cd_pic cA ad ca σ) (ca i) (cRC σ i) (cRF σ i) N hcell q0 q1 q2
  refine hp_callSr (As := [.ref (ca i), .int N]) (rest := [.ref (ad 6 i)]) cx hw hM (va_cwS 2 cx.2.2.2.2.2.1 (cd_giS m1 m2 m3 m4) rfl rfl rfl (by decide +kernel) ⟨by dsimp only; omega, by dsimp only; omega⟩) rfl hsz rfl (Nat.le_of_ble_eq_true rfl) d1 hb (fun r u H1 locs1 hp hw1 => ?_)
  obtain ⟨hr, rfl⟩ := hp
  have hne : ad 6 i ≠ r := hp_neN hobj hr
  refine hp_put (C := RX6) (T := TX6) (N := 2) (ci := 6) cx hw1 hic6 tyX6_ok nmX6 rfl ((hp_up_ne _ _ hne).trans hobj) 0 (by decide) (List.mem_cons_of_mem _ m5) rfl (v := .ref r) rfl rfl (by rw [cd_fslen]; decide) rfl d2 (fun g2 H2 locs2 eg hw2 => ?_)
  subst eg
  exact kk (cd_ca ca i r) (cd_injG hj hr) H2 locs2 (hp_lessw hw2 (cd_lessG hj hi hr))
end CDG
