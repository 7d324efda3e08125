/-! the start of the law: classes, array classes, what is true outside -/
theorem ar_prim {s : State} {args : Array Value} {ty : FieldType} (h : (Cond.arrayClass ty).before args s = true) (hp : ∀ C, ty ≠ .object C) : ∃ cA : ClassId, ArrOfT s cA ty ∧ va_RA s cA ty := by
  obtain ⟨c, k, comp, h1, h2, h3⟩ := Cond.arrayClass_spec h
  refine ⟨c, fun n z => ⟨fun k h => (by cases h), k, h2, comp, h3⟩, ?_⟩
  cases ty with
  | object C => exact absurd rfl (hp C)
  | _ => exact h1
theorem ar_obj {s : State} {C : String} (h : va_AO C s) : ∃ cA : ClassId, ArrOfT s cA (.object C) ∧ va_RA s cA (.object C) := by
  obtain ⟨comp, c, k, h1, h2, h3, h4, h5⟩ := Cond.arrayOver_spec h
  exact ⟨c, fun n z => ⟨fun k h => (by cases h), k, h3, comp, h4⟩, k, comp, h3, h4, h1, h5⟩
theorem ar_all {s : State} {args : Array Value} (h0 : (Cond.arrayClass .byte).before args s = true) (h1 : (Cond.arrayClass .int).before args s = true) (h2 : (Cond.arrayClass .long).before args s = true) (h3 : (Cond.arrayClass .boolean).before args s = true) (h4 : va_AO "WardenHouse$Right" s) (h5 : va_AO "WardenHouse$Strand" s) (h6 : va_AO "WardenHouse$Unit" s) : ∃ cA : Nat → ClassId, ∀ (k : Nat) (q : ClassId × FieldType), (hp_Tl cA)[k]? = some q → ArrOfT s q.1 q.2 ∧ va_RA s q.1 q.2 := by
  obtain ⟨c0, a0⟩ := ar_prim h0 (fun C h => by cases h)
  obtain ⟨c1, a1⟩ := ar_prim h1 (fun C h => by cases h)
  obtain ⟨c2, a2⟩ := ar_prim h2 (fun C h => by cases h)
  obtain ⟨c3, a3⟩ := ar_prim h3 (fun C h => by cases h)
  obtain ⟨c4, a4⟩ := ar_obj h4
  obtain ⟨c5, a5⟩ := ar_obj h5
  obtain ⟨c6, a6⟩ := ar_obj h6
  refine ⟨fun k => match k with | 0 => c0 | 1 => c1 | 2 => c2 | 3 => c3 | 4 => c4 | 5 => c5 | _ => c6, fun k q hq => ?_⟩
  match k, hq with
  | 0, hq => cases hq; exact a0
  | 1, hq => cases hq; exact a1
  | 2, hq => cases hq; exact a2
  | 3, hq => cases hq; exact a3
  | 4, hq => cases hq; exact a4
  | 5, hq => cases hq; exact a5
  | 6, hq => cases hq; exact a6
  | k + 7, hq => simp at hq
theorem mem_r {big ws : List Cond} (ps : List Nat) (hp : ws = ps.filterMap (fun i => big[i]?)) : ∀ w ∈ ws, w ∈ big := by
  intro w hw
  rw [hp] at hw
  obtain ⟨i, -, hi⟩ := List.mem_filterMap.mp hw
  exact List.mem_of_getElem? hi
theorem mi (i : Nat) {w : Cond} (h : lw_tbl[i]? = some w) : w ∈ lw_tbl := List.mem_of_getElem? h
theorem td_split {l : List Cond} {k : Nat} {w : Cond} (h : w ∈ l.drop k) : w ∈ (l.drop k).take 40 ∨ w ∈ l.drop (k + 40) := by
  have h2 : l.drop k = (l.drop k).take 40 ++ (l.drop k).drop 40 := (List.take_append_drop 40 _).symm
  rw [h2] at h
  rcases List.mem_append.mp h with h | h
  · exact Or.inl h
  · exact Or.inr (by rw [List.drop_drop] at h; exact h)
set_option maxRecDepth 100000 in
theorem tb_wsX00 : ∀ w ∈ wsX00, w ∈ lw_tbl := mem_r [746, 748, 750, 752, 754, 756] (by decide +kernel)
set_option maxRecDepth 100000 in
theorem tb_wsX10 : ∀ w ∈ wsX10, w ∈ lw_tbl := mem_r [855, 857, 859, 861, 863, 865, 867, 869, 871, 873, 875, 877, 879, 881, 883, 885, 887, 889, 891, 893] (by decide +kernel)
set_option maxRecDepth 100000 in
theorem tb_wsX20 : ∀ w ∈ wsX20, w ∈ lw_tbl := mem_r [616, 618, 620, 622, 624, 626, 628, 630, 632, 634, 636, 638, 640, 642, 644, 646] (by decide +kernel)
set_option maxRecDepth 100000 in
theorem tb_wsX30 : ∀ w ∈ wsX30, w ∈ lw_tbl := mem_r [459, 461, 463, 465, 467, 469, 471, 473, 475, 477, 479, 481, 483, 485] (by decide +kernel)
set_option maxRecDepth 100000 in
theorem tb_wsX40 : ∀ w ∈ wsX40, w ∈ lw_tbl := mem_r [676, 678, 680, 682, 684, 686, 688, 690, 692, 694, 696, 698, 700] (by decide +kernel)
set_option maxRecDepth 100000 in
theorem tb_wsX50 : ∀ w ∈ wsX50, w ∈ lw_tbl := mem_r [427, 429, 431, 433] (by decide +kernel)
set_option maxRecDepth 100000 in
theorem tb_wsX60 : ∀ w ∈ wsX60, w ∈ lw_tbl := mem_r [304, 306] (by decide +kernel)
set_option maxRecDepth 100000 in
theorem tb_wsX70 : ∀ w ∈ wsX70, w ∈ lw_tbl := mem_r [795, 797, 799, 801, 803, 805, 807, 809, 811, 813, 815, 817, 819, 821, 823, 825, 827, 829] (by decide +kernel)
set_option maxRecDepth 100000 in
theorem tb_wsX80 : ∀ w ∈ wsX80, w ∈ lw_tbl := mem_r [715, 717, 719, 721, 723] (by decide +kernel)
set_option maxRecDepth 100000 in
theorem tb_wsX90 : ∀ w ∈ wsX90, w ∈ lw_tbl := mem_r [558, 560, 562, 564, 566, 568, 570, 572, 574, 576, 578, 580, 582, 584, 586, 588, 590, 592] (by decide +kernel)
set_option maxRecDepth 100000 in
theorem tb_wsX100 : ∀ w ∈ wsX100, w ∈ lw_tbl := mem_r [379, 381, 383, 385, 387, 389, 391, 393, 395, 397, 399] (by decide +kernel)
set_option maxRecDepth 100000 in
theorem tb_wsX110 : ∀ w ∈ wsX110, w ∈ lw_tbl := mem_r [910, 912, 914, 916, 918, 920, 922, 924, 926, 928, 930, 932] (by decide +kernel)
set_option maxRecDepth 100000 in
theorem tb_X12_0 : ∀ w ∈ (wsX120.drop 0).take 40, w ∈ lw_tbl := mem_r [2289, 2291, 2293, 2295, 2297, 2299, 2301, 2303, 2305, 2307, 2309, 2311, 2313, 2315, 2317, 2319, 2321, 2323, 2325, 2327, 2329, 2331, 2333, 2335, 2337, 2339, 2341, 2343, 2345, 2347, 2349, 2351, 2353, 2355, 2357, 2359, 2361, 2363, 2365, 2367] (by decide +kernel)
set_option maxRecDepth 100000 in
theorem tb_X12_1 : ∀ w ∈ (wsX120.drop 40).take 40, w ∈ lw_tbl := mem_r [2369, 2371, 2373, 2375, 2377, 2379, 2381, 2383, 2385, 2387, 2389, 2391, 2393, 2395, 2397, 2399, 2401, 2403, 2405, 2407, 2409, 2411, 2413, 2415, 2417, 2419, 2421, 2423, 2425, 2427, 2429, 2431, 2433, 2435, 2437, 2439, 2441, 2443, 2445, 2447] (by decide +kernel)
set_option maxRecDepth 100000 in
theorem tb_X12_2 : ∀ w ∈ (wsX120.drop 80).take 40, w ∈ lw_tbl := mem_r [2449, 2451, 2453, 2455, 2457, 2459, 2461, 2463, 2465, 2467, 2469, 2471, 2473, 2475, 2477, 2479, 2481, 2483, 2485, 2487, 2489, 2491, 2493, 2495, 2497, 2499, 2501, 2503, 2505, 2507, 2509, 2511, 2513, 2515, 2517, 2519, 2521, 2523, 2525, 2527] (by decide +kernel)
set_option maxRecDepth 100000 in
theorem tb_X12_3 : ∀ w ∈ (wsX120.drop 120).take 40, w ∈ lw_tbl := mem_r [2529, 2531, 2533, 2535, 2537, 2539, 2541, 2543, 2545, 2547, 2549, 2551, 2553, 2555, 2557, 2559, 2561] (by decide +kernel)
set_option maxRecDepth 100000 in
theorem tb_wsX120 : ∀ w ∈ wsX120, w ∈ lw_tbl := by
  intro w h
  have h : w ∈ (wsX120.drop 0).take 40 ∨ w ∈ wsX120.drop 40 := td_split (by simpa using h)
  rcases h with h | h
  · exact tb_X12_0 w h
  have h : w ∈ (wsX120.drop 40).take 40 ∨ w ∈ wsX120.drop 80 := td_split (by exact h)
  rcases h with h | h
  · exact tb_X12_1 w h
  have h : w ∈ (wsX120.drop 80).take 40 ∨ w ∈ wsX120.drop 120 := td_split (by exact h)
  rcases h with h | h
  · exact tb_X12_2 w h
  have h : w ∈ (wsX120.drop 120).take 40 ∨ w ∈ wsX120.drop 160 := td_split (by exact h)
  rcases h with h | h
  · exact tb_X12_3 w h
  · exact absurd h (by rw [List.drop_eq_nil_of_le (by simp [u_ws])]; exact List.not_mem_nil)
theorem cl_all {s : State} {args : Array Value} (hts : ∀ w ∈ lw_tbl, w.before args s = true) : ∃ (dC : Nat → ClassId) (dI : Nat → Nat → Nat), ∀ (k : Nat) (q : vw_C), vwCl[k]? = some q → u_Kn s q.1 q.2.1 q.2.2 (dC k) (dI k) := by
  obtain ⟨c0, i0, h0⟩ := u_known (C := RX0) (T := TX0) (N := 6) (n := 6) hts tb_wsX00 (hts (.instantiable RX0 6) (mi 733 (by decide +kernel)))
  obtain ⟨c1, i1, h1⟩ := u_known (C := RX1) (T := TX1) (N := 20) (n := 20) hts tb_wsX10 (hts (.instantiable RX1 20) (mi 727 (by decide +kernel)))
  obtain ⟨c2, i2, h2⟩ := u_known (C := RX2) (T := TX2) (N := 16) (n := 16) hts tb_wsX20 (hts (.instantiable RX2 16) (mi 491 (by decide +kernel)))
  obtain ⟨c3, i3, h3⟩ := u_known (C := RX3) (T := TX3) (N := 14) (n := 14) hts tb_wsX30 (hts (.instantiable RX3 14) (mi 403 (by decide +kernel)))
  obtain ⟨c4, i4, h4⟩ := u_known (C := RX4) (T := TX4) (N := 13) (n := 13) hts tb_wsX40 (hts (.instantiable RX4 13) (mi 650 (by decide +kernel)))
  obtain ⟨c5, i5, h5⟩ := u_known (C := RX5) (T := TX5) (N := 4) (n := 4) hts tb_wsX50 (hts (.instantiable RX5 4) (mi 413 (by decide +kernel)))
  obtain ⟨c6, i6, h6⟩ := u_known (C := RX6) (T := TX6) (N := 2) (n := 2) hts tb_wsX60 (hts (.instantiable RX6 2) (mi 291 (by decide +kernel)))
  obtain ⟨c7, i7, h7⟩ := u_known (C := RX7) (T := TX7) (N := 18) (n := 18) hts tb_wsX70 (hts (.instantiable RX7 18) (mi 761 (by decide +kernel)))
  obtain ⟨c8, i8, h8⟩ := u_known (C := RX8) (T := TX8) (N := 5) (n := 5) hts tb_wsX80 (hts (.instantiable RX8 5) (mi 704 (by decide +kernel)))
  obtain ⟨c9, i9, h9⟩ := u_known (C := RX9) (T := TX9) (N := 18) (n := 18) hts tb_wsX90 (hts (.instantiable RX9 18) (mi 498 (by decide +kernel)))
  obtain ⟨c10, i10, h10⟩ := u_known (C := RX10) (T := TX10) (N := 11) (n := 11) hts tb_wsX100 (hts (.instantiable RX10 11) (mi 285 (by decide +kernel)))
  obtain ⟨c11, i11, h11⟩ := u_known (C := RX11) (T := TX11) (N := 12) (n := 12) hts tb_wsX110 (hts (.instantiable RX11 12) (mi 277 (by decide +kernel)))
  obtain ⟨c12, i12, h12⟩ := u_known (C := RX12) (T := TX12) (N := 137) (n := 137) hts tb_wsX120 (hts (.instantiable RX12 137) (mi 2143 (by decide +kernel)))
  refine ⟨fun k => match k with | 0 => c0 | 1 => c1 | 2 => c2 | 3 => c3 | 4 => c4 | 5 => c5 | 6 => c6 | 7 => c7 | 8 => c8 | 9 => c9 | 10 => c10 | 11 => c11 | _ => c12, fun k => match k with | 0 => i0 | 1 => i1 | 2 => i2 | 3 => i3 | 4 => i4 | 5 => i5 | 6 => i6 | 7 => i7 | 8 => i8 | 9 => i9 | 10 => i10 | 11 => i11 | _ => i12, fun k q hq => ?_⟩
  match k, hq with
  | 0, hq => cases hq; exact h0
  | 1, hq => cases hq; exact h1
  | 2, hq => cases hq; exact h2
  | 3, hq => cases hq; exact h3
  | 4, hq => cases hq; exact h4
  | 5, hq => cases hq; exact h5
  | 6, hq => cases hq; exact h6
  | 7, hq => cases hq; exact h7
  | 8, hq => cases hq; exact h8
  | 9, hq => cases hq; exact h9
  | 10, hq => cases hq; exact h10
  | 11, hq => cases hq; exact h11
  | 12, hq => cases hq; exact h12
  | k + 13, hq => simp [vwCl] at hq
