/-! pure words: states of the model and of the class as numbers, what reads and writes them -/
/-- where a byte stands in a row of bytes, from place i on, k places long -/
def st_fc (b : Nat → Int32) (c : Int32) : Nat → Nat → Int32
  | 0, _ => -1
  | k + 1, i => if b i = c then nI i else st_fc b c k (i + 1)
abbrev md_S : Type := (Nat → Int32) × (Nat → Int64) × (Nat → Nat → Int32) × (Nat → Nat → Int64)
abbrev md_R : Type := Nat → Int32 → Int32 → Int32 → md_S → Option (Int32 × md_S)
def md_lens : List Nat := [0, 3000, 0, 3000, 0, 0, 0, 0, 0, 0, 0, 0, 0, 6, 0, 0, 0, 1330, 266, 266, 0, 0, 0, 20, 160, 0, 8, 8, 8, 32, 8, 96, 8, 8, 0, 0, 60, 60, 60, 60, 60, 60, 60, 60, 60, 960, 60, 60, 0, 24, 0, 500, 500, 500, 500, 60, 0, 20, 0, 400, 0, 400, 0, 0, 0, 0, 900, 900, 900, 900, 900, 900, 900, 0, 80000, 0, 120, 120, 0, 0, 9, 0, 0, 60, 0, 0, 0, 0, 0, 0, 0, 0, 1000, 0, 0, 0, 2000, 2000, 0, 66000, 66000, 0, 4001, 4001, 4001, 0, 8, 8, 8, 8, 8, 8, 480, 480, 480, 480, 480, 8, 100800, 100800, 8, 72000, 72000, 8, 12000, 12000, 12000, 0, 0, 0, 0, 4002, 64032, 40, 0, 0, 24]
def md_len (k : Nat) : Nat := md_lens.getD k 0
abbrev mI (s : md_S) (k : Nat) : Int32 := s.1 k
abbrev mJ (s : md_S) (k : Nat) : Int64 := s.2.1 k
abbrev mA (s : md_S) (k i : Nat) : Int32 := s.2.2.1 k i
abbrev mL (s : md_S) (k i : Nat) : Int64 := s.2.2.2 k i
def mSI (s : md_S) (k : Nat) (v : Int32) : md_S := (fun j => if j = k then v else s.1 j, s.2)
def mSJ (s : md_S) (k : Nat) (v : Int64) : md_S := (s.1, fun j => if j = k then v else s.2.1 j, s.2.2)
def mSA (s : md_S) (k i : Nat) (v : Int32) : md_S := (s.1, s.2.1, fun j => if j = k then upd (s.2.2.1 k) i v else s.2.2.1 j, s.2.2.2)
def mSL (s : md_S) (k i : Nat) (v : Int64) : md_S := (s.1, s.2.1, s.2.2.1, fun j => if j = k then vp_updL (s.2.2.2 k) i v else s.2.2.2 j)
def mldA (s : md_S) (k : Nat) (i : Int32) : Option Int32 := if 0 ≤ i.toInt ∧ i.toInt < (md_len k : Int) then some (s.2.2.1 k i.toNatClampNeg) else none
def mldL (s : md_S) (k : Nat) (i : Int32) : Option Int64 := if 0 ≤ i.toInt ∧ i.toInt < (md_len k : Int) then some (s.2.2.2 k i.toNatClampNeg) else none
def mstA (s : md_S) (k : Nat) (i v : Int32) : Option md_S := if 0 ≤ i.toInt ∧ i.toInt < (md_len k : Int) then some (mSA s k i.toNatClampNeg v) else none
def mstB (s : md_S) (k : Nat) (i v : Int32) : Option md_S := if 0 ≤ i.toInt ∧ i.toInt < (md_len k : Int) then some (mSA s k i.toNatClampNeg (vp_nar .byte v)) else none
def mstZ (s : md_S) (k : Nat) (i v : Int32) : Option md_S := if 0 ≤ i.toInt ∧ i.toInt < (md_len k : Int) then some (mSA s k i.toNatClampNeg (vp_nar .boolean v)) else none
def mstL (s : md_S) (k : Nat) (i : Int32) (v : Int64) : Option md_S := if 0 ≤ i.toInt ∧ i.toInt < (md_len k : Int) then some (mSL s k i.toNatClampNeg v) else none
def md_zb (v : Int32) : Option Int32 := if v = 0 ∨ v = 1 then some v else none
def md_nz (y : Int32) : Option Nat := if y = 0 then none else some 0
def md_kwb : Nat → Int32 := fun i => ([103, 114, 97, 110, 116, 32, 109, 111, 100, 117, 108, 101, 32, 102, 105, 101, 108, 100, 32, 108, 101, 116, 32, 105, 110, 32, 105, 102, 32, 116, 104, 101, 110, 32, 101, 108, 115, 101, 32, 116, 114, 121, 32, 99, 97, 116, 99, 104, 32, 112, 114, 105, 118, 32, 117, 110, 100, 101, 114, 32, 102, 117, 110, 32, 110, 101, 119, 32, 110, 111, 110, 101, 32, 115, 101, 108, 102, 32, 99, 116, 120, 32, 99, 104, 101, 99, 107, 32, 97, 98, 108, 101, 32, 111, 117, 116, 32, 115, 112, 97, 119, 110, 32, 119, 97, 105, 116, 32, 102, 97, 105, 108, 32] : List Int32).getD i 0
/-- a letter of the keywords, and where the next blank stands -/
def md_ch (k : Int32) : Option Int32 := if 0 ≤ k.toInt ∧ k.toInt < 113 then some (md_kwb k.toNatClampNeg &&& 255) else none
def md_ix (k : Int32) : Option Int32 := if 0 ≤ k.toInt ∧ k.toInt < 113 then some (st_fc md_kwb (32 : Int32).toInt8.toInt32 (113 - k.toNatClampNeg) k.toNatClampNeg) else none
abbrev cd_S : Type := (Nat → Nat → Int32) × (Nat → Nat → Int64) × (Nat → Nat → Nat → Int32) × (Nat → Nat → Nat → Int64) × (Nat → Nat → Nat) × (Nat → Nat) × (Nat → Nat → Int64)
abbrev cd_B : Type := Nat × Nat
def cd_ocs : List Nat := [6, 6, 6, 0, 0, 0, 0, 0, 0, 0, 0, 0, 0, 0, 0, 0, 0, 0, 0, 0, 0, 0, 0, 0, 0, 0, 0, 0, 0, 0, 0, 0, 2, 3, 0, 7, 6, 6, 6, 6, 0, 0, 0, 0, 0, 0, 0, 0, 0, 0, 7, 0, 0, 0, 0, 0, 0, 0, 0, 0, 0, 0, 0, 0, 3, 9, 0, 0, 0, 0, 0, 0, 0, 0, 0, 0, 0, 0, 0, 0, 0, 0, 0, 0, 0, 0, 0, 0, 0, 0, 0, 0, 0, 0, 0, 0, 5, 5, 0, 0, 0, 0, 5, 0, 0, 5, 0, 0, 0, 0, 0, 0, 0, 0, 0, 0, 0, 0, 0, 0, 0, 0, 0, 0, 0, 0, 0, 0, 10, 2, 3, 5, 0, 0, 0, 9, 9, 0, 0, 0, 0, 0, 0, 0, 0, 0, 0, 0, 0, 0, 0, 0, 0, 0, 0, 0, 0, 0, 0, 0, 0, 0, 0, 0, 0, 0, 0, 0, 0, 0, 0, 0, 0, 0, 0, 0, 0, 0, 0, 0, 0, 0, 0, 0, 0, 0, 0, 0, 0, 0, 0, 0, 0, 0, 0, 0, 0, 0, 0, 0, 0, 0, 0, 0, 0, 0, 0, 0, 0, 0, 0, 0, 0, 0, 0, 0, 0, 0, 0, 0, 0, 0, 0, 0, 0, 0, 0, 0, 0, 0, 6, 0, 0, 0, 0, 0, 0, 0, 9, 0, 0, 0, 0, 0, 0, 0, 0, 0, 0, 0, 0, 0, 0, 0, 0, 0, 2, 0, 0, 0, 0, 0, 0, 0, 0, 0, 0, 0, 0, 0, 0, 0, 0, 0, 0, 0, 0, 0, 0, 0, 0, 0, 0, 0, 0, 0, 0, 0, 0, 0, 0, 0, 0, 0, 0, 0, 0, 0, 0, 0, 0, 0, 0, 6, 6, 6, 0, 0, 0, 0, 0, 0, 0, 0, 0, 0, 0, 0, 0, 0, 0, 6, 6, 0, 0, 0, 0, 0, 0, 0, 0, 0, 0, 0, 0, 0, 0, 0, 0, 0, 0, 0, 0, 0, 0, 0, 0, 0, 0, 0, 0, 0, 0, 0, 10, 3, 2, 4, 8, 1, 5, 5, 0, 0, 0, 0, 0, 0, 0, 0, 0, 0, 0, 0, 0, 0, 0, 0, 0, 0, 0, 0, 0, 0]
def cd_oc (k : Nat) : Nat := cd_ocs.getD k 0
def cd_obs : List Nat := [2, 3, 4, 0, 0, 0, 0, 0, 0, 0, 0, 0, 0, 0, 0, 0, 0, 0, 0, 0, 0, 0, 0, 0, 0, 0, 0, 0, 0, 0, 0, 0, 0, 0, 0, 0, 5, 6, 7, 8, 0, 0, 0, 0, 0, 0, 0, 0, 0, 0, 0, 0, 0, 0, 0, 0, 0, 0, 0, 0, 0, 0, 0, 0, 0, 0, 0, 0, 0, 0, 0, 0, 0, 0, 0, 0, 0, 0, 0, 0, 0, 0, 0, 0, 0, 0, 0, 0, 0, 0, 0, 0, 0, 0, 0, 0, 0, 8, 0, 0, 0, 0, 168, 0, 0, 192, 0, 0, 0, 0, 0, 0, 0, 0, 0, 0, 0, 0, 0, 0, 0, 0, 0, 0, 0, 0, 0, 0, 0, 0, 0, 193, 0, 0, 0, 0, 0, 0, 0, 0, 0, 0, 0, 0, 0, 0, 0, 0, 0, 0, 0, 0, 0, 0, 0, 0, 0, 0, 0, 0, 0, 0, 0, 0, 0, 0, 0, 0, 0, 0, 0, 0, 0, 0, 0, 0, 0, 0, 0, 0, 0, 0, 0, 0, 0, 0, 0, 0, 0, 0, 0, 0, 0, 0, 0, 0, 0, 0, 0, 0, 0, 0, 0, 0, 0, 0, 0, 0, 0, 0, 0, 0, 0, 0, 0, 0, 0, 0, 0, 0, 0, 0, 0, 0, 0, 0, 0, 0, 0, 0, 9, 0, 0, 0, 0, 0, 0, 0, 0, 0, 0, 0, 0, 0, 0, 0, 0, 0, 0, 0, 0, 0, 0, 0, 0, 0, 0, 0, 0, 0, 0, 0, 0, 0, 0, 0, 0, 0, 0, 0, 0, 0, 0, 0, 0, 0, 0, 0, 0, 0, 0, 0, 0, 0, 0, 0, 0, 0, 0, 0, 0, 0, 0, 0, 0, 0, 0, 0, 0, 0, 0, 0, 0, 17, 18, 19, 0, 0, 0, 0, 0, 0, 0, 0, 0, 0, 0, 0, 0, 0, 0, 0, 1, 0, 0, 0, 0, 0, 0, 0, 0, 0, 0, 0, 0, 0, 0, 0, 0, 0, 0, 0, 0, 0, 0, 0, 0, 0, 0, 0, 0, 0, 0, 0, 0, 0, 0, 0, 0, 0, 194, 195, 0, 0, 0, 0, 0, 0, 0, 0, 0, 0, 0, 0, 0, 0, 0, 0, 0, 0, 0, 0, 0, 0]
def cd_ob (k : Nat) : Nat := cd_obs.getD k 0
def cd_alens : List Nat := [0, 0, 0, 256, 14, 0, 0, 0, 0, 0, 0, 0, 0, 0, 0, 0, 0, 0, 0, 0, 0, 0, 0, 0, 0, 0, 0, 0, 0, 0, 0, 0, 0, 0, 0, 8, 0, 0, 0, 0, 0, 0, 0, 0, 0, 0, 0, 0, 0, 0, 0, 0, 0, 0, 0, 0, 0, 0, 0, 0, 0, 0, 0, 0, 0, 60, 0, 8, 8, 32, 8, 8, 96, 8, 0, 400, 0, 400, 0, 400, 0, 0, 0, 0, 0, 0, 0, 0, 0, 0, 0, 0, 0, 0, 0, 0, 8, 160, 8, 12, 8, 8, 24, 24, 24, 0, 0, 0, 0, 0, 0, 0, 0, 0, 0, 0, 0, 0, 0, 0, 0, 0, 0, 0, 0, 0, 0, 0, 0, 0, 0, 0, 12, 12, 0, 0, 0, 0, 0, 0, 0, 0, 0, 0, 0, 0, 0, 0, 0, 0, 0, 0, 0, 0, 0, 0, 0, 0, 0, 0, 0, 5, 0, 0, 0, 0, 0, 0, 0, 0, 0, 0, 0, 0, 0, 0, 0, 0, 0, 0, 0, 0, 0, 0, 0, 0, 0, 0, 0, 0, 0, 0, 0, 0, 0, 0, 0, 0, 0, 0, 0, 0, 0, 0, 0, 0, 0, 0, 0, 0, 0, 0, 0, 0, 0, 0, 0, 0, 0, 0, 0, 0, 0, 0, 60, 60, 60, 60, 60, 60, 0, 0, 0, 0, 0, 0, 0, 0, 0, 0, 0, 0, 0, 0, 0, 0, 0, 0, 0, 0, 0, 0, 0, 0, 0, 0, 0, 60, 0, 0, 0, 0, 0, 0, 0, 0, 0, 0, 0, 0, 0, 0, 0, 0, 0, 0, 0, 0, 0, 0, 0, 0, 0, 0, 0, 0, 0, 0, 0, 0, 0, 0, 0, 0, 0, 0, 0, 0, 0, 0, 13, 0, 0, 0, 0, 0, 0, 0, 0, 0, 0, 0, 0, 0, 0, 0, 0, 0, 0, 0, 23, 0, 0, 0, 0, 0, 0, 0, 0, 0, 0, 0, 0, 0, 0, 0, 0, 0, 0, 0, 0, 0, 0, 0, 0, 0, 0, 0, 0, 0, 0, 0, 3000, 0, 0, 0, 0, 0, 0, 0, 0, 0, 0, 0, 0, 0, 0, 0, 0, 0, 0, 0, 0, 0, 0, 0, 0, 0, 0, 0, 0, 0, 0, 0]
def cd_alen (k : Nat) : Nat := cd_alens.getD k 0
def cd_pools : List Nat := [1, 1, 1, 1, 1, 196, 197, 8, 1, 60, 1, 1]
def cd_pool (c : Nat) : Nat := cd_pools.getD c 0
abbrev cI (s : cd_S) (f i : Nat) : Int32 := s.1 f i
abbrev cJ (s : cd_S) (f i : Nat) : Int64 := s.2.1 f i
abbrev cAr (s : cd_S) (f i : Nat) : Nat → Int32 := s.2.2.1 f i
abbrev cLr (s : cd_S) (f i : Nat) : Nat → Int64 := s.2.2.2.1 f i
abbrev cP (s : cd_S) (f i : Nat) : Nat := s.2.2.2.2.1 f i
abbrev cRC (s : cd_S) (i : Nat) : Nat := s.2.2.2.2.2.1 i
abbrev cRF (s : cd_S) (i : Nat) : Nat → Int64 := s.2.2.2.2.2.2 i
def cSI (s : cd_S) (f i : Nat) (v : Int32) : cd_S := (fun f' i' => if f' = f ∧ i' = i then v else s.1 f' i', s.2)
def cSJ (s : cd_S) (f i : Nat) (v : Int64) : cd_S := (s.1, fun f' i' => if f' = f ∧ i' = i then v else s.2.1 f' i', s.2.2)
def cSA (s : cd_S) (f i j : Nat) (v : Int32) : cd_S := (s.1, s.2.1, fun f' i' => if f' = f ∧ i' = i then upd (s.2.2.1 f i) j v else s.2.2.1 f' i', s.2.2.2)
def cSL (s : cd_S) (f i j : Nat) (v : Int64) : cd_S := (s.1, s.2.1, s.2.2.1, fun f' i' => if f' = f ∧ i' = i then vp_updL (s.2.2.2.1 f i) j v else s.2.2.2.1 f' i', s.2.2.2.2)
def cSP (s : cd_S) (f i v : Nat) : cd_S := (s.1, s.2.1, s.2.2.1, s.2.2.2.1, fun f' i' => if f' = f ∧ i' = i then v else s.2.2.2.2.1 f' i', s.2.2.2.2.2)
def cSF (s : cd_S) (i j : Nat) (v : Int64) : cd_S := (s.1, s.2.1, s.2.2.1, s.2.2.2.1, s.2.2.2.2.1, s.2.2.2.2.2.1, fun i' => if i' = i then vp_updL (s.2.2.2.2.2.2 i) j v else s.2.2.2.2.2.2 i')
def cSG (s : cd_S) (i n : Nat) (g : Nat → Int64) : cd_S := (s.1, s.2.1, s.2.2.1, s.2.2.2.1, s.2.2.2.2.1, (fun i' => if i' = i then n else s.2.2.2.2.2.1 i'), fun i' => if i' = i then g else s.2.2.2.2.2.2 i')
def cldA (s : cd_S) (f i : Nat) (j : Int32) : Option Int32 := if 0 ≤ j.toInt ∧ j.toInt < (cd_alen f : Int) then some (s.2.2.1 f i j.toNatClampNeg) else none
def cldL (s : cd_S) (f i : Nat) (j : Int32) : Option Int64 := if 0 ≤ j.toInt ∧ j.toInt < (cd_alen f : Int) then some (s.2.2.2.1 f i j.toNatClampNeg) else none
def cldF (s : cd_S) (i : Nat) (j : Int32) : Option Int64 := if 0 ≤ j.toInt ∧ j.toInt < (s.2.2.2.2.2.1 i : Int) then some (s.2.2.2.2.2.2 i j.toNatClampNeg) else none
def cldR (f : Nat) (j : Int32) : Option Nat := if 0 ≤ j.toInt ∧ j.toInt < (cd_alen f : Int) then some (cd_ob f + j.toNatClampNeg) else none
def cstA (s : cd_S) (f i : Nat) (j v : Int32) : Option cd_S := if 0 ≤ j.toInt ∧ j.toInt < (cd_alen f : Int) then some (cSA s f i j.toNatClampNeg v) else none
def cstB (s : cd_S) (f i : Nat) (j v : Int32) : Option cd_S := if 0 ≤ j.toInt ∧ j.toInt < (cd_alen f : Int) then some (cSA s f i j.toNatClampNeg (vp_nar .byte v)) else none
def cstZ (s : cd_S) (f i : Nat) (j v : Int32) : Option cd_S := if 0 ≤ j.toInt ∧ j.toInt < (cd_alen f : Int) then some (cSA s f i j.toNatClampNeg (vp_nar .boolean v)) else none
def cstL (s : cd_S) (f i : Nat) (j : Int32) (v : Int64) : Option cd_S := if 0 ≤ j.toInt ∧ j.toInt < (cd_alen f : Int) then some (cSL s f i j.toNatClampNeg v) else none
def cstF (s : cd_S) (i : Nat) (j : Int32) (v : Int64) : Option cd_S := if 0 ≤ j.toInt ∧ j.toInt < (s.2.2.2.2.2.1 i : Int) then some (cSF s i j.toNatClampNeg v) else none
/-- the object that a field leads to, if it leads to one -/
def cd_dp (s : cd_S) (f i : Nat) : Option Nat := if 1 ≤ s.2.2.2.2.1 f i ∧ s.2.2.2.2.1 f i ≤ cd_pool (cd_oc f) then some (s.2.2.2.2.1 f i - 1) else none
def cd_tx (s : cd_S) : Option Nat := if s.2.2.2.2.1 323 0 = 1 then some 0 else none
/-- a check that what is left of the room at the end is no more than now -/
def cd_ck {α : Type} (fb : α → cd_B) (b : cd_B) (r : Option α) : Option α := Option.bind r fun q => if (fb q).1 ≤ b.1 ∧ (fb q).2 ≤ b.2 then some q else none
abbrev cd_R : Type := Nat → Int64 → Int32 → Int32 → cd_S → cd_B → Option ((Int32 × cd_S × cd_B) ⊕ (cd_S × cd_B))
def cd_ops : Nat → Int32 := fun i => ([1, 0, 1, 1, 1, 1, 1, 2, 1, 1, 1, 0, 0, 0, 0, 0, 0, 1, 1, 1, 0, 0, 0, 0, 0, 1, 1, 0, 0] : List Int32).getD i 0
def cd_sgb : Nat → Int32 := fun i => ([123, 125, 40, 41, 91, 93, 44, 59, 58, 61, 46, 43, 45, 42, 60] : List Int32).getD i 0
def cd_opl (i : Int32) : Option Int32 := if 0 ≤ i.toInt ∧ i.toInt < 29 then some (cd_ops i.toNatClampNeg) else none
/-- where a byte stands among the signs -/
def cd_sg (c : Int32) : Option Int32 := if 0 ≤ c.toInt ∧ c.toInt < 256 then some (st_fc cd_sgb c.toInt8.toInt32 15 0) else none
def cd_use (b : cd_B) (c s : Nat) : Option cd_B := if c ≤ b.1 ∧ s ≤ b.2 then some (b.1 - c, b.2 - s) else none
/-- a row's cells made anew -/
def cd_grow (s : cd_S) (b : cd_B) (i : Nat) (N : Int32) : Option (cd_S × cd_B) :=
  if 0 ≤ N.toInt ∧ (cRC s i : Int) < N.toInt ∧ N.toInt ≤ 4000000 ∧ 1 ≤ b.1 ∧ N.toNatClampNeg ≤ b.2 then some (cSG s i N.toNatClampNeg (fun j => if j < cRC s i then cRF s i j else 0), (b.1 - 1, b.2 - N.toNatClampNeg)) else none
