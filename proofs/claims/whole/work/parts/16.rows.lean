/-! ROWS OF THE TWO OBJECTS' HEAP -/
section Rows
variable {E : aE} {M : Nat} {c : List Instr} {L S : List Value} {mi : Nat → Nat → Int32} {ml : Nat → Nat → Int64}
theorem e_getf {x k : Nat} {v : Value} (ho : am_obj (HH mi ml) k (x / 64) = true) (hv : am_fv (HH mi ml) (x / 64) k (x % 64) = v) : ev E M (.getfield x :: c) L (.ref k :: S) (HH mi ml) = ev E M c L (v :: S) (HH mi ml) := ev_go (by simp only [am_step, ho, hv]; rfl)
def am_isR (t : FieldType) : Bool := match t with
  | .object _ => true
  | .array _ => true
  | _ => false
theorem e_getR {x k j : Nat} (ho : am_obj (HH mi ml) k (x / 64) = true) (ht : am_isR (am_ty (x / 64) (x % 64)) = true) (hm : am_MR k (x % 64) = some j) : ev E M (.getfield x :: c) L (.ref k :: S) (HH mi ml) = ev E M c L (.ref j :: S) (HH mi ml) := by
  refine e_getf ho ?_
  unfold am_fv HH
  dsimp only
  rw [hm]
  unfold am_isR at ht
  split <;> first | rfl | (simp_all; done)
theorem e_putf {x k : Nat} {v : Value} {mi2 : Nat → Nat → Int32} {ml2 : Nat → Nat → Int64} (ho : am_obj (HH mi ml) k (x / 64) = true) (hv : am_pf (HH mi ml) (x / 64) k (x % 64) v = some (HH mi2 ml2)) : ev E M (.putfield x :: c) L (v :: .ref k :: S) (HH mi ml) = ev E M c L S (HH mi2 ml2) := ev_go (by simp only [am_step, ho, hv]; rfl)
theorem am_HHr : (HH mi ml).2.1 = am_MR := rfl
theorem am_nI_in {j n : Nat} (h : j < n) (hn : n < 2 ^ 31) : am_inB (nI j) n = true := by
  have h1 := nI_in h hn
  unfold am_inB
  simp only [Bool.not_eq_true', Bool.or_eq_false_iff, decide_eq_false_iff_not]
  exact ⟨fun q => h1 (Or.inl q), fun q => h1 (Or.inr q)⟩
theorem g_0_34 : ev E M (.getfield 0 :: c) L (.ref 34 :: S) (HH mi ml) = ev E M c L (.ref 35 :: S) (HH mi ml) := e_getR rfl rfl (am_MRt (by decide +kernel))
theorem g_1_34 : ev E M (.getfield 1 :: c) L (.ref 34 :: S) (HH mi ml) = ev E M c L (.ref 36 :: S) (HH mi ml) := e_getR rfl rfl (am_MRt (by decide +kernel))
theorem g_2_34 : ev E M (.getfield 2 :: c) L (.ref 34 :: S) (HH mi ml) = ev E M c L (.ref 37 :: S) (HH mi ml) := e_getR rfl rfl (am_MRt (by decide +kernel))
theorem g_3_34 : ev E M (.getfield 3 :: c) L (.ref 34 :: S) (HH mi ml) = ev E M c L (.ref 38 :: S) (HH mi ml) := e_getR rfl rfl (am_MRt (by decide +kernel))
theorem g_4_34 : ev E M (.getfield 4 :: c) L (.ref 34 :: S) (HH mi ml) = ev E M c L (.ref 39 :: S) (HH mi ml) := e_getR rfl rfl (am_MRt (by decide +kernel))
theorem g_5_34 : ev E M (.getfield 5 :: c) L (.ref 34 :: S) (HH mi ml) = ev E M c L (.int (mi 34 5) :: S) (HH mi ml) := e_getf rfl rfl
theorem p_5_34 {v : Int32} : ev E M (.putfield 5 :: c) L (.int v :: .ref 34 :: S) (HH mi ml) = ev E M c L S (HH (am_up mi 34 5 v) ml) := e_putf rfl rfl
theorem g_6_34 : ev E M (.getfield 6 :: c) L (.ref 34 :: S) (HH mi ml) = ev E M c L (.ref 40 :: S) (HH mi ml) := e_getR rfl rfl (am_MRt (by decide +kernel))
theorem g_7_34 : ev E M (.getfield 7 :: c) L (.ref 34 :: S) (HH mi ml) = ev E M c L (.ref 41 :: S) (HH mi ml) := e_getR rfl rfl (am_MRt (by decide +kernel))
theorem g_8_34 : ev E M (.getfield 8 :: c) L (.ref 34 :: S) (HH mi ml) = ev E M c L (.ref 42 :: S) (HH mi ml) := e_getR rfl rfl (am_MRt (by decide +kernel))
theorem g_9_34 : ev E M (.getfield 9 :: c) L (.ref 34 :: S) (HH mi ml) = ev E M c L (.ref 2 :: S) (HH mi ml) := e_getR rfl rfl (am_MRt (by decide +kernel))
theorem g_10_34 : ev E M (.getfield 10 :: c) L (.ref 34 :: S) (HH mi ml) = ev E M c L (.ref 43 :: S) (HH mi ml) := e_getR rfl rfl (am_MRt (by decide +kernel))
theorem g_11_34 : ev E M (.getfield 11 :: c) L (.ref 34 :: S) (HH mi ml) = ev E M c L (.ref 44 :: S) (HH mi ml) := e_getR rfl rfl (am_MRt (by decide +kernel))
theorem g_64_26 : ev E M (.getfield 64 :: c) L (.ref 26 :: S) (HH mi ml) = ev E M c L (.ref 34 :: S) (HH mi ml) := e_getR rfl rfl (am_MRt (by decide +kernel))
theorem g_65_26 : ev E M (.getfield 65 :: c) L (.ref 26 :: S) (HH mi ml) = ev E M c L (.ref 27 :: S) (HH mi ml) := e_getR rfl rfl (am_MRt (by decide +kernel))
theorem g_66_26 : ev E M (.getfield 66 :: c) L (.ref 26 :: S) (HH mi ml) = ev E M c L (.int (mi 26 2) :: S) (HH mi ml) := e_getf rfl rfl
theorem p_66_26 {v : Int32} : ev E M (.putfield 66 :: c) L (.int v :: .ref 26 :: S) (HH mi ml) = ev E M c L S (HH (am_up mi 26 2 v) ml) := e_putf rfl rfl
theorem g_67_26 : ev E M (.getfield 67 :: c) L (.ref 26 :: S) (HH mi ml) = ev E M c L (.int (mi 26 3) :: S) (HH mi ml) := e_getf rfl rfl
theorem p_67_26 {v : Int32} : ev E M (.putfield 67 :: c) L (.int v :: .ref 26 :: S) (HH mi ml) = ev E M c L S (HH (am_up mi 26 3 v) ml) := e_putf rfl rfl
theorem g_68_26 : ev E M (.getfield 68 :: c) L (.ref 26 :: S) (HH mi ml) = ev E M c L (.ref 28 :: S) (HH mi ml) := e_getR rfl rfl (am_MRt (by decide +kernel))
theorem g_69_26 : ev E M (.getfield 69 :: c) L (.ref 26 :: S) (HH mi ml) = ev E M c L (.ref 29 :: S) (HH mi ml) := e_getR rfl rfl (am_MRt (by decide +kernel))
theorem g_70_26 : ev E M (.getfield 70 :: c) L (.ref 26 :: S) (HH mi ml) = ev E M c L (.ref 30 :: S) (HH mi ml) := e_getR rfl rfl (am_MRt (by decide +kernel))
theorem g_71_26 : ev E M (.getfield 71 :: c) L (.ref 26 :: S) (HH mi ml) = ev E M c L (.int (mi 26 7) :: S) (HH mi ml) := e_getf rfl rfl
theorem p_71_26 {v : Int32} : ev E M (.putfield 71 :: c) L (.int v :: .ref 26 :: S) (HH mi ml) = ev E M c L S (HH (am_up mi 26 7 v) ml) := e_putf rfl rfl
theorem g_72_26 : ev E M (.getfield 72 :: c) L (.ref 26 :: S) (HH mi ml) = ev E M c L (.int (mi 26 8) :: S) (HH mi ml) := e_getf rfl rfl
theorem p_72_26 {v : Int32} (hv : v = 0 ∨ v = 1) : ev E M (.putfield 72 :: c) L (.int v :: .ref 26 :: S) (HH mi ml) = ev E M c L S (HH (am_up mi 26 8 v) ml) := e_putf rfl (by show (if v = 0 ∨ v = 1 then _ else none) = _; rw [if_pos hv]; rfl)
theorem g_73_26 : ev E M (.getfield 73 :: c) L (.ref 26 :: S) (HH mi ml) = ev E M c L (.ref 1 :: S) (HH mi ml) := e_getR rfl rfl (am_MRt (by decide +kernel))
theorem g_74_26 : ev E M (.getfield 74 :: c) L (.ref 26 :: S) (HH mi ml) = ev E M c L (.ref 31 :: S) (HH mi ml) := e_getR rfl rfl (am_MRt (by decide +kernel))
theorem g_75_26 : ev E M (.getfield 75 :: c) L (.ref 26 :: S) (HH mi ml) = ev E M c L (.ref 32 :: S) (HH mi ml) := e_getR rfl rfl (am_MRt (by decide +kernel))
theorem g_76_26 : ev E M (.getfield 76 :: c) L (.ref 26 :: S) (HH mi ml) = ev E M c L (.ref 33 :: S) (HH mi ml) := e_getR rfl rfl (am_MRt (by decide +kernel))
theorem g_128_1 : ev E M (.getfield 128 :: c) L (.ref 1 :: S) (HH mi ml) = ev E M c L (.ref 2 :: S) (HH mi ml) := e_getR rfl rfl (am_MRt (by decide +kernel))
theorem g_129_1 : ev E M (.getfield 129 :: c) L (.ref 1 :: S) (HH mi ml) = ev E M c L (.ref 3 :: S) (HH mi ml) := e_getR rfl rfl (am_MRt (by decide +kernel))
theorem g_130_1 : ev E M (.getfield 130 :: c) L (.ref 1 :: S) (HH mi ml) = ev E M c L (.ref 4 :: S) (HH mi ml) := e_getR rfl rfl (am_MRt (by decide +kernel))
theorem g_131_1 : ev E M (.getfield 131 :: c) L (.ref 1 :: S) (HH mi ml) = ev E M c L (.ref 5 :: S) (HH mi ml) := e_getR rfl rfl (am_MRt (by decide +kernel))
theorem g_132_1 : ev E M (.getfield 132 :: c) L (.ref 1 :: S) (HH mi ml) = ev E M c L (.int (mi 1 4) :: S) (HH mi ml) := e_getf rfl rfl
theorem p_132_1 {v : Int32} : ev E M (.putfield 132 :: c) L (.int v :: .ref 1 :: S) (HH mi ml) = ev E M c L S (HH (am_up mi 1 4 v) ml) := e_putf rfl rfl
theorem g_133_1 : ev E M (.getfield 133 :: c) L (.ref 1 :: S) (HH mi ml) = ev E M c L (.int (mi 1 5) :: S) (HH mi ml) := e_getf rfl rfl
theorem p_133_1 {v : Int32} : ev E M (.putfield 133 :: c) L (.int v :: .ref 1 :: S) (HH mi ml) = ev E M c L S (HH (am_up mi 1 5 v) ml) := e_putf rfl rfl
theorem g_192_45 : ev E M (.getfield 192 :: c) L (.ref 45 :: S) (HH mi ml) = ev E M c L (.ref 46 :: S) (HH mi ml) := e_getR rfl rfl (am_MRt (by decide +kernel))
theorem g_192_48 : ev E M (.getfield 192 :: c) L (.ref 48 :: S) (HH mi ml) = ev E M c L (.ref 49 :: S) (HH mi ml) := e_getR rfl rfl (am_MRt (by decide +kernel))
theorem gs_f192 {d : Nat} (hd : d < 2) : ev E M (.getfield 192 :: c) L (.ref (45 + 3 * d) :: S) (HH mi ml) = ev E M c L (.ref (46 + 3 * d) :: S) (HH mi ml) := by rcases (show d = 0 ∨ d = 1 by omega) with rfl | rfl <;> first | exact g_192_45 | exact g_192_48
theorem g_193_45 : ev E M (.getfield 193 :: c) L (.ref 45 :: S) (HH mi ml) = ev E M c L (.ref 47 :: S) (HH mi ml) := e_getR rfl rfl (am_MRt (by decide +kernel))
theorem g_193_48 : ev E M (.getfield 193 :: c) L (.ref 48 :: S) (HH mi ml) = ev E M c L (.ref 50 :: S) (HH mi ml) := e_getR rfl rfl (am_MRt (by decide +kernel))
theorem gs_f193 {d : Nat} (hd : d < 2) : ev E M (.getfield 193 :: c) L (.ref (45 + 3 * d) :: S) (HH mi ml) = ev E M c L (.ref (47 + 3 * d) :: S) (HH mi ml) := by rcases (show d = 0 ∨ d = 1 by omega) with rfl | rfl <;> first | exact g_193_45 | exact g_193_48
theorem g_194_45 : ev E M (.getfield 194 :: c) L (.ref 45 :: S) (HH mi ml) = ev E M c L (.int (mi 45 2) :: S) (HH mi ml) := e_getf rfl rfl
theorem p_194_45 {v : Int32} (hv : v = 0 ∨ v = 1) : ev E M (.putfield 194 :: c) L (.int v :: .ref 45 :: S) (HH mi ml) = ev E M c L S (HH (am_up mi 45 2 v) ml) := e_putf rfl (by show (if v = 0 ∨ v = 1 then _ else none) = _; rw [if_pos hv]; rfl)
theorem g_194_48 : ev E M (.getfield 194 :: c) L (.ref 48 :: S) (HH mi ml) = ev E M c L (.int (mi 48 2) :: S) (HH mi ml) := e_getf rfl rfl
theorem p_194_48 {v : Int32} (hv : v = 0 ∨ v = 1) : ev E M (.putfield 194 :: c) L (.int v :: .ref 48 :: S) (HH mi ml) = ev E M c L S (HH (am_up mi 48 2 v) ml) := e_putf rfl (by show (if v = 0 ∨ v = 1 then _ else none) = _; rw [if_pos hv]; rfl)
theorem gs_f194 {d : Nat} (hd : d < 2) : ev E M (.getfield 194 :: c) L (.ref (45 + 3 * d) :: S) (HH mi ml) = ev E M c L (.int (mi (45 + 3 * d) 2) :: S) (HH mi ml) := by rcases (show d = 0 ∨ d = 1 by omega) with rfl | rfl <;> first | exact g_194_45 | exact g_194_48
theorem ps_f194 {d : Nat} {v : Int32} (hd : d < 2) (hv : v = 0 ∨ v = 1) : ev E M (.putfield 194 :: c) L (.int v :: .ref (45 + 3 * d) :: S) (HH mi ml) = ev E M c L S (HH (am_up mi (45 + 3 * d) 2 v) ml) := by rcases (show d = 0 ∨ d = 1 by omega) with rfl | rfl <;> first | exact p_194_45 hv | exact p_194_48 hv
theorem g_256_27 : ev E M (.getfield 256 :: c) L (.ref 27 :: S) (HH mi ml) = ev E M c L (.long (ml 27 0) :: S) (HH mi ml) := e_getf rfl rfl
theorem p_256_27 {v : Int64} : ev E M (.putfield 256 :: c) L (.long v :: .ref 27 :: S) (HH mi ml) = ev E M c L S (HH mi (am_up ml 27 0 v)) := e_putf rfl rfl
theorem g_256_28 : ev E M (.getfield 256 :: c) L (.ref 28 :: S) (HH mi ml) = ev E M c L (.long (ml 28 0) :: S) (HH mi ml) := e_getf rfl rfl
theorem p_256_28 {v : Int64} : ev E M (.putfield 256 :: c) L (.long v :: .ref 28 :: S) (HH mi ml) = ev E M c L S (HH mi (am_up ml 28 0 v)) := e_putf rfl rfl
theorem g_256_30 : ev E M (.getfield 256 :: c) L (.ref 30 :: S) (HH mi ml) = ev E M c L (.long (ml 30 0) :: S) (HH mi ml) := e_getf rfl rfl
theorem p_256_30 {v : Int64} : ev E M (.putfield 256 :: c) L (.long v :: .ref 30 :: S) (HH mi ml) = ev E M c L S (HH mi (am_up ml 30 0 v)) := e_putf rfl rfl
theorem g_256_31 : ev E M (.getfield 256 :: c) L (.ref 31 :: S) (HH mi ml) = ev E M c L (.long (ml 31 0) :: S) (HH mi ml) := e_getf rfl rfl
theorem p_256_31 {v : Int64} : ev E M (.putfield 256 :: c) L (.long v :: .ref 31 :: S) (HH mi ml) = ev E M c L S (HH mi (am_up ml 31 0 v)) := e_putf rfl rfl
theorem g_256_32 : ev E M (.getfield 256 :: c) L (.ref 32 :: S) (HH mi ml) = ev E M c L (.long (ml 32 0) :: S) (HH mi ml) := e_getf rfl rfl
theorem p_256_32 {v : Int64} : ev E M (.putfield 256 :: c) L (.long v :: .ref 32 :: S) (HH mi ml) = ev E M c L S (HH mi (am_up ml 32 0 v)) := e_putf rfl rfl
theorem g_256_43 : ev E M (.getfield 256 :: c) L (.ref 43 :: S) (HH mi ml) = ev E M c L (.long (ml 43 0) :: S) (HH mi ml) := e_getf rfl rfl
theorem p_256_43 {v : Int64} : ev E M (.putfield 256 :: c) L (.long v :: .ref 43 :: S) (HH mi ml) = ev E M c L S (HH mi (am_up ml 43 0 v)) := e_putf rfl rfl
theorem g_256_44 : ev E M (.getfield 256 :: c) L (.ref 44 :: S) (HH mi ml) = ev E M c L (.long (ml 44 0) :: S) (HH mi ml) := e_getf rfl rfl
theorem p_256_44 {v : Int64} : ev E M (.putfield 256 :: c) L (.long v :: .ref 44 :: S) (HH mi ml) = ev E M c L S (HH mi (am_up ml 44 0 v)) := e_putf rfl rfl
theorem g_256_46 : ev E M (.getfield 256 :: c) L (.ref 46 :: S) (HH mi ml) = ev E M c L (.long (ml 46 0) :: S) (HH mi ml) := e_getf rfl rfl
theorem p_256_46 {v : Int64} : ev E M (.putfield 256 :: c) L (.long v :: .ref 46 :: S) (HH mi ml) = ev E M c L S (HH mi (am_up ml 46 0 v)) := e_putf rfl rfl
theorem g_256_49 : ev E M (.getfield 256 :: c) L (.ref 49 :: S) (HH mi ml) = ev E M c L (.long (ml 49 0) :: S) (HH mi ml) := e_getf rfl rfl
theorem p_256_49 {v : Int64} : ev E M (.putfield 256 :: c) L (.long v :: .ref 49 :: S) (HH mi ml) = ev E M c L S (HH mi (am_up ml 49 0 v)) := e_putf rfl rfl
theorem g_256_60 : ev E M (.getfield 256 :: c) L (.ref 60 :: S) (HH mi ml) = ev E M c L (.long (ml 60 0) :: S) (HH mi ml) := e_getf rfl rfl
theorem p_256_60 {v : Int64} : ev E M (.putfield 256 :: c) L (.long v :: .ref 60 :: S) (HH mi ml) = ev E M c L S (HH mi (am_up ml 60 0 v)) := e_putf rfl rfl
theorem g_257_27 : ev E M (.getfield 257 :: c) L (.ref 27 :: S) (HH mi ml) = ev E M c L (.long (ml 27 1) :: S) (HH mi ml) := e_getf rfl rfl
theorem p_257_27 {v : Int64} : ev E M (.putfield 257 :: c) L (.long v :: .ref 27 :: S) (HH mi ml) = ev E M c L S (HH mi (am_up ml 27 1 v)) := e_putf rfl rfl
theorem g_257_28 : ev E M (.getfield 257 :: c) L (.ref 28 :: S) (HH mi ml) = ev E M c L (.long (ml 28 1) :: S) (HH mi ml) := e_getf rfl rfl
theorem p_257_28 {v : Int64} : ev E M (.putfield 257 :: c) L (.long v :: .ref 28 :: S) (HH mi ml) = ev E M c L S (HH mi (am_up ml 28 1 v)) := e_putf rfl rfl
theorem g_257_30 : ev E M (.getfield 257 :: c) L (.ref 30 :: S) (HH mi ml) = ev E M c L (.long (ml 30 1) :: S) (HH mi ml) := e_getf rfl rfl
theorem p_257_30 {v : Int64} : ev E M (.putfield 257 :: c) L (.long v :: .ref 30 :: S) (HH mi ml) = ev E M c L S (HH mi (am_up ml 30 1 v)) := e_putf rfl rfl
theorem g_257_31 : ev E M (.getfield 257 :: c) L (.ref 31 :: S) (HH mi ml) = ev E M c L (.long (ml 31 1) :: S) (HH mi ml) := e_getf rfl rfl
theorem p_257_31 {v : Int64} : ev E M (.putfield 257 :: c) L (.long v :: .ref 31 :: S) (HH mi ml) = ev E M c L S (HH mi (am_up ml 31 1 v)) := e_putf rfl rfl
theorem g_257_32 : ev E M (.getfield 257 :: c) L (.ref 32 :: S) (HH mi ml) = ev E M c L (.long (ml 32 1) :: S) (HH mi ml) := e_getf rfl rfl
theorem p_257_32 {v : Int64} : ev E M (.putfield 257 :: c) L (.long v :: .ref 32 :: S) (HH mi ml) = ev E M c L S (HH mi (am_up ml 32 1 v)) := e_putf rfl rfl
theorem g_257_43 : ev E M (.getfield 257 :: c) L (.ref 43 :: S) (HH mi ml) = ev E M c L (.long (ml 43 1) :: S) (HH mi ml) := e_getf rfl rfl
theorem p_257_43 {v : Int64} : ev E M (.putfield 257 :: c) L (.long v :: .ref 43 :: S) (HH mi ml) = ev E M c L S (HH mi (am_up ml 43 1 v)) := e_putf rfl rfl
theorem g_257_44 : ev E M (.getfield 257 :: c) L (.ref 44 :: S) (HH mi ml) = ev E M c L (.long (ml 44 1) :: S) (HH mi ml) := e_getf rfl rfl
theorem p_257_44 {v : Int64} : ev E M (.putfield 257 :: c) L (.long v :: .ref 44 :: S) (HH mi ml) = ev E M c L S (HH mi (am_up ml 44 1 v)) := e_putf rfl rfl
theorem g_257_46 : ev E M (.getfield 257 :: c) L (.ref 46 :: S) (HH mi ml) = ev E M c L (.long (ml 46 1) :: S) (HH mi ml) := e_getf rfl rfl
theorem p_257_46 {v : Int64} : ev E M (.putfield 257 :: c) L (.long v :: .ref 46 :: S) (HH mi ml) = ev E M c L S (HH mi (am_up ml 46 1 v)) := e_putf rfl rfl
theorem g_257_49 : ev E M (.getfield 257 :: c) L (.ref 49 :: S) (HH mi ml) = ev E M c L (.long (ml 49 1) :: S) (HH mi ml) := e_getf rfl rfl
theorem p_257_49 {v : Int64} : ev E M (.putfield 257 :: c) L (.long v :: .ref 49 :: S) (HH mi ml) = ev E M c L S (HH mi (am_up ml 49 1 v)) := e_putf rfl rfl
theorem g_257_60 : ev E M (.getfield 257 :: c) L (.ref 60 :: S) (HH mi ml) = ev E M c L (.long (ml 60 1) :: S) (HH mi ml) := e_getf rfl rfl
theorem p_257_60 {v : Int64} : ev E M (.putfield 257 :: c) L (.long v :: .ref 60 :: S) (HH mi ml) = ev E M c L S (HH mi (am_up ml 60 1 v)) := e_putf rfl rfl
theorem g_320_52 : ev E M (.getfield 320 :: c) L (.ref 52 :: S) (HH mi ml) = ev E M c L (.ref 53 :: S) (HH mi ml) := e_getR rfl rfl (am_MRt (by decide +kernel))
theorem g_320_54 : ev E M (.getfield 320 :: c) L (.ref 54 :: S) (HH mi ml) = ev E M c L (.ref 55 :: S) (HH mi ml) := e_getR rfl rfl (am_MRt (by decide +kernel))
theorem g_320_56 : ev E M (.getfield 320 :: c) L (.ref 56 :: S) (HH mi ml) = ev E M c L (.ref 57 :: S) (HH mi ml) := e_getR rfl rfl (am_MRt (by decide +kernel))
theorem g_320_58 : ev E M (.getfield 320 :: c) L (.ref 58 :: S) (HH mi ml) = ev E M c L (.ref 59 :: S) (HH mi ml) := e_getR rfl rfl (am_MRt (by decide +kernel))
theorem gs_f320 {d : Nat} (hd : d < 4) : ev E M (.getfield 320 :: c) L (.ref (52 + 2 * d) :: S) (HH mi ml) = ev E M c L (.ref (53 + 2 * d) :: S) (HH mi ml) := by rcases (show d = 0 ∨ d = 1 ∨ d = 2 ∨ d = 3 by omega) with rfl | rfl | rfl | rfl <;> first | exact g_320_52 | exact g_320_54 | exact g_320_56 | exact g_320_58
theorem g_321_52 : ev E M (.getfield 321 :: c) L (.ref 52 :: S) (HH mi ml) = ev E M c L (.int (mi 52 1) :: S) (HH mi ml) := e_getf rfl rfl
theorem p_321_52 {v : Int32} : ev E M (.putfield 321 :: c) L (.int v :: .ref 52 :: S) (HH mi ml) = ev E M c L S (HH (am_up mi 52 1 v) ml) := e_putf rfl rfl
theorem g_321_54 : ev E M (.getfield 321 :: c) L (.ref 54 :: S) (HH mi ml) = ev E M c L (.int (mi 54 1) :: S) (HH mi ml) := e_getf rfl rfl
theorem p_321_54 {v : Int32} : ev E M (.putfield 321 :: c) L (.int v :: .ref 54 :: S) (HH mi ml) = ev E M c L S (HH (am_up mi 54 1 v) ml) := e_putf rfl rfl
theorem g_321_56 : ev E M (.getfield 321 :: c) L (.ref 56 :: S) (HH mi ml) = ev E M c L (.int (mi 56 1) :: S) (HH mi ml) := e_getf rfl rfl
theorem p_321_56 {v : Int32} : ev E M (.putfield 321 :: c) L (.int v :: .ref 56 :: S) (HH mi ml) = ev E M c L S (HH (am_up mi 56 1 v) ml) := e_putf rfl rfl
theorem g_321_58 : ev E M (.getfield 321 :: c) L (.ref 58 :: S) (HH mi ml) = ev E M c L (.int (mi 58 1) :: S) (HH mi ml) := e_getf rfl rfl
theorem p_321_58 {v : Int32} : ev E M (.putfield 321 :: c) L (.int v :: .ref 58 :: S) (HH mi ml) = ev E M c L S (HH (am_up mi 58 1 v) ml) := e_putf rfl rfl
theorem gs_f321 {d : Nat} (hd : d < 4) : ev E M (.getfield 321 :: c) L (.ref (52 + 2 * d) :: S) (HH mi ml) = ev E M c L (.int (mi (52 + 2 * d) 1) :: S) (HH mi ml) := by rcases (show d = 0 ∨ d = 1 ∨ d = 2 ∨ d = 3 by omega) with rfl | rfl | rfl | rfl <;> first | exact g_321_52 | exact g_321_54 | exact g_321_56 | exact g_321_58
theorem ps_f321 {d : Nat} {v : Int32} (hd : d < 4) : ev E M (.putfield 321 :: c) L (.int v :: .ref (52 + 2 * d) :: S) (HH mi ml) = ev E M c L S (HH (am_up mi (52 + 2 * d) 1 v) ml) := by rcases (show d = 0 ∨ d = 1 ∨ d = 2 ∨ d = 3 by omega) with rfl | rfl | rfl | rfl <;> first | exact p_321_52 | exact p_321_54 | exact p_321_56 | exact p_321_58
theorem g_322_52 : ev E M (.getfield 322 :: c) L (.ref 52 :: S) (HH mi ml) = ev E M c L (.int (mi 52 2) :: S) (HH mi ml) := e_getf rfl rfl
theorem p_322_52 {v : Int32} : ev E M (.putfield 322 :: c) L (.int v :: .ref 52 :: S) (HH mi ml) = ev E M c L S (HH (am_up mi 52 2 v) ml) := e_putf rfl rfl
theorem g_322_54 : ev E M (.getfield 322 :: c) L (.ref 54 :: S) (HH mi ml) = ev E M c L (.int (mi 54 2) :: S) (HH mi ml) := e_getf rfl rfl
theorem p_322_54 {v : Int32} : ev E M (.putfield 322 :: c) L (.int v :: .ref 54 :: S) (HH mi ml) = ev E M c L S (HH (am_up mi 54 2 v) ml) := e_putf rfl rfl
theorem g_322_56 : ev E M (.getfield 322 :: c) L (.ref 56 :: S) (HH mi ml) = ev E M c L (.int (mi 56 2) :: S) (HH mi ml) := e_getf rfl rfl
theorem p_322_56 {v : Int32} : ev E M (.putfield 322 :: c) L (.int v :: .ref 56 :: S) (HH mi ml) = ev E M c L S (HH (am_up mi 56 2 v) ml) := e_putf rfl rfl
theorem g_322_58 : ev E M (.getfield 322 :: c) L (.ref 58 :: S) (HH mi ml) = ev E M c L (.int (mi 58 2) :: S) (HH mi ml) := e_getf rfl rfl
theorem p_322_58 {v : Int32} : ev E M (.putfield 322 :: c) L (.int v :: .ref 58 :: S) (HH mi ml) = ev E M c L S (HH (am_up mi 58 2 v) ml) := e_putf rfl rfl
theorem gs_f322 {d : Nat} (hd : d < 4) : ev E M (.getfield 322 :: c) L (.ref (52 + 2 * d) :: S) (HH mi ml) = ev E M c L (.int (mi (52 + 2 * d) 2) :: S) (HH mi ml) := by rcases (show d = 0 ∨ d = 1 ∨ d = 2 ∨ d = 3 by omega) with rfl | rfl | rfl | rfl <;> first | exact g_322_52 | exact g_322_54 | exact g_322_56 | exact g_322_58
theorem ps_f322 {d : Nat} {v : Int32} (hd : d < 4) : ev E M (.putfield 322 :: c) L (.int v :: .ref (52 + 2 * d) :: S) (HH mi ml) = ev E M c L S (HH (am_up mi (52 + 2 * d) 2 v) ml) := by rcases (show d = 0 ∨ d = 1 ∨ d = 2 ∨ d = 3 by omega) with rfl | rfl | rfl | rfl <;> first | exact p_322_52 | exact p_322_54 | exact p_322_56 | exact p_322_58
theorem g_384_6 : ev E M (.getfield 384 :: c) L (.ref 6 :: S) (HH mi ml) = ev E M c L (.int (mi 6 0) :: S) (HH mi ml) := e_getf rfl rfl
theorem p_384_6 {v : Int32} : ev E M (.putfield 384 :: c) L (.int v :: .ref 6 :: S) (HH mi ml) = ev E M c L S (HH (am_up mi 6 0 v) ml) := e_putf rfl rfl
theorem g_384_7 : ev E M (.getfield 384 :: c) L (.ref 7 :: S) (HH mi ml) = ev E M c L (.int (mi 7 0) :: S) (HH mi ml) := e_getf rfl rfl
theorem p_384_7 {v : Int32} : ev E M (.putfield 384 :: c) L (.int v :: .ref 7 :: S) (HH mi ml) = ev E M c L S (HH (am_up mi 7 0 v) ml) := e_putf rfl rfl
theorem g_384_8 : ev E M (.getfield 384 :: c) L (.ref 8 :: S) (HH mi ml) = ev E M c L (.int (mi 8 0) :: S) (HH mi ml) := e_getf rfl rfl
theorem p_384_8 {v : Int32} : ev E M (.putfield 384 :: c) L (.int v :: .ref 8 :: S) (HH mi ml) = ev E M c L S (HH (am_up mi 8 0 v) ml) := e_putf rfl rfl
theorem g_384_9 : ev E M (.getfield 384 :: c) L (.ref 9 :: S) (HH mi ml) = ev E M c L (.int (mi 9 0) :: S) (HH mi ml) := e_getf rfl rfl
theorem p_384_9 {v : Int32} : ev E M (.putfield 384 :: c) L (.int v :: .ref 9 :: S) (HH mi ml) = ev E M c L S (HH (am_up mi 9 0 v) ml) := e_putf rfl rfl
theorem g_384_10 : ev E M (.getfield 384 :: c) L (.ref 10 :: S) (HH mi ml) = ev E M c L (.int (mi 10 0) :: S) (HH mi ml) := e_getf rfl rfl
theorem p_384_10 {v : Int32} : ev E M (.putfield 384 :: c) L (.int v :: .ref 10 :: S) (HH mi ml) = ev E M c L S (HH (am_up mi 10 0 v) ml) := e_putf rfl rfl
theorem gs_f384 {d : Nat} (hd : d < 5) : ev E M (.getfield 384 :: c) L (.ref (6 + d) :: S) (HH mi ml) = ev E M c L (.int (mi (6 + d) 0) :: S) (HH mi ml) := by rcases (show d = 0 ∨ d = 1 ∨ d = 2 ∨ d = 3 ∨ d = 4 by omega) with rfl | rfl | rfl | rfl | rfl <;> first | exact g_384_6 | exact g_384_7 | exact g_384_8 | exact g_384_9 | exact g_384_10
theorem ps_f384 {d : Nat} {v : Int32} (hd : d < 5) : ev E M (.putfield 384 :: c) L (.int v :: .ref (6 + d) :: S) (HH mi ml) = ev E M c L S (HH (am_up mi (6 + d) 0 v) ml) := by rcases (show d = 0 ∨ d = 1 ∨ d = 2 ∨ d = 3 ∨ d = 4 by omega) with rfl | rfl | rfl | rfl | rfl <;> first | exact p_384_6 | exact p_384_7 | exact p_384_8 | exact p_384_9 | exact p_384_10
theorem g_385_6 : ev E M (.getfield 385 :: c) L (.ref 6 :: S) (HH mi ml) = ev E M c L (.int (mi 6 1) :: S) (HH mi ml) := e_getf rfl rfl
theorem p_385_6 {v : Int32} : ev E M (.putfield 385 :: c) L (.int v :: .ref 6 :: S) (HH mi ml) = ev E M c L S (HH (am_up mi 6 1 v) ml) := e_putf rfl rfl
theorem g_385_7 : ev E M (.getfield 385 :: c) L (.ref 7 :: S) (HH mi ml) = ev E M c L (.int (mi 7 1) :: S) (HH mi ml) := e_getf rfl rfl
theorem p_385_7 {v : Int32} : ev E M (.putfield 385 :: c) L (.int v :: .ref 7 :: S) (HH mi ml) = ev E M c L S (HH (am_up mi 7 1 v) ml) := e_putf rfl rfl
theorem g_385_8 : ev E M (.getfield 385 :: c) L (.ref 8 :: S) (HH mi ml) = ev E M c L (.int (mi 8 1) :: S) (HH mi ml) := e_getf rfl rfl
theorem p_385_8 {v : Int32} : ev E M (.putfield 385 :: c) L (.int v :: .ref 8 :: S) (HH mi ml) = ev E M c L S (HH (am_up mi 8 1 v) ml) := e_putf rfl rfl
theorem g_385_9 : ev E M (.getfield 385 :: c) L (.ref 9 :: S) (HH mi ml) = ev E M c L (.int (mi 9 1) :: S) (HH mi ml) := e_getf rfl rfl
theorem p_385_9 {v : Int32} : ev E M (.putfield 385 :: c) L (.int v :: .ref 9 :: S) (HH mi ml) = ev E M c L S (HH (am_up mi 9 1 v) ml) := e_putf rfl rfl
theorem g_385_10 : ev E M (.getfield 385 :: c) L (.ref 10 :: S) (HH mi ml) = ev E M c L (.int (mi 10 1) :: S) (HH mi ml) := e_getf rfl rfl
theorem p_385_10 {v : Int32} : ev E M (.putfield 385 :: c) L (.int v :: .ref 10 :: S) (HH mi ml) = ev E M c L S (HH (am_up mi 10 1 v) ml) := e_putf rfl rfl
theorem gs_f385 {d : Nat} (hd : d < 5) : ev E M (.getfield 385 :: c) L (.ref (6 + d) :: S) (HH mi ml) = ev E M c L (.int (mi (6 + d) 1) :: S) (HH mi ml) := by rcases (show d = 0 ∨ d = 1 ∨ d = 2 ∨ d = 3 ∨ d = 4 by omega) with rfl | rfl | rfl | rfl | rfl <;> first | exact g_385_6 | exact g_385_7 | exact g_385_8 | exact g_385_9 | exact g_385_10
theorem ps_f385 {d : Nat} {v : Int32} (hd : d < 5) : ev E M (.putfield 385 :: c) L (.int v :: .ref (6 + d) :: S) (HH mi ml) = ev E M c L S (HH (am_up mi (6 + d) 1 v) ml) := by rcases (show d = 0 ∨ d = 1 ∨ d = 2 ∨ d = 3 ∨ d = 4 by omega) with rfl | rfl | rfl | rfl | rfl <;> first | exact p_385_6 | exact p_385_7 | exact p_385_8 | exact p_385_9 | exact p_385_10
theorem g_386_6 : ev E M (.getfield 386 :: c) L (.ref 6 :: S) (HH mi ml) = ev E M c L (.int (mi 6 2) :: S) (HH mi ml) := e_getf rfl rfl
theorem p_386_6 {v : Int32} (hv : v = 0 ∨ v = 1) : ev E M (.putfield 386 :: c) L (.int v :: .ref 6 :: S) (HH mi ml) = ev E M c L S (HH (am_up mi 6 2 v) ml) := e_putf rfl (by show (if v = 0 ∨ v = 1 then _ else none) = _; rw [if_pos hv]; rfl)
theorem g_386_7 : ev E M (.getfield 386 :: c) L (.ref 7 :: S) (HH mi ml) = ev E M c L (.int (mi 7 2) :: S) (HH mi ml) := e_getf rfl rfl
theorem p_386_7 {v : Int32} (hv : v = 0 ∨ v = 1) : ev E M (.putfield 386 :: c) L (.int v :: .ref 7 :: S) (HH mi ml) = ev E M c L S (HH (am_up mi 7 2 v) ml) := e_putf rfl (by show (if v = 0 ∨ v = 1 then _ else none) = _; rw [if_pos hv]; rfl)
theorem g_386_8 : ev E M (.getfield 386 :: c) L (.ref 8 :: S) (HH mi ml) = ev E M c L (.int (mi 8 2) :: S) (HH mi ml) := e_getf rfl rfl
theorem p_386_8 {v : Int32} (hv : v = 0 ∨ v = 1) : ev E M (.putfield 386 :: c) L (.int v :: .ref 8 :: S) (HH mi ml) = ev E M c L S (HH (am_up mi 8 2 v) ml) := e_putf rfl (by show (if v = 0 ∨ v = 1 then _ else none) = _; rw [if_pos hv]; rfl)
theorem g_386_9 : ev E M (.getfield 386 :: c) L (.ref 9 :: S) (HH mi ml) = ev E M c L (.int (mi 9 2) :: S) (HH mi ml) := e_getf rfl rfl
theorem p_386_9 {v : Int32} (hv : v = 0 ∨ v = 1) : ev E M (.putfield 386 :: c) L (.int v :: .ref 9 :: S) (HH mi ml) = ev E M c L S (HH (am_up mi 9 2 v) ml) := e_putf rfl (by show (if v = 0 ∨ v = 1 then _ else none) = _; rw [if_pos hv]; rfl)
theorem g_386_10 : ev E M (.getfield 386 :: c) L (.ref 10 :: S) (HH mi ml) = ev E M c L (.int (mi 10 2) :: S) (HH mi ml) := e_getf rfl rfl
theorem p_386_10 {v : Int32} (hv : v = 0 ∨ v = 1) : ev E M (.putfield 386 :: c) L (.int v :: .ref 10 :: S) (HH mi ml) = ev E M c L S (HH (am_up mi 10 2 v) ml) := e_putf rfl (by show (if v = 0 ∨ v = 1 then _ else none) = _; rw [if_pos hv]; rfl)
theorem gs_f386 {d : Nat} (hd : d < 5) : ev E M (.getfield 386 :: c) L (.ref (6 + d) :: S) (HH mi ml) = ev E M c L (.int (mi (6 + d) 2) :: S) (HH mi ml) := by rcases (show d = 0 ∨ d = 1 ∨ d = 2 ∨ d = 3 ∨ d = 4 by omega) with rfl | rfl | rfl | rfl | rfl <;> first | exact g_386_6 | exact g_386_7 | exact g_386_8 | exact g_386_9 | exact g_386_10
theorem ps_f386 {d : Nat} {v : Int32} (hd : d < 5) (hv : v = 0 ∨ v = 1) : ev E M (.putfield 386 :: c) L (.int v :: .ref (6 + d) :: S) (HH mi ml) = ev E M c L S (HH (am_up mi (6 + d) 2 v) ml) := by rcases (show d = 0 ∨ d = 1 ∨ d = 2 ∨ d = 3 ∨ d = 4 by omega) with rfl | rfl | rfl | rfl | rfl <;> first | exact p_386_6 hv | exact p_386_7 hv | exact p_386_8 hv | exact p_386_9 hv | exact p_386_10 hv
theorem g_387_6 : ev E M (.getfield 387 :: c) L (.ref 6 :: S) (HH mi ml) = ev E M c L (.int (mi 6 3) :: S) (HH mi ml) := e_getf rfl rfl
theorem p_387_6 {v : Int32} : ev E M (.putfield 387 :: c) L (.int v :: .ref 6 :: S) (HH mi ml) = ev E M c L S (HH (am_up mi 6 3 v) ml) := e_putf rfl rfl
theorem g_387_7 : ev E M (.getfield 387 :: c) L (.ref 7 :: S) (HH mi ml) = ev E M c L (.int (mi 7 3) :: S) (HH mi ml) := e_getf rfl rfl
theorem p_387_7 {v : Int32} : ev E M (.putfield 387 :: c) L (.int v :: .ref 7 :: S) (HH mi ml) = ev E M c L S (HH (am_up mi 7 3 v) ml) := e_putf rfl rfl
theorem g_387_8 : ev E M (.getfield 387 :: c) L (.ref 8 :: S) (HH mi ml) = ev E M c L (.int (mi 8 3) :: S) (HH mi ml) := e_getf rfl rfl
theorem p_387_8 {v : Int32} : ev E M (.putfield 387 :: c) L (.int v :: .ref 8 :: S) (HH mi ml) = ev E M c L S (HH (am_up mi 8 3 v) ml) := e_putf rfl rfl
theorem g_387_9 : ev E M (.getfield 387 :: c) L (.ref 9 :: S) (HH mi ml) = ev E M c L (.int (mi 9 3) :: S) (HH mi ml) := e_getf rfl rfl
theorem p_387_9 {v : Int32} : ev E M (.putfield 387 :: c) L (.int v :: .ref 9 :: S) (HH mi ml) = ev E M c L S (HH (am_up mi 9 3 v) ml) := e_putf rfl rfl
theorem g_387_10 : ev E M (.getfield 387 :: c) L (.ref 10 :: S) (HH mi ml) = ev E M c L (.int (mi 10 3) :: S) (HH mi ml) := e_getf rfl rfl
theorem p_387_10 {v : Int32} : ev E M (.putfield 387 :: c) L (.int v :: .ref 10 :: S) (HH mi ml) = ev E M c L S (HH (am_up mi 10 3 v) ml) := e_putf rfl rfl
theorem gs_f387 {d : Nat} (hd : d < 5) : ev E M (.getfield 387 :: c) L (.ref (6 + d) :: S) (HH mi ml) = ev E M c L (.int (mi (6 + d) 3) :: S) (HH mi ml) := by rcases (show d = 0 ∨ d = 1 ∨ d = 2 ∨ d = 3 ∨ d = 4 by omega) with rfl | rfl | rfl | rfl | rfl <;> first | exact g_387_6 | exact g_387_7 | exact g_387_8 | exact g_387_9 | exact g_387_10
theorem ps_f387 {d : Nat} {v : Int32} (hd : d < 5) : ev E M (.putfield 387 :: c) L (.int v :: .ref (6 + d) :: S) (HH mi ml) = ev E M c L S (HH (am_up mi (6 + d) 3 v) ml) := by rcases (show d = 0 ∨ d = 1 ∨ d = 2 ∨ d = 3 ∨ d = 4 by omega) with rfl | rfl | rfl | rfl | rfl <;> first | exact p_387_6 | exact p_387_7 | exact p_387_8 | exact p_387_9 | exact p_387_10
theorem g_448_11 : ev E M (.getfield 448 :: c) L (.ref 11 :: S) (HH mi ml) = ev E M c L (.ref 12 :: S) (HH mi ml) := e_getR rfl rfl (am_MRt (by decide +kernel))
theorem g_448_14 : ev E M (.getfield 448 :: c) L (.ref 14 :: S) (HH mi ml) = ev E M c L (.ref 15 :: S) (HH mi ml) := e_getR rfl rfl (am_MRt (by decide +kernel))
theorem g_448_17 : ev E M (.getfield 448 :: c) L (.ref 17 :: S) (HH mi ml) = ev E M c L (.ref 18 :: S) (HH mi ml) := e_getR rfl rfl (am_MRt (by decide +kernel))
theorem g_448_20 : ev E M (.getfield 448 :: c) L (.ref 20 :: S) (HH mi ml) = ev E M c L (.ref 21 :: S) (HH mi ml) := e_getR rfl rfl (am_MRt (by decide +kernel))
theorem g_448_23 : ev E M (.getfield 448 :: c) L (.ref 23 :: S) (HH mi ml) = ev E M c L (.ref 24 :: S) (HH mi ml) := e_getR rfl rfl (am_MRt (by decide +kernel))
theorem gs_f448 {d : Nat} (hd : d < 5) : ev E M (.getfield 448 :: c) L (.ref (11 + 3 * d) :: S) (HH mi ml) = ev E M c L (.ref (12 + 3 * d) :: S) (HH mi ml) := by rcases (show d = 0 ∨ d = 1 ∨ d = 2 ∨ d = 3 ∨ d = 4 by omega) with rfl | rfl | rfl | rfl | rfl <;> first | exact g_448_11 | exact g_448_14 | exact g_448_17 | exact g_448_20 | exact g_448_23
theorem g_449_11 : ev E M (.getfield 449 :: c) L (.ref 11 :: S) (HH mi ml) = ev E M c L (.ref 13 :: S) (HH mi ml) := e_getR rfl rfl (am_MRt (by decide +kernel))
theorem g_449_14 : ev E M (.getfield 449 :: c) L (.ref 14 :: S) (HH mi ml) = ev E M c L (.ref 16 :: S) (HH mi ml) := e_getR rfl rfl (am_MRt (by decide +kernel))
theorem g_449_17 : ev E M (.getfield 449 :: c) L (.ref 17 :: S) (HH mi ml) = ev E M c L (.ref 19 :: S) (HH mi ml) := e_getR rfl rfl (am_MRt (by decide +kernel))
theorem g_449_20 : ev E M (.getfield 449 :: c) L (.ref 20 :: S) (HH mi ml) = ev E M c L (.ref 22 :: S) (HH mi ml) := e_getR rfl rfl (am_MRt (by decide +kernel))
theorem g_449_23 : ev E M (.getfield 449 :: c) L (.ref 23 :: S) (HH mi ml) = ev E M c L (.ref 25 :: S) (HH mi ml) := e_getR rfl rfl (am_MRt (by decide +kernel))
theorem gs_f449 {d : Nat} (hd : d < 5) : ev E M (.getfield 449 :: c) L (.ref (11 + 3 * d) :: S) (HH mi ml) = ev E M c L (.ref (13 + 3 * d) :: S) (HH mi ml) := by rcases (show d = 0 ∨ d = 1 ∨ d = 2 ∨ d = 3 ∨ d = 4 by omega) with rfl | rfl | rfl | rfl | rfl <;> first | exact g_449_11 | exact g_449_14 | exact g_449_17 | exact g_449_20 | exact g_449_23
theorem g_512_0 : ev E M (.getfield 512 :: c) L (.ref 0 :: S) (HH mi ml) = ev E M c L (.ref 1 :: S) (HH mi ml) := e_getR rfl rfl (am_MRt (by decide +kernel))
theorem g_513_0 : ev E M (.getfield 513 :: c) L (.ref 0 :: S) (HH mi ml) = ev E M c L (.ref 26 :: S) (HH mi ml) := e_getR rfl rfl (am_MRt (by decide +kernel))
theorem g_514_0 : ev E M (.getfield 514 :: c) L (.ref 0 :: S) (HH mi ml) = ev E M c L (.ref 51 :: S) (HH mi ml) := e_getR rfl rfl (am_MRt (by decide +kernel))
theorem g_515_0 : ev E M (.getfield 515 :: c) L (.ref 0 :: S) (HH mi ml) = ev E M c L (.ref 60 :: S) (HH mi ml) := e_getR rfl rfl (am_MRt (by decide +kernel))
theorem g_516_0 : ev E M (.getfield 516 :: c) L (.ref 0 :: S) (HH mi ml) = ev E M c L (.int (mi 0 4) :: S) (HH mi ml) := e_getf rfl rfl
theorem p_516_0 {v : Int32} : ev E M (.putfield 516 :: c) L (.int v :: .ref 0 :: S) (HH mi ml) = ev E M c L S (HH (am_up mi 0 4 v) ml) := e_putf rfl rfl
theorem g_517_0 : ev E M (.getfield 517 :: c) L (.ref 0 :: S) (HH mi ml) = ev E M c L (.int (mi 0 5) :: S) (HH mi ml) := e_getf rfl rfl
theorem p_517_0 {v : Int32} : ev E M (.putfield 517 :: c) L (.int v :: .ref 0 :: S) (HH mi ml) = ev E M c L S (HH (am_up mi 0 5 v) ml) := e_putf rfl rfl
theorem g_576_61 : ev E M (.getfield 576 :: c) L (.ref 61 :: S) (HH mi ml) = ev E M c L (.int (mi 61 0) :: S) (HH mi ml) := e_getf rfl rfl
theorem p_576_61 {v : Int32} : ev E M (.putfield 576 :: c) L (.int v :: .ref 61 :: S) (HH mi ml) = ev E M c L S (HH (am_up mi 61 0 v) ml) := e_putf rfl rfl
theorem g_577_61 : ev E M (.getfield 577 :: c) L (.ref 61 :: S) (HH mi ml) = ev E M c L (.int (mi 61 1) :: S) (HH mi ml) := e_getf rfl rfl
theorem p_577_61 {v : Int32} : ev E M (.putfield 577 :: c) L (.int v :: .ref 61 :: S) (HH mi ml) = ev E M c L S (HH (am_up mi 61 1 v) ml) := e_putf rfl rfl
theorem g_578_61 : ev E M (.getfield 578 :: c) L (.ref 61 :: S) (HH mi ml) = ev E M c L (.ref 62 :: S) (HH mi ml) := e_getR rfl rfl (am_MRt (by decide +kernel))
theorem g_579_61 : ev E M (.getfield 579 :: c) L (.ref 61 :: S) (HH mi ml) = ev E M c L (.int (mi 61 3) :: S) (HH mi ml) := e_getf rfl rfl
theorem p_579_61 {v : Int32} : ev E M (.putfield 579 :: c) L (.int v :: .ref 61 :: S) (HH mi ml) = ev E M c L S (HH (am_up mi 61 3 v) ml) := e_putf rfl rfl
theorem g_580_61 : ev E M (.getfield 580 :: c) L (.ref 61 :: S) (HH mi ml) = ev E M c L (.ref 63 :: S) (HH mi ml) := e_getR rfl rfl (am_MRt (by decide +kernel))
theorem g_581_61 : ev E M (.getfield 581 :: c) L (.ref 61 :: S) (HH mi ml) = ev E M c L (.ref 64 :: S) (HH mi ml) := e_getR rfl rfl (am_MRt (by decide +kernel))
theorem g_582_61 : ev E M (.getfield 582 :: c) L (.ref 61 :: S) (HH mi ml) = ev E M c L (.ref 65 :: S) (HH mi ml) := e_getR rfl rfl (am_MRt (by decide +kernel))
theorem g_583_61 : ev E M (.getfield 583 :: c) L (.ref 61 :: S) (HH mi ml) = ev E M c L (.ref 66 :: S) (HH mi ml) := e_getR rfl rfl (am_MRt (by decide +kernel))
theorem g_584_61 : ev E M (.getfield 584 :: c) L (.ref 61 :: S) (HH mi ml) = ev E M c L (.int (mi 61 8) :: S) (HH mi ml) := e_getf rfl rfl
theorem p_584_61 {v : Int32} : ev E M (.putfield 584 :: c) L (.int v :: .ref 61 :: S) (HH mi ml) = ev E M c L S (HH (am_up mi 61 8 v) ml) := e_putf rfl rfl
theorem g_585_61 : ev E M (.getfield 585 :: c) L (.ref 61 :: S) (HH mi ml) = ev E M c L (.ref 67 :: S) (HH mi ml) := e_getR rfl rfl (am_MRt (by decide +kernel))
theorem g_586_61 : ev E M (.getfield 586 :: c) L (.ref 61 :: S) (HH mi ml) = ev E M c L (.ref 68 :: S) (HH mi ml) := e_getR rfl rfl (am_MRt (by decide +kernel))
theorem g_587_61 : ev E M (.getfield 587 :: c) L (.ref 61 :: S) (HH mi ml) = ev E M c L (.ref 69 :: S) (HH mi ml) := e_getR rfl rfl (am_MRt (by decide +kernel))
theorem g_588_61 : ev E M (.getfield 588 :: c) L (.ref 61 :: S) (HH mi ml) = ev E M c L (.ref 70 :: S) (HH mi ml) := e_getR rfl rfl (am_MRt (by decide +kernel))
theorem g_589_61 : ev E M (.getfield 589 :: c) L (.ref 61 :: S) (HH mi ml) = ev E M c L (.ref 71 :: S) (HH mi ml) := e_getR rfl rfl (am_MRt (by decide +kernel))
theorem g_590_61 : ev E M (.getfield 590 :: c) L (.ref 61 :: S) (HH mi ml) = ev E M c L (.ref 72 :: S) (HH mi ml) := e_getR rfl rfl (am_MRt (by decide +kernel))
theorem g_591_61 : ev E M (.getfield 591 :: c) L (.ref 61 :: S) (HH mi ml) = ev E M c L (.int (mi 61 15) :: S) (HH mi ml) := e_getf rfl rfl
theorem p_591_61 {v : Int32} : ev E M (.putfield 591 :: c) L (.int v :: .ref 61 :: S) (HH mi ml) = ev E M c L S (HH (am_up mi 61 15 v) ml) := e_putf rfl rfl
theorem g_592_61 : ev E M (.getfield 592 :: c) L (.ref 61 :: S) (HH mi ml) = ev E M c L (.ref 73 :: S) (HH mi ml) := e_getR rfl rfl (am_MRt (by decide +kernel))
theorem g_593_61 : ev E M (.getfield 593 :: c) L (.ref 61 :: S) (HH mi ml) = ev E M c L (.ref 74 :: S) (HH mi ml) := e_getR rfl rfl (am_MRt (by decide +kernel))
theorem g_594_61 : ev E M (.getfield 594 :: c) L (.ref 61 :: S) (HH mi ml) = ev E M c L (.int (mi 61 18) :: S) (HH mi ml) := e_getf rfl rfl
theorem p_594_61 {v : Int32} : ev E M (.putfield 594 :: c) L (.int v :: .ref 61 :: S) (HH mi ml) = ev E M c L S (HH (am_up mi 61 18 v) ml) := e_putf rfl rfl
theorem g_595_61 : ev E M (.getfield 595 :: c) L (.ref 61 :: S) (HH mi ml) = ev E M c L (.long (ml 61 19) :: S) (HH mi ml) := e_getf rfl rfl
theorem p_595_61 {v : Int64} : ev E M (.putfield 595 :: c) L (.long v :: .ref 61 :: S) (HH mi ml) = ev E M c L S (HH mi (am_up ml 61 19 v)) := e_putf rfl rfl
theorem g_596_61 : ev E M (.getfield 596 :: c) L (.ref 61 :: S) (HH mi ml) = ev E M c L (.long (ml 61 20) :: S) (HH mi ml) := e_getf rfl rfl
theorem p_596_61 {v : Int64} : ev E M (.putfield 596 :: c) L (.long v :: .ref 61 :: S) (HH mi ml) = ev E M c L S (HH mi (am_up ml 61 20 v)) := e_putf rfl rfl
theorem g_597_61 : ev E M (.getfield 597 :: c) L (.ref 61 :: S) (HH mi ml) = ev E M c L (.ref 75 :: S) (HH mi ml) := e_getR rfl rfl (am_MRt (by decide +kernel))
theorem g_598_61 : ev E M (.getfield 598 :: c) L (.ref 61 :: S) (HH mi ml) = ev E M c L (.int (mi 61 22) :: S) (HH mi ml) := e_getf rfl rfl
theorem p_598_61 {v : Int32} (hv : v = 0 ∨ v = 1) : ev E M (.putfield 598 :: c) L (.int v :: .ref 61 :: S) (HH mi ml) = ev E M c L S (HH (am_up mi 61 22 v) ml) := e_putf rfl (by show (if v = 0 ∨ v = 1 then _ else none) = _; rw [if_pos hv]; rfl)
theorem g_599_61 : ev E M (.getfield 599 :: c) L (.ref 61 :: S) (HH mi ml) = ev E M c L (.long (ml 61 23) :: S) (HH mi ml) := e_getf rfl rfl
theorem p_599_61 {v : Int64} : ev E M (.putfield 599 :: c) L (.long v :: .ref 61 :: S) (HH mi ml) = ev E M c L S (HH mi (am_up ml 61 23 v)) := e_putf rfl rfl
theorem g_600_61 : ev E M (.getfield 600 :: c) L (.ref 61 :: S) (HH mi ml) = ev E M c L (.long (ml 61 24) :: S) (HH mi ml) := e_getf rfl rfl
theorem p_600_61 {v : Int64} : ev E M (.putfield 600 :: c) L (.long v :: .ref 61 :: S) (HH mi ml) = ev E M c L S (HH mi (am_up ml 61 24 v)) := e_putf rfl rfl
theorem g_601_61 : ev E M (.getfield 601 :: c) L (.ref 61 :: S) (HH mi ml) = ev E M c L (.int (mi 61 25) :: S) (HH mi ml) := e_getf rfl rfl
theorem p_601_61 {v : Int32} : ev E M (.putfield 601 :: c) L (.int v :: .ref 61 :: S) (HH mi ml) = ev E M c L S (HH (am_up mi 61 25 v) ml) := e_putf rfl rfl
theorem g_602_61 : ev E M (.getfield 602 :: c) L (.ref 61 :: S) (HH mi ml) = ev E M c L (.int (mi 61 26) :: S) (HH mi ml) := e_getf rfl rfl
theorem p_602_61 {v : Int32} : ev E M (.putfield 602 :: c) L (.int v :: .ref 61 :: S) (HH mi ml) = ev E M c L S (HH (am_up mi 61 26 v) ml) := e_putf rfl rfl
theorem g_603_61 : ev E M (.getfield 603 :: c) L (.ref 61 :: S) (HH mi ml) = ev E M c L (.long (ml 61 27) :: S) (HH mi ml) := e_getf rfl rfl
theorem p_603_61 {v : Int64} : ev E M (.putfield 603 :: c) L (.long v :: .ref 61 :: S) (HH mi ml) = ev E M c L S (HH mi (am_up ml 61 27 v)) := e_putf rfl rfl
theorem g_604_61 : ev E M (.getfield 604 :: c) L (.ref 61 :: S) (HH mi ml) = ev E M c L (.long (ml 61 28) :: S) (HH mi ml) := e_getf rfl rfl
theorem p_604_61 {v : Int64} : ev E M (.putfield 604 :: c) L (.long v :: .ref 61 :: S) (HH mi ml) = ev E M c L S (HH mi (am_up ml 61 28 v)) := e_putf rfl rfl
theorem g_605_61 : ev E M (.getfield 605 :: c) L (.ref 61 :: S) (HH mi ml) = ev E M c L (.ref 76 :: S) (HH mi ml) := e_getR rfl rfl (am_MRt (by decide +kernel))
theorem g_606_61 : ev E M (.getfield 606 :: c) L (.ref 61 :: S) (HH mi ml) = ev E M c L (.ref 77 :: S) (HH mi ml) := e_getR rfl rfl (am_MRt (by decide +kernel))
theorem g_607_61 : ev E M (.getfield 607 :: c) L (.ref 61 :: S) (HH mi ml) = ev E M c L (.long (ml 61 31) :: S) (HH mi ml) := e_getf rfl rfl
theorem p_607_61 {v : Int64} : ev E M (.putfield 607 :: c) L (.long v :: .ref 61 :: S) (HH mi ml) = ev E M c L S (HH mi (am_up ml 61 31 v)) := e_putf rfl rfl
theorem g_608_61 : ev E M (.getfield 608 :: c) L (.ref 61 :: S) (HH mi ml) = ev E M c L (.long (ml 61 32) :: S) (HH mi ml) := e_getf rfl rfl
theorem p_608_61 {v : Int64} : ev E M (.putfield 608 :: c) L (.long v :: .ref 61 :: S) (HH mi ml) = ev E M c L S (HH mi (am_up ml 61 32 v)) := e_putf rfl rfl
theorem g_609_61 : ev E M (.getfield 609 :: c) L (.ref 61 :: S) (HH mi ml) = ev E M c L (.int (mi 61 33) :: S) (HH mi ml) := e_getf rfl rfl
theorem p_609_61 {v : Int32} : ev E M (.putfield 609 :: c) L (.int v :: .ref 61 :: S) (HH mi ml) = ev E M c L S (HH (am_up mi 61 33 v) ml) := e_putf rfl rfl
theorem g_610_61 : ev E M (.getfield 610 :: c) L (.ref 61 :: S) (HH mi ml) = ev E M c L (.long (ml 61 34) :: S) (HH mi ml) := e_getf rfl rfl
theorem p_610_61 {v : Int64} : ev E M (.putfield 610 :: c) L (.long v :: .ref 61 :: S) (HH mi ml) = ev E M c L S (HH mi (am_up ml 61 34 v)) := e_putf rfl rfl
theorem g_611_61 : ev E M (.getfield 611 :: c) L (.ref 61 :: S) (HH mi ml) = ev E M c L (.long (ml 61 35) :: S) (HH mi ml) := e_getf rfl rfl
theorem p_611_61 {v : Int64} : ev E M (.putfield 611 :: c) L (.long v :: .ref 61 :: S) (HH mi ml) = ev E M c L S (HH mi (am_up ml 61 35 v)) := e_putf rfl rfl
theorem il_2 {j : Nat} (hj : j < 5) : ev E M (.iaload :: c) L (.int (nI j) :: .ref 2 :: S) (HH mi ml) = ev E M c L (.int (mi 2 j) :: S) (HH mi ml) := by
  rw [e_iald (n := 5) rfl (am_nI_in hj (by decide)), nI_clamp (by omega)]; rfl
theorem is_2 {j : Nat} {v : Int32} (hj : j < 5) : ev E M (.iastore :: c) L (.int v :: .int (nI j) :: .ref 2 :: S) (HH mi ml) = ev E M c L S (HH (am_up mi 2 j v) ml) := by
  rw [e_iast (n := 5) rfl (am_nI_in hj (by decide)), nI_clamp (by omega)]; rfl
theorem il_3 {j : Nat} (hj : j < 5) : ev E M (.aaload :: c) L (.int (nI j) :: .ref 3 :: S) (HH mi ml) = ev E M c L (.ref (6 + j) :: S) (HH mi ml) := by
  rw [e_aald (t := 3) (n := 5) rfl (by decide) (by decide) (am_nI_in hj (by decide)), nI_clamp (by omega), am_HHr]
  have hm : am_MR 3 j = some (6 + j) := by rcases (show j = 0 ∨ j = 1 ∨ j = 2 ∨ j = 3 ∨ j = 4 by omega) with rfl | rfl | rfl | rfl | rfl <;> exact am_MRt (by decide +kernel)
  rw [hm]
  rfl
theorem il_4 {j : Nat} (hj : j < 5) : ev E M (.aaload :: c) L (.int (nI j) :: .ref 4 :: S) (HH mi ml) = ev E M c L (.ref (11 + 3 * j) :: S) (HH mi ml) := by
  rw [e_aald (t := 4) (n := 5) rfl (by decide) (by decide) (am_nI_in hj (by decide)), nI_clamp (by omega), am_HHr]
  have hm : am_MR 4 j = some (11 + 3 * j) := by rcases (show j = 0 ∨ j = 1 ∨ j = 2 ∨ j = 3 ∨ j = 4 by omega) with rfl | rfl | rfl | rfl | rfl <;> exact am_MRt (by decide +kernel)
  rw [hm]
  rfl
theorem il_5 {j : Nat} (hj : j < 5) : ev E M (.iaload :: c) L (.int (nI j) :: .ref 5 :: S) (HH mi ml) = ev E M c L (.int (mi 5 j) :: S) (HH mi ml) := by
  rw [e_iald (n := 5) rfl (am_nI_in hj (by decide)), nI_clamp (by omega)]; rfl
theorem is_5 {j : Nat} {v : Int32} (hj : j < 5) : ev E M (.iastore :: c) L (.int v :: .int (nI j) :: .ref 5 :: S) (HH mi ml) = ev E M c L S (HH (am_up mi 5 j v) ml) := by
  rw [e_iast (n := 5) rfl (am_nI_in hj (by decide)), nI_clamp (by omega)]; rfl
theorem il_12 {j : Nat} (hj : j < 24) : ev E M (.iaload :: c) L (.int (nI j) :: .ref 12 :: S) (HH mi ml) = ev E M c L (.int (mi 12 j) :: S) (HH mi ml) := by
  rw [e_iald (n := 24) rfl (am_nI_in hj (by decide)), nI_clamp (by omega)]; rfl
theorem is_12 {j : Nat} {v : Int32} (hj : j < 24) : ev E M (.iastore :: c) L (.int v :: .int (nI j) :: .ref 12 :: S) (HH mi ml) = ev E M c L S (HH (am_up mi 12 j v) ml) := by
  rw [e_iast (n := 24) rfl (am_nI_in hj (by decide)), nI_clamp (by omega)]; rfl
theorem il_13 {j : Nat} (hj : j < 24) : ev E M (.iaload :: c) L (.int (nI j) :: .ref 13 :: S) (HH mi ml) = ev E M c L (.int (mi 13 j) :: S) (HH mi ml) := by
  rw [e_iald (n := 24) rfl (am_nI_in hj (by decide)), nI_clamp (by omega)]; rfl
theorem is_13 {j : Nat} {v : Int32} (hj : j < 24) : ev E M (.iastore :: c) L (.int v :: .int (nI j) :: .ref 13 :: S) (HH mi ml) = ev E M c L S (HH (am_up mi 13 j v) ml) := by
  rw [e_iast (n := 24) rfl (am_nI_in hj (by decide)), nI_clamp (by omega)]; rfl
theorem il_15 {j : Nat} (hj : j < 24) : ev E M (.iaload :: c) L (.int (nI j) :: .ref 15 :: S) (HH mi ml) = ev E M c L (.int (mi 15 j) :: S) (HH mi ml) := by
  rw [e_iald (n := 24) rfl (am_nI_in hj (by decide)), nI_clamp (by omega)]; rfl
theorem is_15 {j : Nat} {v : Int32} (hj : j < 24) : ev E M (.iastore :: c) L (.int v :: .int (nI j) :: .ref 15 :: S) (HH mi ml) = ev E M c L S (HH (am_up mi 15 j v) ml) := by
  rw [e_iast (n := 24) rfl (am_nI_in hj (by decide)), nI_clamp (by omega)]; rfl
theorem il_16 {j : Nat} (hj : j < 24) : ev E M (.iaload :: c) L (.int (nI j) :: .ref 16 :: S) (HH mi ml) = ev E M c L (.int (mi 16 j) :: S) (HH mi ml) := by
  rw [e_iald (n := 24) rfl (am_nI_in hj (by decide)), nI_clamp (by omega)]; rfl
theorem is_16 {j : Nat} {v : Int32} (hj : j < 24) : ev E M (.iastore :: c) L (.int v :: .int (nI j) :: .ref 16 :: S) (HH mi ml) = ev E M c L S (HH (am_up mi 16 j v) ml) := by
  rw [e_iast (n := 24) rfl (am_nI_in hj (by decide)), nI_clamp (by omega)]; rfl
theorem il_18 {j : Nat} (hj : j < 24) : ev E M (.iaload :: c) L (.int (nI j) :: .ref 18 :: S) (HH mi ml) = ev E M c L (.int (mi 18 j) :: S) (HH mi ml) := by
  rw [e_iald (n := 24) rfl (am_nI_in hj (by decide)), nI_clamp (by omega)]; rfl
theorem is_18 {j : Nat} {v : Int32} (hj : j < 24) : ev E M (.iastore :: c) L (.int v :: .int (nI j) :: .ref 18 :: S) (HH mi ml) = ev E M c L S (HH (am_up mi 18 j v) ml) := by
  rw [e_iast (n := 24) rfl (am_nI_in hj (by decide)), nI_clamp (by omega)]; rfl
theorem il_19 {j : Nat} (hj : j < 24) : ev E M (.iaload :: c) L (.int (nI j) :: .ref 19 :: S) (HH mi ml) = ev E M c L (.int (mi 19 j) :: S) (HH mi ml) := by
  rw [e_iald (n := 24) rfl (am_nI_in hj (by decide)), nI_clamp (by omega)]; rfl
theorem is_19 {j : Nat} {v : Int32} (hj : j < 24) : ev E M (.iastore :: c) L (.int v :: .int (nI j) :: .ref 19 :: S) (HH mi ml) = ev E M c L S (HH (am_up mi 19 j v) ml) := by
  rw [e_iast (n := 24) rfl (am_nI_in hj (by decide)), nI_clamp (by omega)]; rfl
theorem il_21 {j : Nat} (hj : j < 24) : ev E M (.iaload :: c) L (.int (nI j) :: .ref 21 :: S) (HH mi ml) = ev E M c L (.int (mi 21 j) :: S) (HH mi ml) := by
  rw [e_iald (n := 24) rfl (am_nI_in hj (by decide)), nI_clamp (by omega)]; rfl
theorem is_21 {j : Nat} {v : Int32} (hj : j < 24) : ev E M (.iastore :: c) L (.int v :: .int (nI j) :: .ref 21 :: S) (HH mi ml) = ev E M c L S (HH (am_up mi 21 j v) ml) := by
  rw [e_iast (n := 24) rfl (am_nI_in hj (by decide)), nI_clamp (by omega)]; rfl
theorem il_22 {j : Nat} (hj : j < 24) : ev E M (.iaload :: c) L (.int (nI j) :: .ref 22 :: S) (HH mi ml) = ev E M c L (.int (mi 22 j) :: S) (HH mi ml) := by
  rw [e_iald (n := 24) rfl (am_nI_in hj (by decide)), nI_clamp (by omega)]; rfl
theorem is_22 {j : Nat} {v : Int32} (hj : j < 24) : ev E M (.iastore :: c) L (.int v :: .int (nI j) :: .ref 22 :: S) (HH mi ml) = ev E M c L S (HH (am_up mi 22 j v) ml) := by
  rw [e_iast (n := 24) rfl (am_nI_in hj (by decide)), nI_clamp (by omega)]; rfl
theorem il_24 {j : Nat} (hj : j < 24) : ev E M (.iaload :: c) L (.int (nI j) :: .ref 24 :: S) (HH mi ml) = ev E M c L (.int (mi 24 j) :: S) (HH mi ml) := by
  rw [e_iald (n := 24) rfl (am_nI_in hj (by decide)), nI_clamp (by omega)]; rfl
theorem is_24 {j : Nat} {v : Int32} (hj : j < 24) : ev E M (.iastore :: c) L (.int v :: .int (nI j) :: .ref 24 :: S) (HH mi ml) = ev E M c L S (HH (am_up mi 24 j v) ml) := by
  rw [e_iast (n := 24) rfl (am_nI_in hj (by decide)), nI_clamp (by omega)]; rfl
theorem il_25 {j : Nat} (hj : j < 24) : ev E M (.iaload :: c) L (.int (nI j) :: .ref 25 :: S) (HH mi ml) = ev E M c L (.int (mi 25 j) :: S) (HH mi ml) := by
  rw [e_iald (n := 24) rfl (am_nI_in hj (by decide)), nI_clamp (by omega)]; rfl
theorem is_25 {j : Nat} {v : Int32} (hj : j < 24) : ev E M (.iastore :: c) L (.int v :: .int (nI j) :: .ref 25 :: S) (HH mi ml) = ev E M c L S (HH (am_up mi 25 j v) ml) := by
  rw [e_iast (n := 24) rfl (am_nI_in hj (by decide)), nI_clamp (by omega)]; rfl
theorem il_29 {j : Nat} (hj : j < 2) : ev E M (.aaload :: c) L (.int (nI j) :: .ref 29 :: S) (HH mi ml) = ev E M c L (.ref (45 + 3 * j) :: S) (HH mi ml) := by
  rw [e_aald (t := 5) (n := 2) rfl (by decide) (by decide) (am_nI_in hj (by decide)), nI_clamp (by omega), am_HHr]
  have hm : am_MR 29 j = some (45 + 3 * j) := by rcases (show j = 0 ∨ j = 1 by omega) with rfl | rfl <;> exact am_MRt (by decide +kernel)
  rw [hm]
  rfl
theorem il_33 {j : Nat} (hj : j < 5) : ev E M (.iaload :: c) L (.int (nI j) :: .ref 33 :: S) (HH mi ml) = ev E M c L (.int (mi 33 j) :: S) (HH mi ml) := by
  rw [e_iald (n := 5) rfl (am_nI_in hj (by decide)), nI_clamp (by omega)]; rfl
theorem is_33 {j : Nat} {v : Int32} (hj : j < 5) : ev E M (.iastore :: c) L (.int v :: .int (nI j) :: .ref 33 :: S) (HH mi ml) = ev E M c L S (HH (am_up mi 33 j v) ml) := by
  rw [e_iast (n := 5) rfl (am_nI_in hj (by decide)), nI_clamp (by omega)]; rfl
theorem il_35 {j : Nat} (hj : j < 5) : ev E M (.iaload :: c) L (.int (nI j) :: .ref 35 :: S) (HH mi ml) = ev E M c L (.int (mi 35 j) :: S) (HH mi ml) := by
  rw [e_iald (n := 5) rfl (am_nI_in hj (by decide)), nI_clamp (by omega)]; rfl
theorem is_35 {j : Nat} {v : Int32} (hj : j < 5) : ev E M (.iastore :: c) L (.int v :: .int (nI j) :: .ref 35 :: S) (HH mi ml) = ev E M c L S (HH (am_up mi 35 j v) ml) := by
  rw [e_iast (n := 5) rfl (am_nI_in hj (by decide)), nI_clamp (by omega)]; rfl
theorem il_36 {j : Nat} (hj : j < 5) : ev E M (.iaload :: c) L (.int (nI j) :: .ref 36 :: S) (HH mi ml) = ev E M c L (.int (mi 36 j) :: S) (HH mi ml) := by
  rw [e_iald (n := 5) rfl (am_nI_in hj (by decide)), nI_clamp (by omega)]; rfl
theorem is_36 {j : Nat} {v : Int32} (hj : j < 5) : ev E M (.iastore :: c) L (.int v :: .int (nI j) :: .ref 36 :: S) (HH mi ml) = ev E M c L S (HH (am_up mi 36 j v) ml) := by
  rw [e_iast (n := 5) rfl (am_nI_in hj (by decide)), nI_clamp (by omega)]; rfl
theorem il_37 {j : Nat} (hj : j < 5) : ev E M (.baload :: c) L (.int (nI j) :: .ref 37 :: S) (HH mi ml) = ev E M c L (.int (mi 37 j) :: S) (HH mi ml) := by
  rw [e_bald (n := 5) rfl (am_nI_in hj (by decide)), nI_clamp (by omega)]; rfl
theorem is_37 {j : Nat} {v : Int32} (hj : j < 5) (hv : v = 0 ∨ v = 1) : ev E M (.bastore :: c) L (.int v :: .int (nI j) :: .ref 37 :: S) (HH mi ml) = ev E M c L S (HH (am_up mi 37 j v) ml) := by
  rw [e_bast (n := 5) rfl (am_nI_in hj (by decide)) hv, nI_clamp (by omega)]; rfl
theorem il_38 {j : Nat} (hj : j < 5) : ev E M (.laload :: c) L (.int (nI j) :: .ref 38 :: S) (HH mi ml) = ev E M c L (.long (ml 38 j) :: S) (HH mi ml) := by
  rw [e_lald (n := 5) rfl (am_nI_in hj (by decide)), nI_clamp (by omega)]; rfl
theorem is_38 {j : Nat} {v : Int64} (hj : j < 5) : ev E M (.lastore :: c) L (.long v :: .int (nI j) :: .ref 38 :: S) (HH mi ml) = ev E M c L S (HH mi (am_up ml 38 j v)) := by
  rw [e_last (n := 5) rfl (am_nI_in hj (by decide)), nI_clamp (by omega)]; rfl
theorem il_39 {j : Nat} (hj : j < 5) : ev E M (.laload :: c) L (.int (nI j) :: .ref 39 :: S) (HH mi ml) = ev E M c L (.long (ml 39 j) :: S) (HH mi ml) := by
  rw [e_lald (n := 5) rfl (am_nI_in hj (by decide)), nI_clamp (by omega)]; rfl
theorem is_39 {j : Nat} {v : Int64} (hj : j < 5) : ev E M (.lastore :: c) L (.long v :: .int (nI j) :: .ref 39 :: S) (HH mi ml) = ev E M c L S (HH mi (am_up ml 39 j v)) := by
  rw [e_last (n := 5) rfl (am_nI_in hj (by decide)), nI_clamp (by omega)]; rfl
theorem il_40 {j : Nat} (hj : j < 5) : ev E M (.baload :: c) L (.int (nI j) :: .ref 40 :: S) (HH mi ml) = ev E M c L (.int (mi 40 j) :: S) (HH mi ml) := by
  rw [e_bald (n := 5) rfl (am_nI_in hj (by decide)), nI_clamp (by omega)]; rfl
theorem is_40 {j : Nat} {v : Int32} (hj : j < 5) (hv : v = 0 ∨ v = 1) : ev E M (.bastore :: c) L (.int v :: .int (nI j) :: .ref 40 :: S) (HH mi ml) = ev E M c L S (HH (am_up mi 40 j v) ml) := by
  rw [e_bast (n := 5) rfl (am_nI_in hj (by decide)) hv, nI_clamp (by omega)]; rfl
theorem il_41 {j : Nat} (hj : j < 5) : ev E M (.iaload :: c) L (.int (nI j) :: .ref 41 :: S) (HH mi ml) = ev E M c L (.int (mi 41 j) :: S) (HH mi ml) := by
  rw [e_iald (n := 5) rfl (am_nI_in hj (by decide)), nI_clamp (by omega)]; rfl
theorem is_41 {j : Nat} {v : Int32} (hj : j < 5) : ev E M (.iastore :: c) L (.int v :: .int (nI j) :: .ref 41 :: S) (HH mi ml) = ev E M c L S (HH (am_up mi 41 j v) ml) := by
  rw [e_iast (n := 5) rfl (am_nI_in hj (by decide)), nI_clamp (by omega)]; rfl
theorem il_42 {j : Nat} (hj : j < 5) : ev E M (.iaload :: c) L (.int (nI j) :: .ref 42 :: S) (HH mi ml) = ev E M c L (.int (mi 42 j) :: S) (HH mi ml) := by
  rw [e_iald (n := 5) rfl (am_nI_in hj (by decide)), nI_clamp (by omega)]; rfl
theorem is_42 {j : Nat} {v : Int32} (hj : j < 5) : ev E M (.iastore :: c) L (.int v :: .int (nI j) :: .ref 42 :: S) (HH mi ml) = ev E M c L S (HH (am_up mi 42 j v) ml) := by
  rw [e_iast (n := 5) rfl (am_nI_in hj (by decide)), nI_clamp (by omega)]; rfl
theorem il_47 {j : Nat} (hj : j < 5) : ev E M (.iaload :: c) L (.int (nI j) :: .ref 47 :: S) (HH mi ml) = ev E M c L (.int (mi 47 j) :: S) (HH mi ml) := by
  rw [e_iald (n := 5) rfl (am_nI_in hj (by decide)), nI_clamp (by omega)]; rfl
theorem is_47 {j : Nat} {v : Int32} (hj : j < 5) : ev E M (.iastore :: c) L (.int v :: .int (nI j) :: .ref 47 :: S) (HH mi ml) = ev E M c L S (HH (am_up mi 47 j v) ml) := by
  rw [e_iast (n := 5) rfl (am_nI_in hj (by decide)), nI_clamp (by omega)]; rfl
theorem il_50 {j : Nat} (hj : j < 5) : ev E M (.iaload :: c) L (.int (nI j) :: .ref 50 :: S) (HH mi ml) = ev E M c L (.int (mi 50 j) :: S) (HH mi ml) := by
  rw [e_iald (n := 5) rfl (am_nI_in hj (by decide)), nI_clamp (by omega)]; rfl
theorem is_50 {j : Nat} {v : Int32} (hj : j < 5) : ev E M (.iastore :: c) L (.int v :: .int (nI j) :: .ref 50 :: S) (HH mi ml) = ev E M c L S (HH (am_up mi 50 j v) ml) := by
  rw [e_iast (n := 5) rfl (am_nI_in hj (by decide)), nI_clamp (by omega)]; rfl
theorem il_51 {j : Nat} (hj : j < 4) : ev E M (.aaload :: c) L (.int (nI j) :: .ref 51 :: S) (HH mi ml) = ev E M c L (.ref (52 + 2 * j) :: S) (HH mi ml) := by
  rw [e_aald (t := 6) (n := 4) rfl (by decide) (by decide) (am_nI_in hj (by decide)), nI_clamp (by omega), am_HHr]
  have hm : am_MR 51 j = some (52 + 2 * j) := by rcases (show j = 0 ∨ j = 1 ∨ j = 2 ∨ j = 3 by omega) with rfl | rfl | rfl | rfl <;> exact am_MRt (by decide +kernel)
  rw [hm]
  rfl
theorem il_53 {j : Nat} (hj : j < 60) : ev E M (.iaload :: c) L (.int (nI j) :: .ref 53 :: S) (HH mi ml) = ev E M c L (.int (mi 53 j) :: S) (HH mi ml) := by
  rw [e_iald (n := 60) rfl (am_nI_in hj (by decide)), nI_clamp (by omega)]; rfl
theorem is_53 {j : Nat} {v : Int32} (hj : j < 60) : ev E M (.iastore :: c) L (.int v :: .int (nI j) :: .ref 53 :: S) (HH mi ml) = ev E M c L S (HH (am_up mi 53 j v) ml) := by
  rw [e_iast (n := 60) rfl (am_nI_in hj (by decide)), nI_clamp (by omega)]; rfl
theorem il_55 {j : Nat} (hj : j < 60) : ev E M (.iaload :: c) L (.int (nI j) :: .ref 55 :: S) (HH mi ml) = ev E M c L (.int (mi 55 j) :: S) (HH mi ml) := by
  rw [e_iald (n := 60) rfl (am_nI_in hj (by decide)), nI_clamp (by omega)]; rfl
theorem is_55 {j : Nat} {v : Int32} (hj : j < 60) : ev E M (.iastore :: c) L (.int v :: .int (nI j) :: .ref 55 :: S) (HH mi ml) = ev E M c L S (HH (am_up mi 55 j v) ml) := by
  rw [e_iast (n := 60) rfl (am_nI_in hj (by decide)), nI_clamp (by omega)]; rfl
theorem il_57 {j : Nat} (hj : j < 60) : ev E M (.iaload :: c) L (.int (nI j) :: .ref 57 :: S) (HH mi ml) = ev E M c L (.int (mi 57 j) :: S) (HH mi ml) := by
  rw [e_iald (n := 60) rfl (am_nI_in hj (by decide)), nI_clamp (by omega)]; rfl
theorem is_57 {j : Nat} {v : Int32} (hj : j < 60) : ev E M (.iastore :: c) L (.int v :: .int (nI j) :: .ref 57 :: S) (HH mi ml) = ev E M c L S (HH (am_up mi 57 j v) ml) := by
  rw [e_iast (n := 60) rfl (am_nI_in hj (by decide)), nI_clamp (by omega)]; rfl
theorem il_59 {j : Nat} (hj : j < 60) : ev E M (.iaload :: c) L (.int (nI j) :: .ref 59 :: S) (HH mi ml) = ev E M c L (.int (mi 59 j) :: S) (HH mi ml) := by
  rw [e_iald (n := 60) rfl (am_nI_in hj (by decide)), nI_clamp (by omega)]; rfl
theorem is_59 {j : Nat} {v : Int32} (hj : j < 60) : ev E M (.iastore :: c) L (.int v :: .int (nI j) :: .ref 59 :: S) (HH mi ml) = ev E M c L S (HH (am_up mi 59 j v) ml) := by
  rw [e_iast (n := 60) rfl (am_nI_in hj (by decide)), nI_clamp (by omega)]; rfl
theorem il_62 {j : Nat} (hj : j < 5) : ev E M (.iaload :: c) L (.int (nI j) :: .ref 62 :: S) (HH mi ml) = ev E M c L (.int (mi 62 j) :: S) (HH mi ml) := by
  rw [e_iald (n := 5) rfl (am_nI_in hj (by decide)), nI_clamp (by omega)]; rfl
theorem is_62 {j : Nat} {v : Int32} (hj : j < 5) : ev E M (.iastore :: c) L (.int v :: .int (nI j) :: .ref 62 :: S) (HH mi ml) = ev E M c L S (HH (am_up mi 62 j v) ml) := by
  rw [e_iast (n := 5) rfl (am_nI_in hj (by decide)), nI_clamp (by omega)]; rfl
theorem il_63 {j : Nat} (hj : j < 5) : ev E M (.iaload :: c) L (.int (nI j) :: .ref 63 :: S) (HH mi ml) = ev E M c L (.int (mi 63 j) :: S) (HH mi ml) := by
  rw [e_iald (n := 5) rfl (am_nI_in hj (by decide)), nI_clamp (by omega)]; rfl
theorem is_63 {j : Nat} {v : Int32} (hj : j < 5) : ev E M (.iastore :: c) L (.int v :: .int (nI j) :: .ref 63 :: S) (HH mi ml) = ev E M c L S (HH (am_up mi 63 j v) ml) := by
  rw [e_iast (n := 5) rfl (am_nI_in hj (by decide)), nI_clamp (by omega)]; rfl
theorem il_64 {j : Nat} (hj : j < 6) : ev E M (.iaload :: c) L (.int (nI j) :: .ref 64 :: S) (HH mi ml) = ev E M c L (.int (mi 64 j) :: S) (HH mi ml) := by
  rw [e_iald (n := 6) rfl (am_nI_in hj (by decide)), nI_clamp (by omega)]; rfl
theorem is_64 {j : Nat} {v : Int32} (hj : j < 6) : ev E M (.iastore :: c) L (.int v :: .int (nI j) :: .ref 64 :: S) (HH mi ml) = ev E M c L S (HH (am_up mi 64 j v) ml) := by
  rw [e_iast (n := 6) rfl (am_nI_in hj (by decide)), nI_clamp (by omega)]; rfl
theorem il_65 {j : Nat} (hj : j < 5) : ev E M (.baload :: c) L (.int (nI j) :: .ref 65 :: S) (HH mi ml) = ev E M c L (.int (mi 65 j) :: S) (HH mi ml) := by
  rw [e_bald (n := 5) rfl (am_nI_in hj (by decide)), nI_clamp (by omega)]; rfl
theorem is_65 {j : Nat} {v : Int32} (hj : j < 5) (hv : v = 0 ∨ v = 1) : ev E M (.bastore :: c) L (.int v :: .int (nI j) :: .ref 65 :: S) (HH mi ml) = ev E M c L S (HH (am_up mi 65 j v) ml) := by
  rw [e_bast (n := 5) rfl (am_nI_in hj (by decide)) hv, nI_clamp (by omega)]; rfl
theorem il_66 {j : Nat} (hj : j < 5) : ev E M (.iaload :: c) L (.int (nI j) :: .ref 66 :: S) (HH mi ml) = ev E M c L (.int (mi 66 j) :: S) (HH mi ml) := by
  rw [e_iald (n := 5) rfl (am_nI_in hj (by decide)), nI_clamp (by omega)]; rfl
theorem is_66 {j : Nat} {v : Int32} (hj : j < 5) : ev E M (.iastore :: c) L (.int v :: .int (nI j) :: .ref 66 :: S) (HH mi ml) = ev E M c L S (HH (am_up mi 66 j v) ml) := by
  rw [e_iast (n := 5) rfl (am_nI_in hj (by decide)), nI_clamp (by omega)]; rfl
theorem il_67 {j : Nat} (hj : j < 120) : ev E M (.iaload :: c) L (.int (nI j) :: .ref 67 :: S) (HH mi ml) = ev E M c L (.int (mi 67 j) :: S) (HH mi ml) := by
  rw [e_iald (n := 120) rfl (am_nI_in hj (by decide)), nI_clamp (by omega)]; rfl
theorem is_67 {j : Nat} {v : Int32} (hj : j < 120) : ev E M (.iastore :: c) L (.int v :: .int (nI j) :: .ref 67 :: S) (HH mi ml) = ev E M c L S (HH (am_up mi 67 j v) ml) := by
  rw [e_iast (n := 120) rfl (am_nI_in hj (by decide)), nI_clamp (by omega)]; rfl
theorem il_68 {j : Nat} (hj : j < 120) : ev E M (.iaload :: c) L (.int (nI j) :: .ref 68 :: S) (HH mi ml) = ev E M c L (.int (mi 68 j) :: S) (HH mi ml) := by
  rw [e_iald (n := 120) rfl (am_nI_in hj (by decide)), nI_clamp (by omega)]; rfl
theorem is_68 {j : Nat} {v : Int32} (hj : j < 120) : ev E M (.iastore :: c) L (.int v :: .int (nI j) :: .ref 68 :: S) (HH mi ml) = ev E M c L S (HH (am_up mi 68 j v) ml) := by
  rw [e_iast (n := 120) rfl (am_nI_in hj (by decide)), nI_clamp (by omega)]; rfl
theorem il_69 {j : Nat} (hj : j < 5) : ev E M (.iaload :: c) L (.int (nI j) :: .ref 69 :: S) (HH mi ml) = ev E M c L (.int (mi 69 j) :: S) (HH mi ml) := by
  rw [e_iald (n := 5) rfl (am_nI_in hj (by decide)), nI_clamp (by omega)]; rfl
theorem is_69 {j : Nat} {v : Int32} (hj : j < 5) : ev E M (.iastore :: c) L (.int v :: .int (nI j) :: .ref 69 :: S) (HH mi ml) = ev E M c L S (HH (am_up mi 69 j v) ml) := by
  rw [e_iast (n := 5) rfl (am_nI_in hj (by decide)), nI_clamp (by omega)]; rfl
theorem il_70 {j : Nat} (hj : j < 4) : ev E M (.iaload :: c) L (.int (nI j) :: .ref 70 :: S) (HH mi ml) = ev E M c L (.int (mi 70 j) :: S) (HH mi ml) := by
  rw [e_iald (n := 4) rfl (am_nI_in hj (by decide)), nI_clamp (by omega)]; rfl
theorem is_70 {j : Nat} {v : Int32} (hj : j < 4) : ev E M (.iastore :: c) L (.int v :: .int (nI j) :: .ref 70 :: S) (HH mi ml) = ev E M c L S (HH (am_up mi 70 j v) ml) := by
  rw [e_iast (n := 4) rfl (am_nI_in hj (by decide)), nI_clamp (by omega)]; rfl
theorem il_71 {j : Nat} (hj : j < 4) : ev E M (.iaload :: c) L (.int (nI j) :: .ref 71 :: S) (HH mi ml) = ev E M c L (.int (mi 71 j) :: S) (HH mi ml) := by
  rw [e_iald (n := 4) rfl (am_nI_in hj (by decide)), nI_clamp (by omega)]; rfl
theorem is_71 {j : Nat} {v : Int32} (hj : j < 4) : ev E M (.iastore :: c) L (.int v :: .int (nI j) :: .ref 71 :: S) (HH mi ml) = ev E M c L S (HH (am_up mi 71 j v) ml) := by
  rw [e_iast (n := 4) rfl (am_nI_in hj (by decide)), nI_clamp (by omega)]; rfl
theorem il_72 {j : Nat} (hj : j < 240) : ev E M (.iaload :: c) L (.int (nI j) :: .ref 72 :: S) (HH mi ml) = ev E M c L (.int (mi 72 j) :: S) (HH mi ml) := by
  rw [e_iald (n := 240) rfl (am_nI_in hj (by decide)), nI_clamp (by omega)]; rfl
theorem is_72 {j : Nat} {v : Int32} (hj : j < 240) : ev E M (.iastore :: c) L (.int v :: .int (nI j) :: .ref 72 :: S) (HH mi ml) = ev E M c L S (HH (am_up mi 72 j v) ml) := by
  rw [e_iast (n := 240) rfl (am_nI_in hj (by decide)), nI_clamp (by omega)]; rfl
theorem il_73 {j : Nat} (hj : j < 5) : ev E M (.iaload :: c) L (.int (nI j) :: .ref 73 :: S) (HH mi ml) = ev E M c L (.int (mi 73 j) :: S) (HH mi ml) := by
  rw [e_iald (n := 5) rfl (am_nI_in hj (by decide)), nI_clamp (by omega)]; rfl
theorem is_73 {j : Nat} {v : Int32} (hj : j < 5) : ev E M (.iastore :: c) L (.int v :: .int (nI j) :: .ref 73 :: S) (HH mi ml) = ev E M c L S (HH (am_up mi 73 j v) ml) := by
  rw [e_iast (n := 5) rfl (am_nI_in hj (by decide)), nI_clamp (by omega)]; rfl
theorem il_74 {j : Nat} (hj : j < 5) : ev E M (.iaload :: c) L (.int (nI j) :: .ref 74 :: S) (HH mi ml) = ev E M c L (.int (mi 74 j) :: S) (HH mi ml) := by
  rw [e_iald (n := 5) rfl (am_nI_in hj (by decide)), nI_clamp (by omega)]; rfl
theorem is_74 {j : Nat} {v : Int32} (hj : j < 5) : ev E M (.iastore :: c) L (.int v :: .int (nI j) :: .ref 74 :: S) (HH mi ml) = ev E M c L S (HH (am_up mi 74 j v) ml) := by
  rw [e_iast (n := 5) rfl (am_nI_in hj (by decide)), nI_clamp (by omega)]; rfl
theorem il_75 {j : Nat} (hj : j < 5) : ev E M (.iaload :: c) L (.int (nI j) :: .ref 75 :: S) (HH mi ml) = ev E M c L (.int (mi 75 j) :: S) (HH mi ml) := by
  rw [e_iald (n := 5) rfl (am_nI_in hj (by decide)), nI_clamp (by omega)]; rfl
theorem is_75 {j : Nat} {v : Int32} (hj : j < 5) : ev E M (.iastore :: c) L (.int v :: .int (nI j) :: .ref 75 :: S) (HH mi ml) = ev E M c L S (HH (am_up mi 75 j v) ml) := by
  rw [e_iast (n := 5) rfl (am_nI_in hj (by decide)), nI_clamp (by omega)]; rfl
theorem il_76 {j : Nat} (hj : j < 5) : ev E M (.iaload :: c) L (.int (nI j) :: .ref 76 :: S) (HH mi ml) = ev E M c L (.int (mi 76 j) :: S) (HH mi ml) := by
  rw [e_iald (n := 5) rfl (am_nI_in hj (by decide)), nI_clamp (by omega)]; rfl
theorem is_76 {j : Nat} {v : Int32} (hj : j < 5) : ev E M (.iastore :: c) L (.int v :: .int (nI j) :: .ref 76 :: S) (HH mi ml) = ev E M c L S (HH (am_up mi 76 j v) ml) := by
  rw [e_iast (n := 5) rfl (am_nI_in hj (by decide)), nI_clamp (by omega)]; rfl
theorem il_77 {j : Nat} (hj : j < 5) : ev E M (.iaload :: c) L (.int (nI j) :: .ref 77 :: S) (HH mi ml) = ev E M c L (.int (mi 77 j) :: S) (HH mi ml) := by
  rw [e_iald (n := 5) rfl (am_nI_in hj (by decide)), nI_clamp (by omega)]; rfl
theorem is_77 {j : Nat} {v : Int32} (hj : j < 5) : ev E M (.iastore :: c) L (.int v :: .int (nI j) :: .ref 77 :: S) (HH mi ml) = ev E M c L S (HH (am_up mi 77 j v) ml) := by
  rw [e_iast (n := 5) rfl (am_nI_in hj (by decide)), nI_clamp (by omega)]; rfl
theorem ik_2_0 : ev E M (.iaload :: c) L (.int 0 :: .ref 2 :: S) (HH mi ml) = ev E M c L (.int (mi 2 0) :: S) (HH mi ml) := il_2 (j := 0) (by decide)
theorem iks_2_0 {v : Int32} : ev E M (.iastore :: c) L (.int v :: .int 0 :: .ref 2 :: S) (HH mi ml) = ev E M c L S (HH (am_up mi 2 0 v) ml) := is_2 (j := 0) (by decide)
theorem ik_2_1 : ev E M (.iaload :: c) L (.int 1 :: .ref 2 :: S) (HH mi ml) = ev E M c L (.int (mi 2 1) :: S) (HH mi ml) := il_2 (j := 1) (by decide)
theorem iks_2_1 {v : Int32} : ev E M (.iastore :: c) L (.int v :: .int 1 :: .ref 2 :: S) (HH mi ml) = ev E M c L S (HH (am_up mi 2 1 v) ml) := is_2 (j := 1) (by decide)
theorem ik_2_2 : ev E M (.iaload :: c) L (.int 2 :: .ref 2 :: S) (HH mi ml) = ev E M c L (.int (mi 2 2) :: S) (HH mi ml) := il_2 (j := 2) (by decide)
theorem iks_2_2 {v : Int32} : ev E M (.iastore :: c) L (.int v :: .int 2 :: .ref 2 :: S) (HH mi ml) = ev E M c L S (HH (am_up mi 2 2 v) ml) := is_2 (j := 2) (by decide)
theorem ik_2_3 : ev E M (.iaload :: c) L (.int 3 :: .ref 2 :: S) (HH mi ml) = ev E M c L (.int (mi 2 3) :: S) (HH mi ml) := il_2 (j := 3) (by decide)
theorem iks_2_3 {v : Int32} : ev E M (.iastore :: c) L (.int v :: .int 3 :: .ref 2 :: S) (HH mi ml) = ev E M c L S (HH (am_up mi 2 3 v) ml) := is_2 (j := 3) (by decide)
theorem ik_2_4 : ev E M (.iaload :: c) L (.int 4 :: .ref 2 :: S) (HH mi ml) = ev E M c L (.int (mi 2 4) :: S) (HH mi ml) := il_2 (j := 4) (by decide)
theorem iks_2_4 {v : Int32} : ev E M (.iastore :: c) L (.int v :: .int 4 :: .ref 2 :: S) (HH mi ml) = ev E M c L S (HH (am_up mi 2 4 v) ml) := is_2 (j := 4) (by decide)
theorem ik_62_0 : ev E M (.iaload :: c) L (.int 0 :: .ref 62 :: S) (HH mi ml) = ev E M c L (.int (mi 62 0) :: S) (HH mi ml) := il_62 (j := 0) (by decide)
theorem iks_62_0 {v : Int32} : ev E M (.iastore :: c) L (.int v :: .int 0 :: .ref 62 :: S) (HH mi ml) = ev E M c L S (HH (am_up mi 62 0 v) ml) := is_62 (j := 0) (by decide)
theorem ik_62_1 : ev E M (.iaload :: c) L (.int 1 :: .ref 62 :: S) (HH mi ml) = ev E M c L (.int (mi 62 1) :: S) (HH mi ml) := il_62 (j := 1) (by decide)
theorem iks_62_1 {v : Int32} : ev E M (.iastore :: c) L (.int v :: .int 1 :: .ref 62 :: S) (HH mi ml) = ev E M c L S (HH (am_up mi 62 1 v) ml) := is_62 (j := 1) (by decide)
theorem ik_62_2 : ev E M (.iaload :: c) L (.int 2 :: .ref 62 :: S) (HH mi ml) = ev E M c L (.int (mi 62 2) :: S) (HH mi ml) := il_62 (j := 2) (by decide)
theorem iks_62_2 {v : Int32} : ev E M (.iastore :: c) L (.int v :: .int 2 :: .ref 62 :: S) (HH mi ml) = ev E M c L S (HH (am_up mi 62 2 v) ml) := is_62 (j := 2) (by decide)
theorem ik_62_3 : ev E M (.iaload :: c) L (.int 3 :: .ref 62 :: S) (HH mi ml) = ev E M c L (.int (mi 62 3) :: S) (HH mi ml) := il_62 (j := 3) (by decide)
theorem iks_62_3 {v : Int32} : ev E M (.iastore :: c) L (.int v :: .int 3 :: .ref 62 :: S) (HH mi ml) = ev E M c L S (HH (am_up mi 62 3 v) ml) := is_62 (j := 3) (by decide)
theorem ik_62_4 : ev E M (.iaload :: c) L (.int 4 :: .ref 62 :: S) (HH mi ml) = ev E M c L (.int (mi 62 4) :: S) (HH mi ml) := il_62 (j := 4) (by decide)
theorem iks_62_4 {v : Int32} : ev E M (.iastore :: c) L (.int v :: .int 4 :: .ref 62 :: S) (HH mi ml) = ev E M c L S (HH (am_up mi 62 4 v) ml) := is_62 (j := 4) (by decide)
theorem ik_73_0 : ev E M (.iaload :: c) L (.int 0 :: .ref 73 :: S) (HH mi ml) = ev E M c L (.int (mi 73 0) :: S) (HH mi ml) := il_73 (j := 0) (by decide)
theorem iks_73_0 {v : Int32} : ev E M (.iastore :: c) L (.int v :: .int 0 :: .ref 73 :: S) (HH mi ml) = ev E M c L S (HH (am_up mi 73 0 v) ml) := is_73 (j := 0) (by decide)
theorem ik_74_0 : ev E M (.iaload :: c) L (.int 0 :: .ref 74 :: S) (HH mi ml) = ev E M c L (.int (mi 74 0) :: S) (HH mi ml) := il_74 (j := 0) (by decide)
theorem iks_74_0 {v : Int32} : ev E M (.iastore :: c) L (.int v :: .int 0 :: .ref 74 :: S) (HH mi ml) = ev E M c L S (HH (am_up mi 74 0 v) ml) := is_74 (j := 0) (by decide)
theorem il_tp {d j : Nat} (hd : d < 5) (hj : j < 24) : ev E M (.iaload :: c) L (.int (nI j) :: .ref (12 + 3 * d) :: S) (HH mi ml) = ev E M c L (.int (mi (12 + 3 * d) j) :: S) (HH mi ml) := by
  rcases (show d = 0 ∨ d = 1 ∨ d = 2 ∨ d = 3 ∨ d = 4 by omega) with rfl | rfl | rfl | rfl | rfl <;> first | exact il_12 hj | exact il_15 hj | exact il_18 hj | exact il_21 hj | exact il_24 hj
theorem is_tp {d j : Nat} {v : Int32} (hd : d < 5) (hj : j < 24) : ev E M (.iastore :: c) L (.int v :: .int (nI j) :: .ref (12 + 3 * d) :: S) (HH mi ml) = ev E M c L S (HH (am_up mi (12 + 3 * d) j v) ml) := by
  rcases (show d = 0 ∨ d = 1 ∨ d = 2 ∨ d = 3 ∨ d = 4 by omega) with rfl | rfl | rfl | rfl | rfl <;> first | exact is_12 hj | exact is_15 hj | exact is_18 hj | exact is_21 hj | exact is_24 hj
theorem il_ta {d j : Nat} (hd : d < 5) (hj : j < 24) : ev E M (.iaload :: c) L (.int (nI j) :: .ref (13 + 3 * d) :: S) (HH mi ml) = ev E M c L (.int (mi (13 + 3 * d) j) :: S) (HH mi ml) := by
  rcases (show d = 0 ∨ d = 1 ∨ d = 2 ∨ d = 3 ∨ d = 4 by omega) with rfl | rfl | rfl | rfl | rfl <;> first | exact il_13 hj | exact il_16 hj | exact il_19 hj | exact il_22 hj | exact il_25 hj
theorem is_ta {d j : Nat} {v : Int32} (hd : d < 5) (hj : j < 24) : ev E M (.iastore :: c) L (.int v :: .int (nI j) :: .ref (13 + 3 * d) :: S) (HH mi ml) = ev E M c L S (HH (am_up mi (13 + 3 * d) j v) ml) := by
  rcases (show d = 0 ∨ d = 1 ∨ d = 2 ∨ d = 3 ∨ d = 4 by omega) with rfl | rfl | rfl | rfl | rfl <;> first | exact is_13 hj | exact is_16 hj | exact is_19 hj | exact is_22 hj | exact is_25 hj
theorem il_sc {d j : Nat} (hd : d < 4) (hj : j < 60) : ev E M (.iaload :: c) L (.int (nI j) :: .ref (53 + 2 * d) :: S) (HH mi ml) = ev E M c L (.int (mi (53 + 2 * d) j) :: S) (HH mi ml) := by
  rcases (show d = 0 ∨ d = 1 ∨ d = 2 ∨ d = 3 by omega) with rfl | rfl | rfl | rfl <;> first | exact il_53 hj | exact il_55 hj | exact il_57 hj | exact il_59 hj
theorem is_sc {d j : Nat} {v : Int32} (hd : d < 4) (hj : j < 60) : ev E M (.iastore :: c) L (.int v :: .int (nI j) :: .ref (53 + 2 * d) :: S) (HH mi ml) = ev E M c L S (HH (am_up mi (53 + 2 * d) j v) ml) := by
  rcases (show d = 0 ∨ d = 1 ∨ d = 2 ∨ d = 3 by omega) with rfl | rfl | rfl | rfl <;> first | exact is_53 hj | exact is_55 hj | exact is_57 hj | exact is_59 hj
theorem il_po {d j : Nat} (hd : d < 2) (hj : j < 5) : ev E M (.iaload :: c) L (.int (nI j) :: .ref (47 + 3 * d) :: S) (HH mi ml) = ev E M c L (.int (mi (47 + 3 * d) j) :: S) (HH mi ml) := by
  rcases (show d = 0 ∨ d = 1 by omega) with rfl | rfl <;> first | exact il_47 hj | exact il_50 hj
theorem is_po {d j : Nat} {v : Int32} (hd : d < 2) (hj : j < 5) : ev E M (.iastore :: c) L (.int v :: .int (nI j) :: .ref (47 + 3 * d) :: S) (HH mi ml) = ev E M c L S (HH (am_up mi (47 + 3 * d) j v) ml) := by
  rcases (show d = 0 ∨ d = 1 by omega) with rfl | rfl <;> first | exact is_47 hj | exact is_50 hj
theorem k_m400 {h : aH} : ev E M (.bipush (-400 : Int) :: c) L S h = ev E M c L (.int (-400) :: S) h := ev_go rfl
theorem k_m10 {h : aH} : ev E M (.bipush (-10 : Int) :: c) L S h = ev E M c L (.int (-10) :: S) h := ev_go rfl
theorem k_m9 {h : aH} : ev E M (.bipush (-9 : Int) :: c) L S h = ev E M c L (.int (-9) :: S) h := ev_go rfl
theorem k_m4 {h : aH} : ev E M (.bipush (-4 : Int) :: c) L S h = ev E M c L (.int (-4) :: S) h := ev_go rfl
theorem k_m3 {h : aH} : ev E M (.bipush (-3 : Int) :: c) L S h = ev E M c L (.int (-3) :: S) h := ev_go rfl
theorem k_m2 {h : aH} : ev E M (.bipush (-2 : Int) :: c) L S h = ev E M c L (.int (-2) :: S) h := ev_go rfl
theorem k_m1 {h : aH} : ev E M (.bipush (-1 : Int) :: c) L S h = ev E M c L (.int (-1) :: S) h := ev_go rfl
theorem k_0 {h : aH} : ev E M (.bipush (0 : Int) :: c) L S h = ev E M c L (.int 0 :: S) h := ev_go rfl
theorem k_1 {h : aH} : ev E M (.bipush (1 : Int) :: c) L S h = ev E M c L (.int 1 :: S) h := ev_go rfl
theorem k_2 {h : aH} : ev E M (.bipush (2 : Int) :: c) L S h = ev E M c L (.int 2 :: S) h := ev_go rfl
theorem k_3 {h : aH} : ev E M (.bipush (3 : Int) :: c) L S h = ev E M c L (.int 3 :: S) h := ev_go rfl
theorem k_4 {h : aH} : ev E M (.bipush (4 : Int) :: c) L S h = ev E M c L (.int 4 :: S) h := ev_go rfl
theorem k_5 {h : aH} : ev E M (.bipush (5 : Int) :: c) L S h = ev E M c L (.int 5 :: S) h := ev_go rfl
theorem k_6 {h : aH} : ev E M (.bipush (6 : Int) :: c) L S h = ev E M c L (.int 6 :: S) h := ev_go rfl
theorem k_10 {h : aH} : ev E M (.bipush (10 : Int) :: c) L S h = ev E M c L (.int 10 :: S) h := ev_go rfl
theorem k_20 {h : aH} : ev E M (.bipush (20 : Int) :: c) L S h = ev E M c L (.int 20 :: S) h := ev_go rfl
theorem k_23 {h : aH} : ev E M (.bipush (23 : Int) :: c) L S h = ev E M c L (.int 23 :: S) h := ev_go rfl
theorem k_24 {h : aH} : ev E M (.bipush (24 : Int) :: c) L S h = ev E M c L (.int 24 :: S) h := ev_go rfl
theorem k_31 {h : aH} : ev E M (.bipush (31 : Int) :: c) L S h = ev E M c L (.int 31 :: S) h := ev_go rfl
theorem k_45 {h : aH} : ev E M (.bipush (45 : Int) :: c) L S h = ev E M c L (.int 45 :: S) h := ev_go rfl
theorem k_50 {h : aH} : ev E M (.bipush (50 : Int) :: c) L S h = ev E M c L (.int 50 :: S) h := ev_go rfl
theorem k_60 {h : aH} : ev E M (.bipush (60 : Int) :: c) L S h = ev E M c L (.int 60 :: S) h := ev_go rfl
theorem k_63 {h : aH} : ev E M (.bipush (63 : Int) :: c) L S h = ev E M c L (.int 63 :: S) h := ev_go rfl
theorem k_100 {h : aH} : ev E M (.bipush (100 : Int) :: c) L S h = ev E M c L (.int 100 :: S) h := ev_go rfl
theorem k_120 {h : aH} : ev E M (.bipush (120 : Int) :: c) L S h = ev E M c L (.int 120 :: S) h := ev_go rfl
theorem k_200 {h : aH} : ev E M (.bipush (200 : Int) :: c) L S h = ev E M c L (.int 200 :: S) h := ev_go rfl
theorem k_240 {h : aH} : ev E M (.bipush (240 : Int) :: c) L S h = ev E M c L (.int 240 :: S) h := ev_go rfl
theorem k_400 {h : aH} : ev E M (.bipush (400 : Int) :: c) L S h = ev E M c L (.int 400 :: S) h := ev_go rfl
theorem k_500 {h : aH} : ev E M (.bipush (500 : Int) :: c) L S h = ev E M c L (.int 500 :: S) h := ev_go rfl
theorem k_750 {h : aH} : ev E M (.bipush (750 : Int) :: c) L S h = ev E M c L (.int 750 :: S) h := ev_go rfl
theorem k_900 {h : aH} : ev E M (.bipush (900 : Int) :: c) L S h = ev E M c L (.int 900 :: S) h := ev_go rfl
theorem k_1000 {h : aH} : ev E M (.bipush (1000 : Int) :: c) L S h = ev E M c L (.int 1000 :: S) h := ev_go rfl
theorem k_2000 {h : aH} : ev E M (.bipush (2000 : Int) :: c) L S h = ev E M c L (.int 2000 :: S) h := ev_go rfl
theorem k_3000 {h : aH} : ev E M (.bipush (3000 : Int) :: c) L S h = ev E M c L (.int 3000 :: S) h := ev_go rfl
theorem k_100000 {h : aH} : ev E M (.bipush (100000 : Int) :: c) L S h = ev E M c L (.int 100000 :: S) h := ev_go rfl
theorem kl_m9223372036854775808 {h : aH} : ev E M (.sipush (-9223372036854775808 : Int) :: c) L S h = ev E M c L (.long (-9223372036854775808) :: S) h := ev_go rfl
theorem kl_m1000000000 {h : aH} : ev E M (.sipush (-1000000000 : Int) :: c) L S h = ev E M c L (.long (-1000000000) :: S) h := ev_go rfl
theorem kl_m1 {h : aH} : ev E M (.sipush (-1 : Int) :: c) L S h = ev E M c L (.long (-1) :: S) h := ev_go rfl
theorem kl_0 {h : aH} : ev E M (.sipush (0 : Int) :: c) L S h = ev E M c L (.long 0 :: S) h := ev_go rfl
theorem kl_1 {h : aH} : ev E M (.sipush (1 : Int) :: c) L S h = ev E M c L (.long 1 :: S) h := ev_go rfl
theorem kl_2 {h : aH} : ev E M (.sipush (2 : Int) :: c) L S h = ev E M c L (.long 2 :: S) h := ev_go rfl
theorem kl_1000 {h : aH} : ev E M (.sipush (1000 : Int) :: c) L S h = ev E M c L (.long 1000 :: S) h := ev_go rfl
theorem kl_1000000000 {h : aH} : ev E M (.sipush (1000000000 : Int) :: c) L S h = ev E M c L (.long 1000000000 :: S) h := ev_go rfl
def am_sl : List Value → Bool := fun s => match s with
  | [] => true
  | [_] => true
  | [_, _] => true
  | [_, _, _] => true
  | [_, _, _, _] => true
  | _ => false
theorem am_sl0 : am_sl [] = true := rfl
theorem am_sl1 {a : Value} : am_sl [a] = true := rfl
theorem am_sl2 {a b : Value} : am_sl [a, b] = true := rfl
theorem am_sl3 {a b d : Value} : am_sl [a, b, d] = true := rfl
theorem am_sl4 {a b d e : Value} : am_sl [a, b, d, e] = true := rfl
theorem am_sl_len {s : List Value} (h : am_sl s = true) : s.length ≤ 4 := by
  unfold am_sl at h
  split at h <;> first | (simp; done) | cases h
theorem e_inv {h h1 : aH} {k : Nat} {as : List Value} {v : Option Value} (hS : am_sl S = true) (hn : as.length = am_na k) (hl : (am_loc as).length ≤ am_mL k) (hr : am_recv h k as = true) (hq : ev E k (am_B k 0) (am_ent k as) [] h = some (v, h1)) : ev E M (.invokevirtual k :: c) L (as.reverse ++ S) h = ev E M c L (v.toList ++ S) h1 := by
  have hlen : (as.reverse ++ S).length = am_na k + S.length := by simp [hn]
  have ht : ((as.reverse ++ S).take (am_na k)).reverse = as := by rw [← hn, ← List.length_reverse (as := as), List.take_left, List.reverse_reverse]
  have hd : (as.reverse ++ S).drop (am_na k) = S := by rw [← hn, ← List.length_reverse (as := as), List.drop_left]
  refine ev_call (k := k) (as := as) (c' := c) (L' := L) (S' := S) (h1 := h) ?_ hq
  simp only [am_step]
  rw [ht, hd, if_pos ⟨by omega, by have := am_sl_len hS; omega, hl, hr⟩]
end Rows
