/-! THE WORDS ARE IN THE TABLES -/
def lw_good : List Jvm.Cond := lw_tbl.filter goodWord
def am_wd (p : Nat) (w : Jvm.Cond) : Bool := decide (lw_tbl[p]? = some w) && goodWord w
theorem am_wd_in {p : Nat} {w : Jvm.Cond} (h : am_wd p w = true) : w ∈ lw_good := by
  simp only [am_wd, Bool.and_eq_true, decide_eq_true_eq] at h
  exact List.mem_filter.mpr ⟨List.mem_of_getElem? h.1, h.2⟩
def am_fw (q : Nat × Nat × Nat × Nat) : Jvm.Cond := .fieldLink (am_cls q.1) q.2.1 (am_Tx (q.2.2.1 / 64) (q.2.2.1 % 64)).1 (am_Tx (q.2.2.1 / 64) (q.2.2.1 % 64)).2.1 (am_Tx (q.2.2.1 / 64) (q.2.2.1 % 64)).2.2.1
theorem am_F_ok : am_F.all (fun q => am_wd q.2.2.2 (am_fw q)) = true := by decide +kernel
theorem am_K_ok : am_K.all (fun q => am_wd q.2.2.2 (.constant (am_cls q.1) q.2.1 (Int32.ofInt q.2.2.1))) = true := by decide +kernel
theorem am_J_ok : am_J.all (fun q => am_wd q.2.2.2 (.constantLong (am_cls q.1) q.2.1 (Int64.ofInt q.2.2.1))) = true := by decide +kernel
def am_gn (x : Nat) : String := if x = 0 then "LEAST_RULE" else "GREATEST_RULE"
theorem am_G_ok : am_G.all (fun q => decide (q.2.2.1 < 2) && am_wd q.2.2.2 (.fieldLink (am_cls q.1) q.2.1 "RailPower" (am_gn q.2.2.1) "[I")) = true := by decide +kernel
theorem am_Nw_ok : am_Nw.all (fun q => decide (q.2.2.1 < 10) && am_wd q.2.2.2.1 (.classLink (am_cls q.1) q.2.1 (am_cls q.2.2.1)) && am_wd q.2.2.2.2.1 (.instantiable (am_cls q.2.2.1) (am_N q.2.2.1)) && am_wd q.2.2.2.2.2 (.initialized (am_cls q.2.2.1))) = true := by decide +kernel
theorem am_A_ok : am_A.all (fun q => decide (3 ≤ q.2.2.1) && decide (q.2.2.1 < 7) && am_wd q.2.2.2 (.classLink (am_cls q.1) q.2.1 ((am_AO[q.2.2.1 - 3]?).getD ""))) = true := by decide +kernel
theorem am_O_ok : am_O.all (fun q => am_wd q.2.2 (.methodLink (am_cls q.1) q.2.1 Jvm.Lib.objectInit)) = true := by decide +kernel
theorem am_oi_ok : (am_wd am_oip (.instanceMethod Jvm.Lib.objectInit) && am_wd am_oic (.code Jvm.Lib.objectInit ⟨#[0xb1]⟩ 1 none)) = true := by decide +kernel
theorem am_Mt_ok : am_Mt.all (fun q => decide (q.2.2.1 < 4) && am_wd q.2.2.2 (.methodLink (am_cls q.1) q.2.1 (if q.2.2.1 = 0 then Jvm.Lib.Math.max.name else if q.2.2.1 = 1 then Jvm.Lib.Math.min.name else if q.2.2.1 = 2 then Jvm.Lib.Math.abs.name else Jvm.Lib.MathLoose.abs_long.x))) = true := by decide +kernel
theorem am_mi_ok : (am_wd am_mi (.initialized "java/lang/Math") && am_wd am_mp0.1 (.static Jvm.Lib.Math.max.name) && am_wd am_mp0.2 (.code Jvm.Lib.Math.max.name Jvm.Lib.Math.max.code 2 (some .int)) && am_wd am_mp1.1 (.static Jvm.Lib.Math.min.name) && am_wd am_mp1.2 (.code Jvm.Lib.Math.min.name Jvm.Lib.Math.min.code 2 (some .int)) && am_wd am_mp2.1 (.static Jvm.Lib.Math.abs.name) && am_wd am_mp2.2 (.code Jvm.Lib.Math.abs.name Jvm.Lib.Math.abs.code 1 (some .int)) && am_wd am_mp3.1 (.static Jvm.Lib.MathLoose.abs_long.x) && am_wd am_mp3.2 (.code Jvm.Lib.MathLoose.abs_long.x Jvm.Lib.MathLoose.abs_long.code 2 (some .long))) = true := by decide +kernel
def am_cw (q : Nat × Nat × Nat × Nat × Nat × Nat × Nat × Nat) : Bool :=
  am_wd q.2.2.2.2.2.2.2 (.initialized (am_y q.2.2.1).cls) && (if q.2.2.2.1 = 3 ∨ q.2.2.2.1 = 4 then decide (lw_tbl[q.2.2.2.2.1]? = some (.methodLinkNest (am_cls q.1) q.2.1 (am_y q.2.2.1) "RailPower")) else am_wd q.2.2.2.2.1 (.methodLink (am_cls q.1) q.2.1 (am_y q.2.2.1))) && (if q.2.2.2.1 = 1 ∨ q.2.2.2.1 = 4 then am_wd q.2.2.2.2.2.1 (.static (am_y q.2.2.1)) && am_st q.2.2.1 else am_wd q.2.2.2.2.2.1 (.instanceMethod (am_y q.2.2.1)) && !am_st q.2.2.1) && (if q.2.2.2.1 = 0 then am_wd q.2.2.2.2.2.2.1 (.selects (am_y q.2.2.1).cls (am_y q.2.2.1) (am_y q.2.2.1)) else true) && (if q.2.2.2.1 = 2 ∨ q.2.2.2.1 = 3 then decide ((am_y q.2.2.1).name = "<init>") else true) && decide (q.2.2.2.1 ≤ 4)
theorem am_C_ok1 : (am_C.take 60).all am_cw = true := by decide +kernel
theorem am_C_ok2 : ((am_C.drop 60).take 60).all am_cw = true := by decide +kernel
theorem am_C_ok3 : ((am_C.drop 120)).all am_cw = true := by decide +kernel
