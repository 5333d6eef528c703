/-! the tables' words behind the machine's links -/
def gw : List Cond := lw_tbl.filter goodWord
theorem gw_at {j : Nat} {w : Cond} (h : lwa j = some w) (hg : goodWord w = true) : w ∈ gw := List.mem_filter.mpr ⟨lwa_mem h, hg⟩
def tF_ck (e : Nat × Nat × Nat × Nat × Nat) : Bool := decide (lwa (e.2.2.2.2) = some (.fieldLink (oN e.1) e.2.1 (cT e.2.2.1 e.2.2.2.1).1 (cT e.2.2.1 e.2.2.2.1).2.1 (cT e.2.2.1 e.2.2.2.1).2.2.1)) && decide (e.2.2.1 < 10) && decide (e.2.2.2.1 < cN e.2.2.1)
theorem tF_ok : tF.all tF_ck = true := by decide +kernel
def tC_ck (e : Nat × Nat × Nat × Nat × Nat × Nat) : Bool := decide (lwa (e.2.2.2.1) = some (.classLink (oN e.1) e.2.1 (oN e.2.2.1))) && decide (lwa (e.2.2.2.2.1) = some (.instantiable (oN e.2.2.1) (cN e.2.2.1))) && decide (lwa (e.2.2.2.2.2) = some (.initialized (oN e.2.2.1))) && decide (e.2.2.1 < 10)
theorem tC_ok : tC.all tC_ck = true := by decide +kernel
def tK_ck (e : Nat × Nat × Int32 × Nat) : Bool := decide (lwa (e.2.2.2) = some (.constant (oN e.1) e.2.1 e.2.2.1))
theorem tK_ok : tK.all tK_ck = true := by decide +kernel
/-- a method's own rows: its code word, its class initialised, its class known, its parameters counted -/
def mT_ck (t : MTy) : Bool := decide (lwa (t.2.2.2.2.2.2.2) = some (.initialized t.1.cls)) && decide (t.1.cls = oN t.2.2.2.2.1) && decide (t.1.cls ≠ "java/lang/invoke/MethodHandle" ∧ t.1.cls ≠ "java/lang/invoke/VarHandle") && decide (t.2.2.1 ≤ 40)
theorem mT_ok : mTs.all mT_ck = true := by decide +kernel
theorem mT_pl : mTs.all (fun t => plainFor t.1) = true := by decide +kernel
def mT_dk (t : MTy) : Bool := decide ((parseMethodDescriptor t.1.desc).map (fun d => d.parameters.length) = some t.2.2.2.2.2.1)
theorem mT_de : mTs.all mT_dk = true := by decide +kernel
theorem mTs_len : mTs.length = kLaw := by decide +kernel
def tM_ck (e : Nat × Nat × Nat × Nat × Nat × Nat × Nat) : Bool := match e.2.2.1 with
  | 0 => decide (lwa (e.2.2.2.2.1) = some (.methodLink (oN e.1) e.2.1 (mY e.2.2.2.1))) && decide (lwa (e.2.2.2.2.2.1) = some (.instanceMethod (mY e.2.2.2.1))) && decide (lwa (e.2.2.2.2.2.2) = some (.selects (mY e.2.2.2.1).cls (mY e.2.2.2.1) (mY e.2.2.2.1))) && decide (e.2.2.2.1 < kLaw)
  | 1 => decide (lwa (e.2.2.2.2.1) = some (.methodLink (oN e.1) e.2.1 (mY e.2.2.2.1))) && decide (lwa (e.2.2.2.2.2.1) = some (.static (mY e.2.2.2.1))) && decide (e.2.2.2.1 < kLaw)
  | 2 => decide (lwa (e.2.2.2.2.1) = some (.methodLinkNest (oN e.1) e.2.1 (mY e.2.2.2.1) "ThirstLead")) && decide (lwa (e.2.2.2.2.2.1) = some (.static (mY e.2.2.2.1))) && decide (e.2.2.2.1 < kLaw)
  | 3 => decide (lwa (e.2.2.2.2.1) = some (.methodLink (oN e.1) e.2.1 (mY e.2.2.2.1))) && decide (lwa (e.2.2.2.2.2.1) = some (.instanceMethod (mY e.2.2.2.1))) && decide (e.2.2.2.1 < kLaw) && decide ((mY e.2.2.2.1).name = "<init>") && decide (mR e.2.2.2.1 = none)
  | 4 => decide (lwa (e.2.2.2.2.1) = some (.methodLinkNest (oN e.1) e.2.1 (mY e.2.2.2.1) "ThirstLead")) && decide (lwa (e.2.2.2.2.2.1) = some (.instanceMethod (mY e.2.2.2.1))) && decide (e.2.2.2.1 < kLaw) && decide ((mY e.2.2.2.1).name = "<init>") && decide (mR e.2.2.2.1 = none)
  | 5 => decide (lwa (e.2.2.2.2.1) = some (.methodLink (oN e.1) e.2.1 Lib.objectInit)) && decide (lwa (e.2.2.2.2.2.1) = some (.instanceMethod Lib.objectInit))
  | 6 => decide (lwa (e.2.2.2.2.1) = some (.methodLink (oN e.1) e.2.1 arraycopyName)) && decide (lwa (e.2.2.2.2.2.1) = some (.static arraycopyName)) && decide (lwa (e.2.2.2.2.2.2) = some (.native arraycopyName))
  | _ => false
theorem tM_ok : tM.all tM_ck = true := by decide +kernel
def cPl : List (List Nat) := [[194, 196], [158, 160, 162, 164, 166, 168, 170, 172, 174, 176, 178, 180, 182], [222, 224, 226, 228], [234, 236], [256, 258, 260, 262, 264, 266], [284, 286, 288], [308, 310, 312, 314], [118, 120, 122, 124, 126, 128], [328, 330, 332, 334, 336, 338, 340, 342, 344, 346, 348], [939, 941, 943, 945, 947, 949, 951, 953, 955, 957, 959, 961, 963, 965, 967, 969, 971, 973, 975, 977, 979, 981, 983, 985, 987, 989, 991, 993, 995, 997, 999, 1001, 1003, 1005]]
theorem cls_ok : (List.range 10).all (fun ci => (List.range (cN ci)).all (fun f => decide (lwa ((cPl.getD ci []).getD f 0) = some (u_lay (oN ci) (cT ci) f)) && goodWord (u_lay (oN ci) (cT ci) f))) = true := by decide +kernel
theorem cY_ok : (List.range 10).all (fun ci => (List.range (cN ci)).all (fun f => decide (parseFieldDescriptor (cT ci f).2.2.1 = some (cY ci f)))) = true := by decide +kernel
theorem nm_ok : (List.range 10).all (fun ci => (List.range (cN ci)).all (fun a => (List.range (cN ci)).all fun b => decide (a ≠ b → (cT ci a).2.1 ≠ (cT ci b).2.1))) = true := by decide +kernel
theorem own_ok : (List.range 10).all (fun ci => (List.range (cN ci)).all (fun f => decide ((cT ci f).1 = oN ci))) = true := by decide +kernel
theorem oi_code : Cond.code Lib.objectInit ⟨#[0xb1]⟩ 1 none ∈ gw := gw_at (j := 86) (by decide +kernel) rfl
theorem sys_ini : Cond.initialized "java/lang/System" ∈ gw := gw_at (j := 74) (by decide +kernel) rfl
theorem ac_int : Cond.arrayClass .int ∈ gw := gw_at (j := 131) (by decide +kernel) rfl
theorem ac_bool : Cond.arrayClass .boolean ∈ gw := gw_at (j := 1009) (by decide +kernel) rfl
theorem ac_char : Cond.arrayClass .char ∈ gw := gw_at (j := 1008) (by decide +kernel) rfl
