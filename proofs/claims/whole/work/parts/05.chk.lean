/-! ===== what is checked of a decoded row: its words among the tables', its places, its targets ===== -/
def gtb (ps : Nat) (w : Cond) : Bool := decide (tables_1[ps]? = some w)
theorem gtb_mem {ps : Nat} {w : Cond} (h : gtb ps w = true) : w ∈ lw_tbl := by
  have h1 : tables_1[ps]? = some w := of_decide_eq_true h
  exact List.mem_append_right _ (List.mem_of_getElem? h1)
theorem gtb_good {ps : Nat} {w : Cond} (h : gtb ps w = true) (hg : goodWord w = true) : w ∈ gGW := List.mem_filter.mpr ⟨gtb_mem h, hg⟩
theorem gtb_nest {ps : Nat} {w : Cond} (h : gtb ps w = true) (hg : gnest w = true) : w ∈ gNW := List.mem_filter.mpr ⟨gtb_mem h, hg⟩
def gchkF (own nm : String) (put : Bool) (idx len : Nat) (ax : List Nat) : Bool := match ax with
  | [] => true
  | [ci, sl, ne, ps] => len == 3 && (match gcl[ci]? with
    | some r => Nat.blt sl r.2.2 && (decide ((r.2.1 sl).1 = r.1) && ((bif Nat.beq ne 0 then gtb ps (.fieldLink own idx r.1 (r.2.1 sl).2.1 (r.2.1 sl).2.2.1) else gtb ps (.fieldLinkNest own idx r.1 (r.2.1 sl).2.1 (r.2.1 sl).2.2.1 RX9)) && (!put || (!(r.2.1 sl).2.2.2 || (Nat.beq ne 0 && decide (nm = "<init>" ∧ r.1 = own))))))
    | none => false)
  | _ => false
def gchkK (own : String) (idx : Nat) (ax : List Nat) (w : Value) : Bool := match ax with
  | [] => true
  | [ps] => (match w with
    | .int v => gtb ps (.constant own idx v)
    | .long v => gtb ps (.constantLong own idx v)
    | .ref a => decide (own = RX4 ∧ ((idx = 64 ∧ a = 2000000001) ∨ (idx = 52 ∧ a = 2000000002)))
    | _ => false)
  | _ => false
def gisI : Value → Bool
  | .int _ => true
  | _ => false
def gisL : Value → Bool
  | .long _ => true
  | _ => false
def gchk (own nm : String) (q : Nat × gI) : Bool := match q with
  | (pc, i, len, ax, w) => match i with
    | .iconst n => len == 1 && decide (w = .int (Int32.ofInt n))
    | .lconst n => len == 1 && decide (w = .long (Int64.ofNat (n : Nat)))
    | .bipush n => len == 2 && decide (w = .int (Int8.ofInt n).toInt32)
    | .sipush n => len == 3 && decide (w = .int (Int16.ofInt n).toInt32)
    | .ldc idx => len == 2 && (gchkK own idx ax w && !gisL w)
    | .ldc_w idx => len == 3 && (gchkK own idx ax w && gisI w)
    | .ldc2_w idx => len == 3 && (gchkK own idx ax w && gisL w)
    | .iload_n k | .lload_n k | .aload_n k | .istore_n k | .lstore_n k | .astore_n k => len == 1 && Nat.beq k (gax ax 0)
    | .iload k | .lload k | .aload k | .istore k | .lstore k | .astore k => len == 2 && Nat.beq k (gax ax 0)
    | .iinc k n => len == 3 && (Nat.beq k (gax ax 0) && decide (w = .int (Int32.ofInt n)))
    | .ifCond _ off | .if_icmp _ off | .goto off => len == 3 && decide ((pc : Int) + off = (gax ax 0 : Int))
    | .tableswitch d lo hi offs => decide ((pc : Int) + d = (gax ax 0 : Int)) && decide (offs.toList.map (fun o => (pc : Int) + o) = ax.tail.map Int.ofNat) && decide ((offs.size : Int) = hi - lo + 1)
    | .getfield idx => gchkF own nm false idx len ax
    | .putfield idx => gchkF own nm true idx len ax
    | .new idx => (match ax with
      | [] => true
      | [ci, ps] => len == 3 && (match gcl[ci]? with | some r => gtb ps (.classLink own idx r.1) | none => false)
      | _ => false)
    | .anewarray idx => (match ax with
      | [] => true
      | [ci, ps] => len == 3 && (match gcl[ci]? with | some r => gtb ps (.classLink own idx r.1) && decide (r.1 ∈ gAO) | none => false)
      | _ => false)
    | .newarray t => len == 2 && (match ax with | [ps] => gtb ps (.arrayClass (newarray.typeOf t)) | _ => false)
    | .getstatic _ | .invokevirtual _ | .invokespecial _ | .invokestatic _ => true
    | _ => len == 1
/-! rows of a class -/
theorem gcl_cases {ci : Nat} {r : vw_C} (h : gcl[ci]? = some r) {P : Nat → vw_C → Prop} (h0 : P 0 (RX0, TX0, 3)) (h1 : P 1 (RX1, TX1, 2)) (h2 : P 2 (RX2, TX2, 6)) (h3 : P 3 (RX3, TX3, 6)) (h4 : P 4 (RX4, TX4, 5)) (h5 : P 5 (RX5, TX5, 5)) (h6 : P 6 (RX6, TX6, 2)) (h7 : P 7 (RX7, TX7, 9)) (h8 : P 8 (RX8, TX8, 5)) (h9 : P 9 (RX9, TX9, 18)) (h10 : P 10 (RX10, TX10, 54)) : P ci r := by
  match ci, h with
  | 0, h => cases h; exact h0
  | 1, h => cases h; exact h1
  | 2, h => cases h; exact h2
  | 3, h => cases h; exact h3
  | 4, h => cases h; exact h4
  | 5, h => cases h; exact h5
  | 6, h => cases h; exact h6
  | 7, h => cases h; exact h7
  | 8, h => cases h; exact h8
  | 9, h => cases h; exact h9
  | 10, h => cases h; exact h10
  | n + 11, h => simp [gcl] at h
theorem gcl_ty {ci : Nat} {r : vw_C} (h : gcl[ci]? = some r) : ∀ k, k < r.2.2 → parseFieldDescriptor (r.2.1 k).2.2.1 = some (gty ci k) :=
  gcl_cases (P := fun ci r => ∀ k, k < r.2.2 → parseFieldDescriptor (r.2.1 k).2.2.1 = some (gty ci k)) h tyX0_ok tyX1_ok tyX2_ok tyX3_ok tyX4_ok tyX5_ok tyX6_ok tyX7_ok tyX8_ok tyX9_ok tyX10_ok
theorem gcl_nm {ci : Nat} {r : vw_C} (h : gcl[ci]? = some r) : ∀ a, a < r.2.2 → ∀ b, b < r.2.2 → a ≠ b → (r.2.1 a).2.1 ≠ (r.2.1 b).2.1 :=
  gcl_cases (P := fun _ r => ∀ a, a < r.2.2 → ∀ b, b < r.2.2 → a ≠ b → (r.2.1 a).2.1 ≠ (r.2.1 b).2.1) h nmX0 nmX1 nmX2 nmX3 nmX4 nmX5 nmX6 nmX7 nmX8 nmX9 nmX10
theorem gcl_lay {C : String} {T : u_T} {N : Nat} (h : ∀ w ∈ u_ws C T N, w ∈ lw_tbl) : ∀ w ∈ u_ws C T N, w ∈ gGW := by
  intro w hw
  refine List.mem_filter.mpr ⟨h w hw, ?_⟩
  obtain ⟨k, -, rfl⟩ := List.mem_map.mp hw
  unfold u_lay
  split <;> rfl
theorem gcl_in {ci : Nat} {r : vw_C} (h : gcl[ci]? = some r) : ∀ w ∈ u_ws r.1 r.2.1 r.2.2, w ∈ gGW :=
  gcl_cases (P := fun _ r => ∀ w ∈ u_ws r.1 r.2.1 r.2.2, w ∈ gGW) h (gcl_lay iX0) (gcl_lay iX1) (gcl_lay iX2) (gcl_lay iX3) (gcl_lay iX4) (gcl_lay iX5) (gcl_lay iX6) (gcl_lay iX7) (gcl_lay iX8) (gcl_lay iX9) (gcl_lay iX10)
def gmk (C : String) (N : Nat) : Prop := Cond.instantiable C N ∈ gGW ∧ Cond.initialized C ∈ gGW
theorem gmk_of {C : String} {N p1 p2 : Nat} (h : (gtb p1 (.instantiable C N) && gtb p2 (.initialized C)) = true) : gmk C N := by
  rw [Bool.and_eq_true] at h
  exact ⟨gtb_good h.1 rfl, gtb_good h.2 rfl⟩
theorem gmk0 : gmk RX0 3 := gmk_of (p1 := 108) (p2 := 5) (by decide +kernel)
theorem gmk1 : gmk RX1 2 := gmk_of (p1 := 149) (p2 := 7) (by decide +kernel)
theorem gmk2 : gmk RX2 6 := gmk_of (p1 := 81) (p2 := 4) (by decide +kernel)
theorem gmk3 : gmk RX3 6 := gmk_of (p1 := 589) (p2 := 17) (by decide +kernel)
theorem gmk4 : gmk RX4 5 := gmk_of (p1 := 114) (p2 := 6) (by decide +kernel)
theorem gmk5 : gmk RX5 5 := gmk_of (p1 := 37) (p2 := 2) (by decide +kernel)
theorem gmk6 : gmk RX6 2 := gmk_of (p1 := 64) (p2 := 3) (by decide +kernel)
theorem gmk7 : gmk RX7 9 := gmk_of (p1 := 246) (p2 := 10) (by decide +kernel)
theorem gmk8 : gmk RX8 5 := gmk_of (p1 := 162) (p2 := 8) (by decide +kernel)
theorem gmk9 : gmk RX9 18 := gmk_of (p1 := 24) (p2 := 1) (by decide +kernel)
theorem gmk10 : gmk RX10 54 := gmk_of (p1 := 836) (p2 := 9) (by decide +kernel)
theorem gcl_mk {ci : Nat} {r : vw_C} (h : gcl[ci]? = some r) : gmk r.1 r.2.2 :=
  gcl_cases (P := fun _ r => gmk r.1 r.2.2) h gmk0 gmk1 gmk2 gmk3 gmk4 gmk5 gmk6 gmk7 gmk8 gmk9 gmk10
