/-! What it says that a resolved instruction stands at a place of a method: the bytes decode to it, and the words of its links are among the tables' words. -/
def am_strLen : MethodName := ⟨"java/lang/String", "length", "()I"⟩
def am_strAt : MethodName := ⟨"java/lang/String", "charAt", "(I)C"⟩
/-- instructions that need no link -/
def am_plain : Instr → Bool
  | .getfield _ | .putfield _ | .invokevirtual _ | .invokespecial _ | .invokestatic _ | .new _ | .ldc _ | .ldc_w _ | .ldc2_w _ | .anewarray _ | .multianewarray _ _ => false
  | _ => true
def am_IAE : String := "java/lang/IllegalArgumentException"
def am_NSE : String := "java/util/NoSuchElementException"
def am_exn (t : Nat) : String := if t % 10 = 0 then am_IAE else am_NSE
def am_sup : List String := ["java/lang/RuntimeException", "java/lang/Exception"]
def am_ok (j pc : Nat) (i : Instr) (len : Nat) : Prop :=
  match i with
  | .getfield q => ∃ idx, decode (am_cc j) pc = .ok (.getfield idx, len) ∧ Cond.fieldLink (am_y j).cls idx (am_T (q / 10000) (q % 10000 / 10)).1 (am_T (q / 10000) (q % 10000 / 10)).2.1 (am_T (q / 10000) (q % 10000 / 10)).2.2.1 ∈ lw_tbl
  | .putfield q => ∃ idx, decode (am_cc j) pc = .ok (.putfield idx, len) ∧ Cond.fieldLink (am_y j).cls idx (am_T (q / 10000) (q % 10000 / 10)).1 (am_T (q / 10000) (q % 10000 / 10)).2.1 (am_T (q / 10000) (q % 10000 / 10)).2.2.1 ∈ lw_tbl
  | .invokevirtual t => ∃ idx, decode (am_cc j) pc = .ok (.invokevirtual idx, len) ∧ ((t = 1002 ∧ Cond.methodLink (am_y j).cls idx am_strLen ∈ lw_tbl) ∨ (t = 1003 ∧ Cond.methodLink (am_y j).cls idx am_strAt ∈ lw_tbl) ∨ (t < 1000 ∧ Cond.methodLink (am_y j).cls idx (am_y t) ∈ lw_tbl ∧ Cond.instanceMethod (am_y t) ∈ lw_tbl ∧ Cond.selects (am_y t).cls (am_y t) (am_y t) ∈ lw_tbl))
  | .invokespecial t => ∃ idx, decode (am_cc j) pc = .ok (.invokespecial idx, len) ∧ ((t = 1000 ∧ Cond.methodLink (am_y j).cls idx Lib.objectInit ∈ lw_tbl) ∨ (t < 1000 ∧ (am_y t).name = "<init>" ∧ Cond.instanceMethod (am_y t) ∈ lw_tbl ∧ (Cond.methodLink (am_y j).cls idx (am_y t) ∈ lw_tbl ∨ ∃ host, Cond.methodLinkNest (am_y j).cls idx (am_y t) host ∈ lw_tbl)))
  | .invokestatic t => ∃ idx, decode (am_cc j) pc = .ok (.invokestatic idx, len) ∧ ((t = 1001 ∧ Cond.methodLink (am_y j).cls idx arraycopyName ∈ lw_tbl) ∨ (t < 1000 ∧ Cond.static (am_y t) ∈ lw_tbl ∧ (Cond.methodLink (am_y j).cls idx (am_y t) ∈ lw_tbl ∨ ∃ host, Cond.methodLinkNest (am_y j).cls idx (am_y t) host ∈ lw_tbl)))
  | .new t => (t < 12 ∧ ∃ idx, decode (am_cc j) pc = .ok (.new idx, len) ∧ Cond.classLink (am_y j).cls idx (am_cn t) ∈ lw_tbl) ∨
      (100 ≤ t ∧ (am_y j).cls = RX10 ∧ ∃ (ik is ic k : Nat) (tx : String), decode (am_cc j) pc = .ok (.new ik, 3) ∧ decode (am_cc j) (pc + 3) = .ok (.dup, 1) ∧ am_str[k]? = some (RX10, is, tx) ∧ Cond.classLink (am_y j).cls ik (am_exn t) ∈ lw_tbl ∧
        (((t = 100 ∧ ic = 112 ∨ t = 101 ∧ ic = 168) ∧ decode (am_cc j) (pc + 4) = .ok (.ldc is, 2) ∧ decode (am_cc j) (pc + 6) = .ok (.invokespecial ic, 3) ∧ decode (am_cc j) (pc + 9) = .ok (.athrow, 1)) ∨
         ((t = 110 ∧ ic = 112 ∨ t = 111 ∧ ic = 168) ∧ decode (am_cc j) (pc + 4) = .ok (.ldc_w is, 3) ∧ decode (am_cc j) (pc + 7) = .ok (.invokespecial ic, 3) ∧ decode (am_cc j) (pc + 10) = .ok (.athrow, 1))))
  | .ldc k => ∃ (idx : Nat) (tx : String), decode (am_cc j) pc = .ok (.ldc idx, len) ∧ am_str[k]? = some ((am_y j).cls, idx, tx)
  | .ldc_w v => ∃ idx, decode (am_cc j) pc = .ok (.ldc_w idx, len) ∧ len = 3 ∧ Cond.constant (am_y j).cls idx (Int32.ofNat v) ∈ lw_tbl
  | .ldc2_w v => ∃ idx, decode (am_cc j) pc = .ok (.ldc2_w idx, len) ∧ Cond.constantLong (am_y j).cls idx (Int64.ofNat v) ∈ lw_tbl
  | .anewarray t => t = 4 ∧ ∃ idx, decode (am_cc j) pc = .ok (.anewarray idx, len) ∧ Cond.classLink (am_y j).cls idx (am_cn t) ∈ lw_tbl
  | .multianewarray _ _ => ∃ idx, decode (am_cc j) pc = .ok (.multianewarray idx 2, len) ∧ Cond.classLink (am_y j).cls idx "[[I" ∈ lw_tbl
  | i => decode (am_cc j) pc = .ok (i, len)
theorem am_okp {j pc len : Nat} {i : Instr} (h : am_plain i = true) (hd : decode (am_cc j) pc = .ok (i, len)) : am_ok j pc i len := by
  cases i <;> first | exact hd | (simp [am_plain] at h)
theorem am_okp' {j pc len : Nat} {i : Instr} (h : am_plain i = true) (hd : am_ok j pc i len) : decode (am_cc j) pc = .ok (i, len) := by
  cases i <;> first | exact hd | (simp [am_plain] at h)
theorem am_okps {j : Nat} {l : List (Nat × Instr × Nat)} (h : l.all (fun q => am_plain q.2.1 && decide (decode (am_cc j) q.1 = .ok (q.2.1, q.2.2))) = true) : ∀ q ∈ l, am_ok j q.1 q.2.1 q.2.2 := by
  intro q hq
  have h1 := List.all_eq_true.mp h q hq
  rw [Bool.and_eq_true] at h1
  exact am_okp h1.1 (of_decide_eq_true h1.2)
theorem am_fc {P : Nat × Instr × Nat → Prop} {a : Nat × Instr × Nat} {l : List (Nat × Instr × Nat)} (h : P a) (t : ∀ q ∈ l, P q) : ∀ q ∈ a :: l, P q := List.forall_mem_cons.mpr ⟨h, t⟩
theorem am_fn {P : Nat × Instr × Nat → Prop} : ∀ q ∈ ([] : List (Nat × Instr × Nat)), P q := fun _ h => absurd h List.not_mem_nil
theorem am_okgf {j pc len q : Nat} (idx : Nat) (h1 : decode (am_cc j) pc = .ok (.getfield idx, len)) (h2 : Cond.fieldLink (am_y j).cls idx (am_T (q / 10000) (q % 10000 / 10)).1 (am_T (q / 10000) (q % 10000 / 10)).2.1 (am_T (q / 10000) (q % 10000 / 10)).2.2.1 ∈ lw_tbl) : am_ok j pc (.getfield q) len := ⟨idx, h1, h2⟩
theorem am_okpf {j pc len q : Nat} (idx : Nat) (h1 : decode (am_cc j) pc = .ok (.putfield idx, len)) (h2 : Cond.fieldLink (am_y j).cls idx (am_T (q / 10000) (q % 10000 / 10)).1 (am_T (q / 10000) (q % 10000 / 10)).2.1 (am_T (q / 10000) (q % 10000 / 10)).2.2.1 ∈ lw_tbl) : am_ok j pc (.putfield q) len := ⟨idx, h1, h2⟩
theorem am_okv {j pc len t : Nat} (idx : Nat) (h1 : decode (am_cc j) pc = .ok (.invokevirtual idx, len)) (ht : t < 1000) (h2 : Cond.methodLink (am_y j).cls idx (am_y t) ∈ lw_tbl) (h3 : Cond.instanceMethod (am_y t) ∈ lw_tbl) (h4 : Cond.selects (am_y t).cls (am_y t) (am_y t) ∈ lw_tbl) : am_ok j pc (.invokevirtual t) len := ⟨idx, h1, Or.inr (Or.inr ⟨ht, h2, h3, h4⟩)⟩
theorem am_okv2 {j pc len : Nat} (idx : Nat) (h1 : decode (am_cc j) pc = .ok (.invokevirtual idx, len)) (h2 : Cond.methodLink (am_y j).cls idx am_strLen ∈ lw_tbl) : am_ok j pc (.invokevirtual 1002) len := ⟨idx, h1, Or.inl ⟨rfl, h2⟩⟩
theorem am_okv3 {j pc len : Nat} (idx : Nat) (h1 : decode (am_cc j) pc = .ok (.invokevirtual idx, len)) (h2 : Cond.methodLink (am_y j).cls idx am_strAt ∈ lw_tbl) : am_ok j pc (.invokevirtual 1003) len := ⟨idx, h1, Or.inr (Or.inl ⟨rfl, h2⟩)⟩
theorem am_oki0 {j pc len : Nat} (idx : Nat) (h1 : decode (am_cc j) pc = .ok (.invokespecial idx, len)) (h2 : Cond.methodLink (am_y j).cls idx Lib.objectInit ∈ lw_tbl) : am_ok j pc (.invokespecial 1000) len := ⟨idx, h1, Or.inl ⟨rfl, h2⟩⟩
theorem am_oki {j pc len t : Nat} (idx : Nat) (h1 : decode (am_cc j) pc = .ok (.invokespecial idx, len)) (ht : t < 1000) (hn : (am_y t).name = "<init>") (h3 : Cond.instanceMethod (am_y t) ∈ lw_tbl) (h2 : Cond.methodLink (am_y j).cls idx (am_y t) ∈ lw_tbl ∨ ∃ host, Cond.methodLinkNest (am_y j).cls idx (am_y t) host ∈ lw_tbl) : am_ok j pc (.invokespecial t) len := ⟨idx, h1, Or.inr ⟨ht, hn, h3, h2⟩⟩
theorem am_oks0 {j pc len : Nat} (idx : Nat) (h1 : decode (am_cc j) pc = .ok (.invokestatic idx, len)) (h2 : Cond.methodLink (am_y j).cls idx arraycopyName ∈ lw_tbl) : am_ok j pc (.invokestatic 1001) len := ⟨idx, h1, Or.inl ⟨rfl, h2⟩⟩
theorem am_oks {j pc len t : Nat} (idx : Nat) (h1 : decode (am_cc j) pc = .ok (.invokestatic idx, len)) (ht : t < 1000) (h3 : Cond.static (am_y t) ∈ lw_tbl) (h2 : Cond.methodLink (am_y j).cls idx (am_y t) ∈ lw_tbl ∨ ∃ host, Cond.methodLinkNest (am_y j).cls idx (am_y t) host ∈ lw_tbl) : am_ok j pc (.invokestatic t) len := ⟨idx, h1, Or.inr ⟨ht, h3, h2⟩⟩
theorem am_okn {j pc len t : Nat} (idx : Nat) (ht : t < 12) (h1 : decode (am_cc j) pc = .ok (.new idx, len)) (h2 : Cond.classLink (am_y j).cls idx (am_cn t) ∈ lw_tbl) : am_ok j pc (.new t) len := Or.inl ⟨ht, idx, h1, h2⟩
theorem am_okt {j pc len t : Nat} (ik is ic k : Nat) (tx : String) (ht : 100 ≤ t) (hown : (am_y j).cls = RX10) (h1 : decode (am_cc j) pc = .ok (.new ik, 3)) (h2 : decode (am_cc j) (pc + 3) = .ok (.dup, 1)) (hs : am_str[k]? = some (RX10, is, tx)) (h3 : Cond.classLink (am_y j).cls ik (am_exn t) ∈ lw_tbl)
    (hc : t = 100 ∧ ic = 112 ∨ t = 101 ∧ ic = 168) (h4 : decode (am_cc j) (pc + 4) = .ok (.ldc is, 2)) (h5 : decode (am_cc j) (pc + 6) = .ok (.invokespecial ic, 3)) (h6 : decode (am_cc j) (pc + 9) = .ok (.athrow, 1)) : am_ok j pc (.new t) len := Or.inr ⟨ht, hown, ik, is, ic, k, tx, h1, h2, hs, h3, Or.inl ⟨hc, h4, h5, h6⟩⟩
theorem am_oktw {j pc len t : Nat} (ik is ic k : Nat) (tx : String) (ht : 100 ≤ t) (hown : (am_y j).cls = RX10) (h1 : decode (am_cc j) pc = .ok (.new ik, 3)) (h2 : decode (am_cc j) (pc + 3) = .ok (.dup, 1)) (hs : am_str[k]? = some (RX10, is, tx)) (h3 : Cond.classLink (am_y j).cls ik (am_exn t) ∈ lw_tbl)
    (hc : t = 110 ∧ ic = 112 ∨ t = 111 ∧ ic = 168) (h4 : decode (am_cc j) (pc + 4) = .ok (.ldc_w is, 3)) (h5 : decode (am_cc j) (pc + 7) = .ok (.invokespecial ic, 3)) (h6 : decode (am_cc j) (pc + 10) = .ok (.athrow, 1)) : am_ok j pc (.new t) len := Or.inr ⟨ht, hown, ik, is, ic, k, tx, h1, h2, hs, h3, Or.inr ⟨hc, h4, h5, h6⟩⟩
theorem am_okl {j pc len k : Nat} (idx : Nat) (tx : String) (h1 : decode (am_cc j) pc = .ok (.ldc idx, len)) (h2 : am_str[k]? = some ((am_y j).cls, idx, tx)) : am_ok j pc (.ldc k) len := ⟨idx, tx, h1, h2⟩
theorem am_oklw {j pc v : Nat} (idx : Nat) (h1 : decode (am_cc j) pc = .ok (.ldc_w idx, 3)) (h2 : Cond.constant (am_y j).cls idx (Int32.ofNat v) ∈ lw_tbl) : am_ok j pc (.ldc_w v) 3 := ⟨idx, h1, rfl, h2⟩
theorem am_okl2 {j pc len v : Nat} (idx : Nat) (h1 : decode (am_cc j) pc = .ok (.ldc2_w idx, len)) (h2 : Cond.constantLong (am_y j).cls idx (Int64.ofNat v) ∈ lw_tbl) : am_ok j pc (.ldc2_w v) len := ⟨idx, h1, h2⟩
theorem am_okan {j pc len : Nat} (idx : Nat) (h1 : decode (am_cc j) pc = .ok (.anewarray idx, len)) (h2 : Cond.classLink (am_y j).cls idx (am_cn 4) ∈ lw_tbl) : am_ok j pc (.anewarray 4) len := ⟨rfl, idx, h1, h2⟩
theorem am_okmn {j pc len a b : Nat} (idx : Nat) (h1 : decode (am_cc j) pc = .ok (.multianewarray idx 2, len)) (h2 : Cond.classLink (am_y j).cls idx "[[I" ∈ lw_tbl) : am_ok j pc (.multianewarray a b) len := ⟨idx, h1, h2⟩
