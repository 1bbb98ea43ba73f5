section KT1
variable {l : Launch} {y : MethodName} {rm : Room} {D : va_G} {cI cJ cZ : ClassId} {W0 : va_W} {sz mc ms maxL : Nat} {av : List Value} {cc : ByteArray} {ret : Option FieldType}
theorem kt_ofM {Qc : (Nat → Prop) → Array Value → State → Outcome → State → Prop} (hy : plainName y.cls = true) (hm : (lg_sl av).length ≤ maxL)
    (body : ∀ p e s m args below meth c A Q, kt_In p s m args meth c cc maxL ret y D cI cJ cZ A → va_P D vwCl W0 s.heap → va_D A W0 → va_S A s.heap s.heap [] → MQ below (Qc A) args s mc ms A = Q →
      ∀ ls, lv_has ls maxL (lv_args 0 av) → W p l e rm s m args below meth c s.heap [] 0 0 Q (F0 m 0 ls [])) : Met l y (Cond.code y cc maxL ret :: kt_G) rm (kt_P D cI cJ cZ W0 sz av) (Qc (va_A W0 sz)) mc ms (va_A W0 sz) := by
  refine Met.ofW (cc := cc) (maxL := maxL) (ret := ret) hy rfl ?_
  intro p e s m args below meth c s₁ B hml hv
  obtain ⟨rfl, hsz, hC, hZ, hP, hD⟩ := hv
  rw [lg_entry_eq]
  exact body p e s m _ below meth c (va_A W0 sz) _ ⟨B.exec, B.bytes, B.returns, fun w hw => atoms_spec (ws := Cond.code y cc maxL ret :: kt_G) B.pre w (List.mem_cons_of_mem _ hw), findClass_of_methodNamed B.named, B.notSynchronized, (name_of_methodNamed B.named B.method).1, hml, hC, hZ, fun q h => Or.inr (by rw [← hsz]; exact h)⟩ hP hD va_S.rf rfl _ (lv_entry av hm)
theorem kt_ofX {Qc : (Nat → Prop) → Array Value → State → Outcome → State → Prop} {XC : (Nat → Prop) → String → State → State → Prop} (hy : plainName y.cls = true) (hm : (lg_sl av).length ≤ maxL)
    (body : ∀ p e s m args below meth c A Q, kt_In p s m args meth c cc maxL ret y D cI cJ cZ A → (∀ x ∈ c.exceptionTable.toList, False) → va_P D vwCl W0 s.heap → va_D A W0 → va_S A s.heap s.heap [] → vx_MQ below (Qc A) (XC A) args s mc ms A = Q →
      ∀ ls, lv_has ls maxL (lv_args 0 av) → W p l e rm s m args below meth c s.heap [] 0 0 Q (F0 m 0 ls [])) : vx_Met l y (Cond.code y cc maxL ret :: kt_G) rm (kt_P D cI cJ cZ W0 sz av) (Qc (va_A W0 sz)) (XC (va_A W0 sz)) mc ms (va_A W0 sz) := by
  refine vx_ofW (cc := cc) (maxL := maxL) (ret := ret) hy rfl ?_
  intro p e s m args below meth c s₁ B hml htab hv
  obtain ⟨rfl, hsz, hC, hZ, hP, hD⟩ := hv
  rw [lg_entry_eq]
  exact body p e s m _ below meth c (va_A W0 sz) _ ⟨B.exec, B.bytes, B.returns, fun w hw => atoms_spec (ws := Cond.code y cc maxL ret :: kt_G) B.pre w (List.mem_cons_of_mem _ hw), findClass_of_methodNamed B.named, B.notSynchronized, (name_of_methodNamed B.named B.method).1, hml, hC, hZ, fun q h => Or.inr (by rw [← hsz]; exact h)⟩ htab hP hD va_S.rf rfl _ (lv_entry av hm)
theorem kt_ofH {hh : List (Nat × Nat × Nat × Nat)} {Qc : (Nat → Prop) → Array Value → State → Outcome → State → Prop} (hy : plainName y.cls = true) (hm : (lg_sl av).length ≤ maxL)
    (body : ∀ p e s m args below meth c A Q, kt_In p s m args meth c cc maxL ret y D cI cJ cZ A → c.exceptionTable.toList = tableOf hh → va_P D vwCl W0 s.heap → va_D A W0 → va_S A s.heap s.heap [] → MQ below (Qc A) args s mc ms A = Q →
      ∀ ls, lv_has ls maxL (lv_args 0 av) → W p l e rm s m args below meth c s.heap [] 0 0 Q (F0 m 0 ls [])) : Met l y (Cond.codeWith y cc maxL ret hh :: kt_G) rm (kt_P D cI cJ cZ W0 sz av) (Qc (va_A W0 sz)) mc ms (va_A W0 sz) := by
  refine va_MetW (cc := cc) (maxL := maxL) (ret := ret) (hh := hh) hy rfl ?_
  intro p e s m args below meth c s₁ B hml hv
  obtain ⟨rfl, hsz, hC, hZ, hP, hD⟩ := hv
  rw [lg_entry_eq]
  exact body p e s m _ below meth c (va_A W0 sz) _ ⟨B.exec, B.bytes, B.returns, fun w hw => atoms_spec (ws := Cond.codeWith y cc maxL ret hh :: kt_G) B.pre w (List.mem_cons_of_mem _ hw), findClass_of_methodNamed B.named, B.notSynchronized, (name_of_methodNamed B.named B.method).1, hml, hC, hZ, fun q h => Or.inr (by rw [← hsz]; exact h)⟩ (vx_table (x := y) (hh := hh) (bytes := cc) (maxL' := maxL) (ret' := ret) B (atoms_spec (ws := Cond.codeWith y cc maxL ret hh :: kt_G) B.pre _ List.mem_cons_self)) hP hD va_S.rf rfl _ (lv_entry av hm)
end KT1
