abbrev RJ6 : String := "java/lang/Integer"
abbrev cJ6_bitCount_0f7a4 : ByteArray := prog_22_method_49_code
def yJ6_bitCount_0f7a4 : MethodName := ⟨RJ6, "bitCount", "(I)I"⟩
def zUsh (x y : Int32) : Int32 := (x.toUInt32 >>> (y.toUInt32 &&& Int32.toUInt32 31)).toInt32
def zLus (x : Int64) (y : Int32) : Int64 := (x.toUInt64 >>> (y.toInt64.toUInt64 &&& Int64.toUInt64 63)).toInt64
def zLsh (x : Int64) (y : Int32) : Int64 := x <<< (y.toInt64 &&& 63)
def zI2c (x : Int32) : Int32 := (x.toUInt32 % 65536).toInt32
def zPk (D : va_G) (cy : Nat → ClassId) : State → Prop := fun U => va_K D vwCl (zTy cy) U ∧ zKN U
section ZE
variable {p : Program} {l : Launch} {e : Env} {R rm : Room} {s : State} {m : MethodId} {args : Array Value} {below : List Frame} {meth : Method} {c : Code} {H H0 : Heap} {locs : List Loc} {cells slots : Nat} {Q : State → Prop}
variable {own : String} {cc : ByteArray} {nL pc : Nat} {ls : Array Slot} {rest As : List Value} {D : va_G} {cy : Nat → ClassId}
theorem zr_preK (cx : zX own cc nL p s m args c D cy) : PreS s H (va_Pc As (zPk D cy)) As := zr_preS (fun a U g mk h => ⟨va_K.moved (u := U) (U := U.calling g mk a) (Vm.Alike.refl U.vm) h.1, zKN_same (s := U) (U := U.calling g mk a) rfl h.2⟩) (fun U _ hW => ⟨va_K.moved hW.alike cx.2.2.2.2.2.1, zKN_warm hW cx.2.2.2.2.2.2⟩)
theorem zr_tsD (hexec : p.tables.exec = Jvm.exec) (hb : c.code = cc) {dflt lo hi : Int} {offs : Array Int} {len : Nat} {x : Int32} {tgt : Nat} (hdg : decode cc pc = .ok (.tableswitch dflt lo hi offs, len)) (hd : lo ≤ x.toInt → x.toInt ≤ hi → offs[(x.toInt - lo).toNat]? = some dflt) (ht : (pc : Int) + dflt = (tgt : Int))
    (k : W p l e R s m args below meth c H locs cells slots Q (F0 m tgt ls rest)) : W p l e R s m args below meth c H locs cells slots Q (F0 m pc ls (.int x :: rest)) := by
  by_cases h : x.toInt < lo ∨ hi < x.toInt
  · exact lv_tableOut hexec hb hdg h ht k
  · exact lv_tableIn hexec hb hdg (fun q => h (Or.inl q)) (fun q => h (Or.inr q)) (hd (by omega) (by omega)) ht k
end ZE
