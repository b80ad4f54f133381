set_option maxRecDepth 50000 in
theorem kJ6_bitCount_0f7a4 {E : zE} {d : Nat} {σ : zS} {Q : Option Value → zS → Prop} {v0 : Int32}
  (h : Q (some (.int ((((((((v0 - (((v0.toUInt32 >>> ((1 : Int32).toUInt32 &&& Int32.toUInt32 31)).toInt32) &&& (1431655765 : Int32))) &&& (858993459 : Int32)) + ((((v0 - (((v0.toUInt32 >>> ((1 : Int32).toUInt32 &&& Int32.toUInt32 31)).toInt32) &&& (1431655765 : Int32))).toUInt32 >>> ((2 : Int32).toUInt32 &&& Int32.toUInt32 31)).toInt32) &&& (858993459 : Int32))) + (((((v0 - (((v0.toUInt32 >>> ((1 : Int32).toUInt32 &&& Int32.toUInt32 31)).toInt32) &&& (1431655765 : Int32))) &&& (858993459 : Int32)) + ((((v0 - (((v0.toUInt32 >>> ((1 : Int32).toUInt32 &&& Int32.toUInt32 31)).toInt32) &&& (1431655765 : Int32))).toUInt32 >>> ((2 : Int32).toUInt32 &&& Int32.toUInt32 31)).toInt32) &&& (858993459 : Int32))).toUInt32 >>> ((4 : Int32).toUInt32 &&& Int32.toUInt32 31)).toInt32)) &&& (252645135 : Int32)) + (((((((v0 - (((v0.toUInt32 >>> ((1 : Int32).toUInt32 &&& Int32.toUInt32 31)).toInt32) &&& (1431655765 : Int32))) &&& (858993459 : Int32)) + ((((v0 - (((v0.toUInt32 >>> ((1 : Int32).toUInt32 &&& Int32.toUInt32 31)).toInt32) &&& (1431655765 : Int32))).toUInt32 >>> ((2 : Int32).toUInt32 &&& Int32.toUInt32 31)).toInt32) &&& (858993459 : Int32))) + (((((v0 - (((v0.toUInt32 >>> ((1 : Int32).toUInt32 &&& Int32.toUInt32 31)).toInt32) &&& (1431655765 : Int32))) &&& (858993459 : Int32)) + ((((v0 - (((v0.toUInt32 >>> ((1 : Int32).toUInt32 &&& Int32.toUInt32 31)).toInt32) &&& (1431655765 : Int32))).toUInt32 >>> ((2 : Int32).toUInt32 &&& Int32.toUInt32 31)).toInt32) &&& (858993459 : Int32))).toUInt32 >>> ((4 : Int32).toUInt32 &&& Int32.toUInt32 31)).toInt32)) &&& (252645135 : Int32)).toUInt32 >>> ((8 : Int32).toUInt32 &&& Int32.toUInt32 31)).toInt32)) + ((((((((v0 - (((v0.toUInt32 >>> ((1 : Int32).toUInt32 &&& Int32.toUInt32 31)).toInt32) &&& (1431655765 : Int32))) &&& (858993459 : Int32)) + ((((v0 - (((v0.toUInt32 >>> ((1 : Int32).toUInt32 &&& Int32.toUInt32 31)).toInt32) &&& (1431655765 : Int32))).toUInt32 >>> ((2 : Int32).toUInt32 &&& Int32.toUInt32 31)).toInt32) &&& (858993459 : Int32))) + (((((v0 - (((v0.toUInt32 >>> ((1 : Int32).toUInt32 &&& Int32.toUInt32 31)).toInt32) &&& (1431655765 : Int32))) &&& (858993459 : Int32)) + ((((v0 - (((v0.toUInt32 >>> ((1 : Int32).toUInt32 &&& Int32.toUInt32 31)).toInt32) &&& (1431655765 : Int32))).toUInt32 >>> ((2 : Int32).toUInt32 &&& Int32.toUInt32 31)).toInt32) &&& (858993459 : Int32))).toUInt32 >>> ((4 : Int32).toUInt32 &&& Int32.toUInt32 31)).toInt32)) &&& (252645135 : Int32)) + (((((((v0 - (((v0.toUInt32 >>> ((1 : Int32).toUInt32 &&& Int32.toUInt32 31)).toInt32) &&& (1431655765 : Int32))) &&& (858993459 : Int32)) + ((((v0 - (((v0.toUInt32 >>> ((1 : Int32).toUInt32 &&& Int32.toUInt32 31)).toInt32) &&& (1431655765 : Int32))).toUInt32 >>> ((2 : Int32).toUInt32 &&& Int32.toUInt32 31)).toInt32) &&& (858993459 : Int32))) + (((((v0 - (((v0.toUInt32 >>> ((1 : Int32).toUInt32 &&& Int32.toUInt32 31)).toInt32) &&& (1431655765 : Int32))) &&& (858993459 : Int32)) + ((((v0 - (((v0.toUInt32 >>> ((1 : Int32).toUInt32 &&& Int32.toUInt32 31)).toInt32) &&& (1431655765 : Int32))).toUInt32 >>> ((2 : Int32).toUInt32 &&& Int32.toUInt32 31)).toInt32) &&& (858993459 : Int32))).toUInt32 >>> ((4 : Int32).toUInt32 &&& Int32.toUInt32 31)).toInt32)) &&& (252645135 : Int32)).toUInt32 >>> ((8 : Int32).toUInt32 &&& Int32.toUInt32 31)).toInt32)).toUInt32 >>> ((16 : Int32).toUInt32 &&& Int32.toUInt32 31)).toInt32)) &&& (63 : Int32)))) σ) :
  zx E (d + 1) mJ6_bitCount_0f7a4 0 [(0, .int v0)] [] σ Q := by
  refine zx_iload_n dJ6_bitCount_0f7a4_0 rfl 0 rfl ?_
  refine zx_iload_n dJ6_bitCount_0f7a4_1 rfl 0 rfl ?_
  refine zx_iconst dJ6_bitCount_0f7a4_2 ic_1 ?_
  refine zx_iushr dJ6_bitCount_0f7a4_3 rfl ?_
  refine zx_ldc_w dJ6_bitCount_0f7a4_4 kcJ6_265 ?_
  refine zx_iand dJ6_bitCount_0f7a4_7 ?_
  refine zx_isub dJ6_bitCount_0f7a4_8 ?_
  refine zx_istore_n (l' := [(0, _)]) dJ6_bitCount_0f7a4_9 rfl (by decide) [0] rfl ?_
  refine zx_iload_n dJ6_bitCount_0f7a4_10 rfl 0 rfl ?_
  refine zx_ldc_w dJ6_bitCount_0f7a4_11 kcJ6_266 ?_
  refine zx_iand dJ6_bitCount_0f7a4_14 ?_
  refine zx_iload_n dJ6_bitCount_0f7a4_15 rfl 0 rfl ?_
  refine zx_iconst dJ6_bitCount_0f7a4_16 ic_2 ?_
  refine zx_iushr dJ6_bitCount_0f7a4_17 rfl ?_
  refine zx_ldc_w dJ6_bitCount_0f7a4_18 kcJ6_266 ?_
  refine zx_iand dJ6_bitCount_0f7a4_21 ?_
  refine zx_iadd dJ6_bitCount_0f7a4_22 ?_
  refine zx_istore_n (l' := [(0, _)]) dJ6_bitCount_0f7a4_23 rfl (by decide) [0] rfl ?_
  refine zx_iload_n dJ6_bitCount_0f7a4_24 rfl 0 rfl ?_
  refine zx_iload_n dJ6_bitCount_0f7a4_25 rfl 0 rfl ?_
  refine zx_iconst dJ6_bitCount_0f7a4_26 ic_4 ?_
  refine zx_iushr dJ6_bitCount_0f7a4_27 rfl ?_
  refine zx_iadd dJ6_bitCount_0f7a4_28 ?_
  refine zx_ldc_w dJ6_bitCount_0f7a4_29 kcJ6_267 ?_
  refine zx_iand dJ6_bitCount_0f7a4_32 ?_
  refine zx_istore_n (l' := [(0, _)]) dJ6_bitCount_0f7a4_33 rfl (by decide) [0] rfl ?_
  refine zx_iload_n dJ6_bitCount_0f7a4_34 rfl 0 rfl ?_
  refine zx_iload_n dJ6_bitCount_0f7a4_35 rfl 0 rfl ?_
  refine zx_bipush dJ6_bitCount_0f7a4_36 bp_8 ?_
  refine zx_iushr dJ6_bitCount_0f7a4_38 rfl ?_
  refine zx_iadd dJ6_bitCount_0f7a4_39 ?_
  refine zx_istore_n (l' := [(0, _)]) dJ6_bitCount_0f7a4_40 rfl (by decide) [0] rfl ?_
  refine zx_iload_n dJ6_bitCount_0f7a4_41 rfl 0 rfl ?_
  refine zx_iload_n dJ6_bitCount_0f7a4_42 rfl 0 rfl ?_
  refine zx_bipush dJ6_bitCount_0f7a4_43 bp_16 ?_
  refine zx_iushr dJ6_bitCount_0f7a4_45 rfl ?_
  refine zx_iadd dJ6_bitCount_0f7a4_46 ?_
  refine zx_istore_n (l' := [(0, _)]) dJ6_bitCount_0f7a4_47 rfl (by decide) [0] rfl ?_
  refine zx_iload_n dJ6_bitCount_0f7a4_48 rfl 0 rfl ?_
  refine zx_bipush dJ6_bitCount_0f7a4_49 bp_63 ?_
  refine zx_iand dJ6_bitCount_0f7a4_51 ?_
  refine zx_iret dJ6_bitCount_0f7a4_52 rfl ⟨rfl, rfl, rfl, rfl⟩ h
