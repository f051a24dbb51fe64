/-! pure: how many bits an int has -/
/-- 14 bits of an int -/
def popI (x : Int32) : Int32 :=
  let v9 := (x - (((x).toUInt32 >>> (((1 : Int32)).toUInt32 &&& Int32.toUInt32 31)).toInt32 &&& (1431655765 : Int32)))
  let v23 := ((v9 &&& (858993459 : Int32)) + (((v9).toUInt32 >>> (((2 : Int32)).toUInt32 &&& Int32.toUInt32 31)).toInt32 &&& (858993459 : Int32)))
  let v33 := ((v23 + ((v23).toUInt32 >>> (((4 : Int32)).toUInt32 &&& Int32.toUInt32 31)).toInt32) &&& (252645135 : Int32))
  let v40 := (v33 + ((v33).toUInt32 >>> (((8 : Int32)).toUInt32 &&& Int32.toUInt32 31)).toInt32)
  let v47 := (v40 + ((v40).toUInt32 >>> (((16 : Int32)).toUInt32 &&& Int32.toUInt32 31)).toInt32)
  v47 &&& (63 : Int32)
theorem popI_ok : ∀ a : Fin 128, ∀ b : Fin 128, popI (nI (128 * a.val + b.val)) = nI (fb_ct (fun k => (128 * a.val + b.val).testBit k) 14) := by decide +kernel
theorem pop_I {Q : Int32 → Prop} (v : Nat) (hv : v < 16384) (hQ : Q (nI (fb_ct (fun k => v.testBit k) 14))) : wp_J6_bitCount_0f7a4_0 Q (nI v) := by
  unfold wp_J6_bitCount_0f7a4_0
  rintro _ rfl _ rfl _ rfl _ rfl _ rfl
  have := popI_ok ⟨v / 128, by omega⟩ ⟨v % 128, by omega⟩
  rw [show 128 * (v / 128) + v % 128 = v by omega] at this
  rw [← this] at hQ
  exact hQ
