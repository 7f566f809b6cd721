/-! ===== decode rows of the law: its bytes by stretches ===== -/
theorem u1_of {a : ByteArray} {p : Nat} {v : UInt8} (h : a.data.toList[p]? = some v) : ((Reader.u1 : Decoder Nat).run a).run p = .ok (v.toNat, p + 1) := by
  obtain ⟨h1, h2⟩ := List.getElem?_eq_some_iff.mp h
  have hs : p < a.size := h1
  have hv : a[p] = v := h2
  have e : ((Reader.u1 : Decoder Nat).run a).run p = (if h : p < a.size then (do set (p + 1); pure a[p].toNat : Decoder Nat) else throw (HasTruncated.truncated p)) a p := rfl
  rw [e, dif_pos hs]
  show Except.ok (a[p].toNat, p + 1) = _
  rw [hv]
theorem bind_ok {α β : Type} {x : Decoder α} {f : α → Decoder β} {a : ByteArray} {p q : Nat} {v : α} (h : (x.run a).run p = .ok (v, q)) : ((x >>= f).run a).run p = ((f v).run a).run q := by
  have e : ((x >>= f).run a).run p = ((x.run a).run p >>= fun r => ((f r.1).run a).run r.2) := rfl
  rw [e, h]
  rfl
theorem u2_of {a : ByteArray} {p : Nat} {v w : UInt8} (h : a.data.toList[p]? = some v) (h2 : a.data.toList[p + 1]? = some w) : ((Reader.u2 : Decoder Nat).run a).run p = .ok (v.toNat * 256 + w.toNat, p + 2) := by
  have e : (Reader.u2 : Decoder Nat) = (Reader.u1 >>= fun hi => Reader.u1 >>= fun lo => pure (hi * 256 + lo)) := rfl
  rw [e, bind_ok (u1_of h), bind_ok (u1_of h2)]
  rfl
theorem s1_of {a : ByteArray} {p : Nat} {v : UInt8} (h : a.data.toList[p]? = some v) : ((Reader.s1 : Decoder Int).run a).run p = .ok (Reader.signed 8 v.toNat, p + 1) := by
  have e : (Reader.s1 : Decoder Int) = (Reader.u1 >>= fun x => pure (Reader.signed 8 x)) := rfl
  rw [e, bind_ok (u1_of h)]
  rfl
theorem s2_of {a : ByteArray} {p : Nat} {v w : UInt8} (h : a.data.toList[p]? = some v) (h2 : a.data.toList[p + 1]? = some w) : ((Reader.s2 : Decoder Int).run a).run p = .ok (Reader.signed 16 (v.toNat * 256 + w.toNat), p + 2) := by
  have e : (Reader.s2 : Decoder Int) = (Reader.u2 >>= fun x => pure (Reader.signed 16 x)) := rfl
  rw [e, bind_ok (u2_of h h2)]
  rfl
theorem dec_step {a : ByteArray} {pc : Nat} {i : Instr} {q : Nat} (h : ((Decoder.instr pc).run a).run pc = .ok (i, q)) : decode a pc = .ok (i, q - pc) := by
  have e : decode a pc = (((Decoder.instr pc).run a).run pc >>= fun r => pure (r.1, r.2 - pc)) := rfl
  rw [e, h]
  rfl
def lbc_0 : List UInt8 := [0xbb, 0x00, 0x08, 0x59, 0xb7, 0x00, 0xa1, 0x4c, 0xbb, 0x00, 0xa2, 0x59, 0xb7, 0x00, 0xa4, 0x4d, 0xbb, 0x00, 0x0e, 0x59, 0xb7, 0x00, 0xa5, 0x4e, 0x03, 0x36, 0x04, 0x15, 0x04, 0x2a, 0xbe, 0x10, 0x06, 0x64, 0xa3, 0x07, 0xb7, 0x2a, 0x15, 0x04, 0x2e, 0x10, 0x3f, 0x7e, 0xaa, 0x00, 0x00, 0x00, 0x00, 0x00, 0x07, 0xa7, 0x00, 0x00, 0x00, 0x00, 0x00, 0x00, 0x00, 0x2d, 0x00, 0x00, 0x00, 0xc8]
def lbc_1 : List UInt8 := [0x00, 0x00, 0x01, 0x14, 0x00, 0x00, 0x01, 0x3c, 0x00, 0x00, 0x01, 0x70, 0x00, 0x00, 0x01, 0x98, 0x00, 0x00, 0x01, 0xb4, 0x00, 0x00, 0x01, 0xdc, 0x00, 0x00, 0x02, 0x10, 0x00, 0x00, 0x02, 0x2c, 0x00, 0x00, 0x02, 0x54, 0x00, 0x00, 0x02, 0x88, 0x00, 0x00, 0x02, 0xa4, 0x00, 0x00, 0x02, 0xcc, 0x00, 0x00, 0x02, 0xf4, 0x00, 0x00, 0x03, 0x1c, 0x00, 0x00, 0x03, 0x38, 0x00, 0x00, 0x03, 0x60]
def lbc_2 : List UInt8 := [0x00, 0x00, 0x03, 0x88, 0x00, 0x00, 0x03, 0xb0, 0x00, 0x00, 0x03, 0xd8, 0x00, 0x00, 0x04, 0x00, 0x00, 0x00, 0x04, 0x28, 0x00, 0x00, 0x04, 0x50, 0x00, 0x00, 0x04, 0x78, 0x00, 0x00, 0x04, 0xac, 0x00, 0x00, 0x04, 0xc8, 0x00, 0x00, 0x04, 0xe4, 0x00, 0x00, 0x05, 0x00, 0x00, 0x00, 0x05, 0x28, 0x00, 0x00, 0x05, 0x44, 0x00, 0x00, 0x05, 0x60, 0x00, 0x00, 0x05, 0x7c, 0x00, 0x00, 0x05, 0x98]
def lbc_3 : List UInt8 := [0x00, 0x00, 0x05, 0xc0, 0x00, 0x00, 0x05, 0xe8, 0x00, 0x00, 0x06, 0x2c, 0x00, 0x00, 0x06, 0x64, 0x00, 0x00, 0x06, 0x80, 0x00, 0x00, 0x06, 0x9c, 0x00, 0x00, 0x06, 0xb8, 0x00, 0x00, 0x06, 0xe0, 0x00, 0x00, 0x07, 0x2c, 0x00, 0x00, 0x07, 0x64, 0x00, 0x00, 0x07, 0x80, 0x00, 0x00, 0x07, 0x8d, 0x00, 0x00, 0x07, 0x9a, 0x2b, 0x2a, 0x15, 0x04, 0x04, 0x60, 0x2e, 0x2a, 0x15, 0x04, 0x05, 0x60]
def lbc_4 : List UInt8 := [0x2e, 0x2a, 0x15, 0x04, 0x06, 0x60, 0x2e, 0x2a, 0x15, 0x04, 0x07, 0x60, 0x2e, 0x2a, 0x15, 0x04, 0x08, 0x60, 0x2e, 0x2d, 0xb8, 0x00, 0xa6, 0x36, 0x05, 0x2c, 0x2a, 0x15, 0x04, 0x04, 0x60, 0x2e, 0x2a, 0x15, 0x04, 0x05, 0x60, 0x2e, 0x2a, 0x15, 0x04, 0x06, 0x60, 0x2e, 0x2a, 0x15, 0x04, 0x07, 0x60, 0x2e, 0x2a, 0x15, 0x04, 0x08, 0x60, 0x2e, 0xb6, 0x00, 0xab, 0x36, 0x06, 0xa7, 0x06, 0x96]
def lbc_5 : List UInt8 := [0x2b, 0x2a, 0x15, 0x04, 0x04, 0x60, 0x2e, 0x2a, 0x15, 0x04, 0x05, 0x60, 0x2e, 0x2d, 0xb8, 0x00, 0xac, 0x36, 0x05, 0x2c, 0x2a, 0x15, 0x04, 0x04, 0x60, 0x2e, 0x2a, 0x15, 0x04, 0x05, 0x60, 0x2e, 0xb6, 0x00, 0xaf, 0x36, 0x06, 0xa7, 0x06, 0x6e, 0x2b, 0x2a, 0x15, 0x04, 0x04, 0x60, 0x2e, 0x2a, 0x15, 0x04, 0x05, 0x60, 0x2e, 0x2a, 0x15, 0x04, 0x06, 0x60, 0x2e, 0x2d, 0xb8, 0x00, 0xb0, 0x36]
def lbc_6 : List UInt8 := [0x05, 0x2c, 0x2a, 0x15, 0x04, 0x04, 0x60, 0x2e, 0x2a, 0x15, 0x04, 0x05, 0x60, 0x2e, 0x2a, 0x15, 0x04, 0x06, 0x60, 0x2e, 0xb6, 0x00, 0xb3, 0x36, 0x06, 0xa7, 0x06, 0x3a, 0x2b, 0x2a, 0x15, 0x04, 0x04, 0x60, 0x2e, 0x2a, 0x15, 0x04, 0x05, 0x60, 0x2e, 0x2d, 0xb8, 0x00, 0xb4, 0x36, 0x05, 0x2c, 0x2a, 0x15, 0x04, 0x04, 0x60, 0x2e, 0x2a, 0x15, 0x04, 0x05, 0x60, 0x2e, 0xb6, 0x00, 0xb6, 0x36]
def lbc_7 : List UInt8 := [0x06, 0xa7, 0x06, 0x12, 0x2b, 0x2a, 0x15, 0x04, 0x04, 0x60, 0x2e, 0x2d, 0xb8, 0x00, 0xb7, 0x36, 0x05, 0x2c, 0x2a, 0x15, 0x04, 0x04, 0x60, 0x2e, 0xb6, 0x00, 0xba, 0x36, 0x06, 0xa7, 0x05, 0xf6, 0x2b, 0x2a, 0x15, 0x04, 0x04, 0x60, 0x2e, 0x2a, 0x15, 0x04, 0x05, 0x60, 0x2e, 0x2d, 0xb8, 0x00, 0xbb, 0x36, 0x05, 0x2c, 0x2a, 0x15, 0x04, 0x04, 0x60, 0x2e, 0x2a, 0x15, 0x04, 0x05, 0x60, 0x2e]
def lbc_8 : List UInt8 := [0xb6, 0x00, 0xbd, 0x36, 0x06, 0xa7, 0x05, 0xce, 0x2b, 0x2a, 0x15, 0x04, 0x04, 0x60, 0x2e, 0x2a, 0x15, 0x04, 0x05, 0x60, 0x2e, 0x2a, 0x15, 0x04, 0x06, 0x60, 0x2e, 0x2d, 0xb8, 0x00, 0xbe, 0x36, 0x05, 0x2c, 0x2a, 0x15, 0x04, 0x04, 0x60, 0x2e, 0x2a, 0x15, 0x04, 0x05, 0x60, 0x2e, 0x2a, 0x15, 0x04, 0x06, 0x60, 0x2e, 0xb6, 0x00, 0xc0, 0x36, 0x06, 0xa7, 0x05, 0x9a, 0x2b, 0x2a, 0x15, 0x04]
def lbc_9 : List UInt8 := [0x04, 0x60, 0x2e, 0x2d, 0xb8, 0x00, 0xc1, 0x36, 0x05, 0x2c, 0x2a, 0x15, 0x04, 0x04, 0x60, 0x2e, 0xb6, 0x00, 0xc3, 0x36, 0x06, 0xa7, 0x05, 0x7e, 0x2b, 0x2a, 0x15, 0x04, 0x04, 0x60, 0x2e, 0x2a, 0x15, 0x04, 0x05, 0x60, 0x2e, 0x2d, 0xb8, 0x00, 0xc4, 0x36, 0x05, 0x2c, 0x2a, 0x15, 0x04, 0x04, 0x60, 0x2e, 0x2a, 0x15, 0x04, 0x05, 0x60, 0x2e, 0xb6, 0x00, 0xc6, 0x36, 0x06, 0xa7, 0x05, 0x56]
def lbc_10 : List UInt8 := [0x2b, 0x2a, 0x15, 0x04, 0x04, 0x60, 0x2e, 0x2a, 0x15, 0x04, 0x05, 0x60, 0x2e, 0x2a, 0x15, 0x04, 0x06, 0x60, 0x2e, 0x2d, 0xb8, 0x00, 0xc7, 0x36, 0x05, 0x2c, 0x2a, 0x15, 0x04, 0x04, 0x60, 0x2e, 0x2a, 0x15, 0x04, 0x05, 0x60, 0x2e, 0x2a, 0x15, 0x04, 0x06, 0x60, 0x2e, 0xb6, 0x00, 0xc9, 0x36, 0x06, 0xa7, 0x05, 0x22, 0x2b, 0x2a, 0x15, 0x04, 0x04, 0x60, 0x2e, 0x2d, 0xb8, 0x00, 0xca, 0x36]
def lbc_11 : List UInt8 := [0x05, 0x2c, 0x2a, 0x15, 0x04, 0x04, 0x60, 0x2e, 0xb6, 0x00, 0xcc, 0x36, 0x06, 0xa7, 0x05, 0x06, 0x2b, 0x2a, 0x15, 0x04, 0x04, 0x60, 0x2e, 0x2a, 0x15, 0x04, 0x05, 0x60, 0x2e, 0x2d, 0xb8, 0x00, 0xcd, 0x36, 0x05, 0x2c, 0x2a, 0x15, 0x04, 0x04, 0x60, 0x2e, 0x2a, 0x15, 0x04, 0x05, 0x60, 0x2e, 0xb6, 0x00, 0xcf, 0x36, 0x06, 0xa7, 0x04, 0xde, 0x2b, 0x2a, 0x15, 0x04, 0x04, 0x60, 0x2e, 0x2a]
def lbc_12 : List UInt8 := [0x15, 0x04, 0x05, 0x60, 0x2e, 0x2d, 0xb8, 0x00, 0xd0, 0x36, 0x05, 0x2c, 0x2a, 0x15, 0x04, 0x04, 0x60, 0x2e, 0x2a, 0x15, 0x04, 0x05, 0x60, 0x2e, 0xb6, 0x00, 0xd2, 0x36, 0x06, 0xa7, 0x04, 0xb6, 0x2b, 0x2a, 0x15, 0x04, 0x04, 0x60, 0x2e, 0x2a, 0x15, 0x04, 0x05, 0x60, 0x2e, 0x2d, 0xb8, 0x00, 0xd3, 0x36, 0x05, 0x2c, 0x2a, 0x15, 0x04, 0x04, 0x60, 0x2e, 0x2a, 0x15, 0x04, 0x05, 0x60, 0x2e]
def lbc_13 : List UInt8 := [0xb6, 0x00, 0xd5, 0x36, 0x06, 0xa7, 0x04, 0x8e, 0x2b, 0x2a, 0x15, 0x04, 0x04, 0x60, 0x2e, 0x2d, 0xb8, 0x00, 0xd6, 0x36, 0x05, 0x2c, 0x2a, 0x15, 0x04, 0x04, 0x60, 0x2e, 0xb6, 0x00, 0xd8, 0x36, 0x06, 0xa7, 0x04, 0x72, 0x2b, 0x2a, 0x15, 0x04, 0x04, 0x60, 0x2e, 0x2a, 0x15, 0x04, 0x05, 0x60, 0x2e, 0x2d, 0xb8, 0x00, 0xd9, 0x36, 0x05, 0x2c, 0x2a, 0x15, 0x04, 0x04, 0x60, 0x2e, 0x2a, 0x15]
def lbc_14 : List UInt8 := [0x04, 0x05, 0x60, 0x2e, 0xb6, 0x00, 0xdb, 0x36, 0x06, 0xa7, 0x04, 0x4a, 0x2b, 0x2a, 0x15, 0x04, 0x04, 0x60, 0x2e, 0x2a, 0x15, 0x04, 0x05, 0x60, 0x2e, 0x2d, 0xb8, 0x00, 0xdc, 0x36, 0x05, 0x2c, 0x2a, 0x15, 0x04, 0x04, 0x60, 0x2e, 0x2a, 0x15, 0x04, 0x05, 0x60, 0x2e, 0xb6, 0x00, 0xde, 0x36, 0x06, 0xa7, 0x04, 0x22, 0x2b, 0x2a, 0x15, 0x04, 0x04, 0x60, 0x2e, 0x2a, 0x15, 0x04, 0x05, 0x60]
def lbc_15 : List UInt8 := [0x2e, 0x2d, 0xb8, 0x00, 0xdf, 0x36, 0x05, 0x2c, 0x2a, 0x15, 0x04, 0x04, 0x60, 0x2e, 0x2a, 0x15, 0x04, 0x05, 0x60, 0x2e, 0xb6, 0x00, 0xe1, 0x36, 0x06, 0xa7, 0x03, 0xfa, 0x2b, 0x2a, 0x15, 0x04, 0x04, 0x60, 0x2e, 0x2a, 0x15, 0x04, 0x05, 0x60, 0x2e, 0x2d, 0xb8, 0x00, 0xe2, 0x36, 0x05, 0x2c, 0x2a, 0x15, 0x04, 0x04, 0x60, 0x2e, 0x2a, 0x15, 0x04, 0x05, 0x60, 0x2e, 0xb6, 0x00, 0xe4, 0x36]
def lbc_16 : List UInt8 := [0x06, 0xa7, 0x03, 0xd2, 0x2b, 0x2a, 0x15, 0x04, 0x04, 0x60, 0x2e, 0x2a, 0x15, 0x04, 0x05, 0x60, 0x2e, 0x2d, 0xb8, 0x00, 0xe5, 0x36, 0x05, 0x2c, 0x2a, 0x15, 0x04, 0x04, 0x60, 0x2e, 0x2a, 0x15, 0x04, 0x05, 0x60, 0x2e, 0xb6, 0x00, 0xe7, 0x36, 0x06, 0xa7, 0x03, 0xaa, 0x2b, 0x2a, 0x15, 0x04, 0x04, 0x60, 0x2e, 0x2a, 0x15, 0x04, 0x05, 0x60, 0x2e, 0x2d, 0xb8, 0x00, 0xe8, 0x36, 0x05, 0x2c]
def lbc_17 : List UInt8 := [0x2a, 0x15, 0x04, 0x04, 0x60, 0x2e, 0x2a, 0x15, 0x04, 0x05, 0x60, 0x2e, 0xb6, 0x00, 0xea, 0x36, 0x06, 0xa7, 0x03, 0x82, 0x2b, 0x2a, 0x15, 0x04, 0x04, 0x60, 0x2e, 0x2a, 0x15, 0x04, 0x05, 0x60, 0x2e, 0x2d, 0xb8, 0x00, 0xeb, 0x36, 0x05, 0x2c, 0x2a, 0x15, 0x04, 0x04, 0x60, 0x2e, 0x2a, 0x15, 0x04, 0x05, 0x60, 0x2e, 0xb6, 0x00, 0xed, 0x36, 0x06, 0xa7, 0x03, 0x5a, 0x2b, 0x2a, 0x15, 0x04]
def lbc_18 : List UInt8 := [0x04, 0x60, 0x2e, 0x2a, 0x15, 0x04, 0x05, 0x60, 0x2e, 0x2d, 0xb8, 0x00, 0xee, 0x36, 0x05, 0x2c, 0x2a, 0x15, 0x04, 0x04, 0x60, 0x2e, 0x2a, 0x15, 0x04, 0x05, 0x60, 0x2e, 0xb6, 0x00, 0xf0, 0x36, 0x06, 0xa7, 0x03, 0x32, 0x2b, 0x2a, 0x15, 0x04, 0x04, 0x60, 0x2e, 0x2a, 0x15, 0x04, 0x05, 0x60, 0x2e, 0x2a, 0x15, 0x04, 0x06, 0x60, 0x2e, 0x2d, 0xb8, 0x00, 0xf1, 0x36, 0x05, 0x2c, 0x2a, 0x15]
def lbc_19 : List UInt8 := [0x04, 0x04, 0x60, 0x2e, 0x2a, 0x15, 0x04, 0x05, 0x60, 0x2e, 0x2a, 0x15, 0x04, 0x06, 0x60, 0x2e, 0xb6, 0x00, 0xf3, 0x3a, 0x06, 0xa7, 0x02, 0xfe, 0x2b, 0x2a, 0x15, 0x04, 0x04, 0x60, 0x2e, 0x2d, 0xb8, 0x00, 0xf4, 0x36, 0x05, 0x2c, 0x2a, 0x15, 0x04, 0x04, 0x60, 0x2e, 0xb6, 0x00, 0xf6, 0x36, 0x06, 0xa7, 0x02, 0xe2, 0x2b, 0x2a, 0x15, 0x04, 0x04, 0x60, 0x2e, 0x2d, 0xb8, 0x00, 0xf7, 0x36]
def lbc_20 : List UInt8 := [0x05, 0x2c, 0x2a, 0x15, 0x04, 0x04, 0x60, 0x2e, 0xb6, 0x00, 0xf9, 0x36, 0x06, 0xa7, 0x02, 0xc6, 0x2b, 0x2a, 0x15, 0x04, 0x04, 0x60, 0x2e, 0x2d, 0xb8, 0x00, 0xfa, 0x36, 0x05, 0x2c, 0x2a, 0x15, 0x04, 0x04, 0x60, 0x2e, 0xb6, 0x00, 0xfc, 0x36, 0x06, 0xa7, 0x02, 0xaa, 0x2b, 0x2a, 0x15, 0x04, 0x04, 0x60, 0x2e, 0x2a, 0x15, 0x04, 0x05, 0x60, 0x2e, 0x2d, 0xb8, 0x00, 0xfd, 0x36, 0x05, 0x2c]
def lbc_21 : List UInt8 := [0x2a, 0x15, 0x04, 0x04, 0x60, 0x2e, 0x2a, 0x15, 0x04, 0x05, 0x60, 0x2e, 0xb6, 0x00, 0xff, 0x36, 0x06, 0xa7, 0x02, 0x82, 0x2b, 0x2a, 0x15, 0x04, 0x04, 0x60, 0x2e, 0x2d, 0xb8, 0x01, 0x00, 0x36, 0x05, 0x2c, 0x2a, 0x15, 0x04, 0x04, 0x60, 0x2e, 0xb6, 0x01, 0x02, 0x36, 0x06, 0xa7, 0x02, 0x66, 0x2b, 0x2a, 0x15, 0x04, 0x04, 0x60, 0x2e, 0x2d, 0xb8, 0x01, 0x03, 0x36, 0x05, 0x2c, 0x2a, 0x15]
def lbc_22 : List UInt8 := [0x04, 0x04, 0x60, 0x2e, 0xb6, 0x01, 0x05, 0x36, 0x06, 0xa7, 0x02, 0x4a, 0x2b, 0x2a, 0x15, 0x04, 0x04, 0x60, 0x2e, 0x2d, 0xb8, 0x01, 0x06, 0x36, 0x05, 0x2c, 0x2a, 0x15, 0x04, 0x04, 0x60, 0x2e, 0xb6, 0x01, 0x08, 0x36, 0x06, 0xa7, 0x02, 0x2e, 0x2b, 0x2a, 0x15, 0x04, 0x04, 0x60, 0x2e, 0x2d, 0xb8, 0x01, 0x09, 0x36, 0x05, 0x2c, 0x2a, 0x15, 0x04, 0x04, 0x60, 0x2e, 0xb6, 0x01, 0x0b, 0x36]
def lbc_23 : List UInt8 := [0x06, 0xa7, 0x02, 0x12, 0x2b, 0x2a, 0x15, 0x04, 0x04, 0x60, 0x2e, 0x2a, 0x15, 0x04, 0x05, 0x60, 0x2e, 0x2d, 0xb8, 0x01, 0x0c, 0x36, 0x05, 0x2c, 0x2a, 0x15, 0x04, 0x04, 0x60, 0x2e, 0x2a, 0x15, 0x04, 0x05, 0x60, 0x2e, 0xb6, 0x01, 0x0e, 0x36, 0x06, 0xa7, 0x01, 0xea, 0x2b, 0x2a, 0x15, 0x04, 0x04, 0x60, 0x2e, 0x2a, 0x15, 0x04, 0x05, 0x60, 0x2e, 0x2d, 0xb8, 0x01, 0x0f, 0x36, 0x05, 0x2c]
def lbc_24 : List UInt8 := [0x2a, 0x15, 0x04, 0x04, 0x60, 0x2e, 0x2a, 0x15, 0x04, 0x05, 0x60, 0x2e, 0xb6, 0x01, 0x11, 0x36, 0x06, 0xa7, 0x01, 0xc2, 0x2b, 0x2a, 0x15, 0x04, 0x04, 0x60, 0x2e, 0x2a, 0x15, 0x04, 0x05, 0x60, 0x2e, 0x2a, 0x15, 0x04, 0x06, 0x60, 0x2e, 0x99, 0x00, 0x07, 0x04, 0xa7, 0x00, 0x04, 0x03, 0x2d, 0xb8, 0x01, 0x12, 0x36, 0x05, 0x2c, 0x2a, 0x15, 0x04, 0x04, 0x60, 0x2e, 0x2a, 0x15, 0x04, 0x05]
def lbc_25 : List UInt8 := [0x60, 0x2e, 0x2a, 0x15, 0x04, 0x06, 0x60, 0x2e, 0x99, 0x00, 0x07, 0x04, 0xa7, 0x00, 0x04, 0x03, 0xb6, 0x01, 0x15, 0x36, 0x06, 0xa7, 0x01, 0x7e, 0x2b, 0x2a, 0x15, 0x04, 0x04, 0x60, 0x2e, 0x2a, 0x15, 0x04, 0x05, 0x60, 0x2e, 0x99, 0x00, 0x07, 0x04, 0xa7, 0x00, 0x04, 0x03, 0x2d, 0xb8, 0x01, 0x16, 0x36, 0x05, 0x2c, 0x2a, 0x15, 0x04, 0x04, 0x60, 0x2e, 0x2a, 0x15, 0x04, 0x05, 0x60, 0x2e]
def lbc_26 : List UInt8 := [0x99, 0x00, 0x07, 0x04, 0xa7, 0x00, 0x04, 0x03, 0xb6, 0x01, 0x19, 0x36, 0x06, 0xa7, 0x01, 0x46, 0x2b, 0x2a, 0x15, 0x04, 0x04, 0x60, 0x2e, 0x2d, 0xb8, 0x01, 0x1a, 0x36, 0x05, 0x2c, 0x2a, 0x15, 0x04, 0x04, 0x60, 0x2e, 0xb6, 0x01, 0x1c, 0x36, 0x06, 0xa7, 0x01, 0x2a, 0x2b, 0x2a, 0x15, 0x04, 0x04, 0x60, 0x2e, 0x2d, 0xb8, 0x01, 0x1d, 0x36, 0x05, 0x2c, 0x2a, 0x15, 0x04, 0x04, 0x60, 0x2e]
def lbc_27 : List UInt8 := [0xb6, 0x01, 0x1f, 0x36, 0x06, 0xa7, 0x01, 0x0e, 0x2b, 0x2a, 0x15, 0x04, 0x04, 0x60, 0x2e, 0x2d, 0xb8, 0x01, 0x20, 0x36, 0x05, 0x2c, 0x2a, 0x15, 0x04, 0x04, 0x60, 0x2e, 0xb6, 0x01, 0x22, 0x36, 0x06, 0xa7, 0x00, 0xf2, 0x2b, 0x2a, 0x15, 0x04, 0x04, 0x60, 0x2e, 0x2a, 0x15, 0x04, 0x05, 0x60, 0x2e, 0x2d, 0xb8, 0x01, 0x23, 0x36, 0x05, 0x2c, 0x2a, 0x15, 0x04, 0x04, 0x60, 0x2e, 0x2a, 0x15]
def lbc_28 : List UInt8 := [0x04, 0x05, 0x60, 0x2e, 0xb6, 0x01, 0x25, 0x36, 0x06, 0xa7, 0x00, 0xca, 0x2b, 0x2a, 0x15, 0x04, 0x04, 0x60, 0x2e, 0x2a, 0x15, 0x04, 0x05, 0x60, 0x2e, 0x2d, 0xb8, 0x01, 0x26, 0x36, 0x05, 0x2c, 0x2a, 0x15, 0x04, 0x04, 0x60, 0x2e, 0x2a, 0x15, 0x04, 0x05, 0x60, 0x2e, 0xb6, 0x01, 0x28, 0x36, 0x06, 0x2c, 0xb6, 0x01, 0x29, 0x15, 0x05, 0x9f, 0x00, 0x05, 0x03, 0xac, 0x15, 0x05, 0x9a, 0x00]
def lbc_29 : List UInt8 := [0x17, 0x2d, 0xb4, 0x00, 0x0d, 0x15, 0x06, 0x99, 0x00, 0x07, 0x0a, 0xa7, 0x00, 0x04, 0x09, 0x94, 0x99, 0x00, 0x05, 0x03, 0xac, 0xa7, 0x00, 0x7e, 0x2b, 0x2a, 0x15, 0x04, 0x04, 0x60, 0x2e, 0x2a, 0x15, 0x04, 0x05, 0x60, 0x2e, 0x99, 0x00, 0x07, 0x04, 0xa7, 0x00, 0x04, 0x03, 0x2d, 0xb8, 0x01, 0x2d, 0x36, 0x05, 0x2c, 0x2a, 0x15, 0x04, 0x04, 0x60, 0x2e, 0x2a, 0x15, 0x04, 0x05, 0x60, 0x2e]
def lbc_30 : List UInt8 := [0x99, 0x00, 0x07, 0x04, 0xa7, 0x00, 0x04, 0x03, 0xb6, 0x01, 0x2f, 0x36, 0x06, 0xa7, 0x00, 0x46, 0x2b, 0x2a, 0x15, 0x04, 0x04, 0x60, 0x2e, 0x2d, 0xb8, 0x01, 0x30, 0x36, 0x05, 0x2c, 0x2a, 0x15, 0x04, 0x04, 0x60, 0x2e, 0xb6, 0x01, 0x32, 0x36, 0x06, 0xa7, 0x00, 0x2a, 0x2b, 0xb6, 0x01, 0x33, 0x57, 0x2c, 0xb6, 0x01, 0x36, 0x57, 0xa7, 0x00, 0x1d, 0x2b, 0xb6, 0x01, 0x37, 0x57, 0x2c, 0xb6]
def lbc_31 : List UInt8 := [0x01, 0x3b, 0x57, 0xa7, 0x00, 0x10, 0x2b, 0xb6, 0x01, 0x3c, 0x58, 0x2c, 0xb6, 0x01, 0x40, 0x58, 0xa7, 0x00, 0x03, 0x84, 0x04, 0x06, 0xa7, 0xf8, 0x45, 0x04, 0xac]
def lbt_32 : List UInt8 := []
def lbt_31 : List UInt8 := lbc_31 ++ lbt_32
def lbt_30 : List UInt8 := lbc_30 ++ lbt_31
def lbt_29 : List UInt8 := lbc_29 ++ lbt_30
def lbt_28 : List UInt8 := lbc_28 ++ lbt_29
def lbt_27 : List UInt8 := lbc_27 ++ lbt_28
def lbt_26 : List UInt8 := lbc_26 ++ lbt_27
def lbt_25 : List UInt8 := lbc_25 ++ lbt_26
def lbt_24 : List UInt8 := lbc_24 ++ lbt_25
def lbt_23 : List UInt8 := lbc_23 ++ lbt_24
def lbt_22 : List UInt8 := lbc_22 ++ lbt_23
def lbt_21 : List UInt8 := lbc_21 ++ lbt_22
def lbt_20 : List UInt8 := lbc_20 ++ lbt_21
def lbt_19 : List UInt8 := lbc_19 ++ lbt_20
def lbt_18 : List UInt8 := lbc_18 ++ lbt_19
def lbt_17 : List UInt8 := lbc_17 ++ lbt_18
def lbt_16 : List UInt8 := lbc_16 ++ lbt_17
def lbt_15 : List UInt8 := lbc_15 ++ lbt_16
def lbt_14 : List UInt8 := lbc_14 ++ lbt_15
def lbt_13 : List UInt8 := lbc_13 ++ lbt_14
def lbt_12 : List UInt8 := lbc_12 ++ lbt_13
def lbt_11 : List UInt8 := lbc_11 ++ lbt_12
def lbt_10 : List UInt8 := lbc_10 ++ lbt_11
def lbt_9 : List UInt8 := lbc_9 ++ lbt_10
def lbt_8 : List UInt8 := lbc_8 ++ lbt_9
def lbt_7 : List UInt8 := lbc_7 ++ lbt_8
def lbt_6 : List UInt8 := lbc_6 ++ lbt_7
def lbt_5 : List UInt8 := lbc_5 ++ lbt_6
def lbt_4 : List UInt8 := lbc_4 ++ lbt_5
def lbt_3 : List UInt8 := lbc_3 ++ lbt_4
def lbt_2 : List UInt8 := lbc_2 ++ lbt_3
def lbt_1 : List UInt8 := lbc_1 ++ lbt_2
def lbt_0 : List UInt8 := lbc_0 ++ lbt_1
set_option maxRecDepth 100000 in
theorem lbt_all : cL_law.data.toList = lbt_0 := by decide +kernel
theorem lbg_0 {j : Nat} {v : UInt8} (h : lbt_0[j]? = some v) : cL_law.data.toList[j + 0]? = some v := by rw [lbt_all]; exact h
theorem lbg_s {c t : List UInt8} {j : Nat} (hc : c.length = 64) : (c ++ t)[j + 64]? = t[j]? := by rw [List.getElem?_append_right (by omega), hc, Nat.add_sub_cancel]
theorem lbg_1 {j : Nat} {v : UInt8} (h : lbt_1[j]? = some v) : cL_law.data.toList[j + 64]? = some v := by
  rw [show j + 64 = (j + 64) + 0 by omega]
  exact lbg_0 ((lbg_s (c := lbc_0) (by decide +kernel)).trans h)
theorem lbg_2 {j : Nat} {v : UInt8} (h : lbt_2[j]? = some v) : cL_law.data.toList[j + 128]? = some v := by
  rw [show j + 128 = (j + 64) + 64 by omega]
  exact lbg_1 ((lbg_s (c := lbc_1) (by decide +kernel)).trans h)
theorem lbg_3 {j : Nat} {v : UInt8} (h : lbt_3[j]? = some v) : cL_law.data.toList[j + 192]? = some v := by
  rw [show j + 192 = (j + 64) + 128 by omega]
  exact lbg_2 ((lbg_s (c := lbc_2) (by decide +kernel)).trans h)
theorem lbg_4 {j : Nat} {v : UInt8} (h : lbt_4[j]? = some v) : cL_law.data.toList[j + 256]? = some v := by
  rw [show j + 256 = (j + 64) + 192 by omega]
  exact lbg_3 ((lbg_s (c := lbc_3) (by decide +kernel)).trans h)
theorem lbg_5 {j : Nat} {v : UInt8} (h : lbt_5[j]? = some v) : cL_law.data.toList[j + 320]? = some v := by
  rw [show j + 320 = (j + 64) + 256 by omega]
  exact lbg_4 ((lbg_s (c := lbc_4) (by decide +kernel)).trans h)
theorem lbg_6 {j : Nat} {v : UInt8} (h : lbt_6[j]? = some v) : cL_law.data.toList[j + 384]? = some v := by
  rw [show j + 384 = (j + 64) + 320 by omega]
  exact lbg_5 ((lbg_s (c := lbc_5) (by decide +kernel)).trans h)
theorem lbg_7 {j : Nat} {v : UInt8} (h : lbt_7[j]? = some v) : cL_law.data.toList[j + 448]? = some v := by
  rw [show j + 448 = (j + 64) + 384 by omega]
  exact lbg_6 ((lbg_s (c := lbc_6) (by decide +kernel)).trans h)
theorem lbg_8 {j : Nat} {v : UInt8} (h : lbt_8[j]? = some v) : cL_law.data.toList[j + 512]? = some v := by
  rw [show j + 512 = (j + 64) + 448 by omega]
  exact lbg_7 ((lbg_s (c := lbc_7) (by decide +kernel)).trans h)
theorem lbg_9 {j : Nat} {v : UInt8} (h : lbt_9[j]? = some v) : cL_law.data.toList[j + 576]? = some v := by
  rw [show j + 576 = (j + 64) + 512 by omega]
  exact lbg_8 ((lbg_s (c := lbc_8) (by decide +kernel)).trans h)
theorem lbg_10 {j : Nat} {v : UInt8} (h : lbt_10[j]? = some v) : cL_law.data.toList[j + 640]? = some v := by
  rw [show j + 640 = (j + 64) + 576 by omega]
  exact lbg_9 ((lbg_s (c := lbc_9) (by decide +kernel)).trans h)
theorem lbg_11 {j : Nat} {v : UInt8} (h : lbt_11[j]? = some v) : cL_law.data.toList[j + 704]? = some v := by
  rw [show j + 704 = (j + 64) + 640 by omega]
  exact lbg_10 ((lbg_s (c := lbc_10) (by decide +kernel)).trans h)
theorem lbg_12 {j : Nat} {v : UInt8} (h : lbt_12[j]? = some v) : cL_law.data.toList[j + 768]? = some v := by
  rw [show j + 768 = (j + 64) + 704 by omega]
  exact lbg_11 ((lbg_s (c := lbc_11) (by decide +kernel)).trans h)
theorem lbg_13 {j : Nat} {v : UInt8} (h : lbt_13[j]? = some v) : cL_law.data.toList[j + 832]? = some v := by
  rw [show j + 832 = (j + 64) + 768 by omega]
  exact lbg_12 ((lbg_s (c := lbc_12) (by decide +kernel)).trans h)
theorem lbg_14 {j : Nat} {v : UInt8} (h : lbt_14[j]? = some v) : cL_law.data.toList[j + 896]? = some v := by
  rw [show j + 896 = (j + 64) + 832 by omega]
  exact lbg_13 ((lbg_s (c := lbc_13) (by decide +kernel)).trans h)
theorem lbg_15 {j : Nat} {v : UInt8} (h : lbt_15[j]? = some v) : cL_law.data.toList[j + 960]? = some v := by
  rw [show j + 960 = (j + 64) + 896 by omega]
  exact lbg_14 ((lbg_s (c := lbc_14) (by decide +kernel)).trans h)
theorem lbg_16 {j : Nat} {v : UInt8} (h : lbt_16[j]? = some v) : cL_law.data.toList[j + 1024]? = some v := by
  rw [show j + 1024 = (j + 64) + 960 by omega]
  exact lbg_15 ((lbg_s (c := lbc_15) (by decide +kernel)).trans h)
theorem lbg_17 {j : Nat} {v : UInt8} (h : lbt_17[j]? = some v) : cL_law.data.toList[j + 1088]? = some v := by
  rw [show j + 1088 = (j + 64) + 1024 by omega]
  exact lbg_16 ((lbg_s (c := lbc_16) (by decide +kernel)).trans h)
theorem lbg_18 {j : Nat} {v : UInt8} (h : lbt_18[j]? = some v) : cL_law.data.toList[j + 1152]? = some v := by
  rw [show j + 1152 = (j + 64) + 1088 by omega]
  exact lbg_17 ((lbg_s (c := lbc_17) (by decide +kernel)).trans h)
theorem lbg_19 {j : Nat} {v : UInt8} (h : lbt_19[j]? = some v) : cL_law.data.toList[j + 1216]? = some v := by
  rw [show j + 1216 = (j + 64) + 1152 by omega]
  exact lbg_18 ((lbg_s (c := lbc_18) (by decide +kernel)).trans h)
theorem lbg_20 {j : Nat} {v : UInt8} (h : lbt_20[j]? = some v) : cL_law.data.toList[j + 1280]? = some v := by
  rw [show j + 1280 = (j + 64) + 1216 by omega]
  exact lbg_19 ((lbg_s (c := lbc_19) (by decide +kernel)).trans h)
theorem lbg_21 {j : Nat} {v : UInt8} (h : lbt_21[j]? = some v) : cL_law.data.toList[j + 1344]? = some v := by
  rw [show j + 1344 = (j + 64) + 1280 by omega]
  exact lbg_20 ((lbg_s (c := lbc_20) (by decide +kernel)).trans h)
theorem lbg_22 {j : Nat} {v : UInt8} (h : lbt_22[j]? = some v) : cL_law.data.toList[j + 1408]? = some v := by
  rw [show j + 1408 = (j + 64) + 1344 by omega]
  exact lbg_21 ((lbg_s (c := lbc_21) (by decide +kernel)).trans h)
theorem lbg_23 {j : Nat} {v : UInt8} (h : lbt_23[j]? = some v) : cL_law.data.toList[j + 1472]? = some v := by
  rw [show j + 1472 = (j + 64) + 1408 by omega]
  exact lbg_22 ((lbg_s (c := lbc_22) (by decide +kernel)).trans h)
theorem lbg_24 {j : Nat} {v : UInt8} (h : lbt_24[j]? = some v) : cL_law.data.toList[j + 1536]? = some v := by
  rw [show j + 1536 = (j + 64) + 1472 by omega]
  exact lbg_23 ((lbg_s (c := lbc_23) (by decide +kernel)).trans h)
theorem lbg_25 {j : Nat} {v : UInt8} (h : lbt_25[j]? = some v) : cL_law.data.toList[j + 1600]? = some v := by
  rw [show j + 1600 = (j + 64) + 1536 by omega]
  exact lbg_24 ((lbg_s (c := lbc_24) (by decide +kernel)).trans h)
theorem lbg_26 {j : Nat} {v : UInt8} (h : lbt_26[j]? = some v) : cL_law.data.toList[j + 1664]? = some v := by
  rw [show j + 1664 = (j + 64) + 1600 by omega]
  exact lbg_25 ((lbg_s (c := lbc_25) (by decide +kernel)).trans h)
theorem lbg_27 {j : Nat} {v : UInt8} (h : lbt_27[j]? = some v) : cL_law.data.toList[j + 1728]? = some v := by
  rw [show j + 1728 = (j + 64) + 1664 by omega]
  exact lbg_26 ((lbg_s (c := lbc_26) (by decide +kernel)).trans h)
theorem lbg_28 {j : Nat} {v : UInt8} (h : lbt_28[j]? = some v) : cL_law.data.toList[j + 1792]? = some v := by
  rw [show j + 1792 = (j + 64) + 1728 by omega]
  exact lbg_27 ((lbg_s (c := lbc_27) (by decide +kernel)).trans h)
theorem lbg_29 {j : Nat} {v : UInt8} (h : lbt_29[j]? = some v) : cL_law.data.toList[j + 1856]? = some v := by
  rw [show j + 1856 = (j + 64) + 1792 by omega]
  exact lbg_28 ((lbg_s (c := lbc_28) (by decide +kernel)).trans h)
theorem lbg_30 {j : Nat} {v : UInt8} (h : lbt_30[j]? = some v) : cL_law.data.toList[j + 1920]? = some v := by
  rw [show j + 1920 = (j + 64) + 1856 by omega]
  exact lbg_29 ((lbg_s (c := lbc_29) (by decide +kernel)).trans h)
theorem lbg_31 {j : Nat} {v : UInt8} (h : lbt_31[j]? = some v) : cL_law.data.toList[j + 1984]? = some v := by
  rw [show j + 1984 = (j + 64) + 1920 by omega]
  exact lbg_30 ((lbg_s (c := lbc_30) (by decide +kernel)).trans h)
theorem dop_187 {a : ByteArray} {pc : Nat} (h0 : a.data.toList[pc]? = some 187) {x y : UInt8} (h1 : a.data.toList[pc + 1]? = some x) (h2 : a.data.toList[pc + 1 + 1]? = some y) : decode a pc = .ok (.new (x.toNat * 256 + y.toNat), 3) := by
  refine (dec_step (q := pc + 3) ?_).trans (by rw [Nat.add_sub_cancel_left])
  unfold Decoder.instr
  rw [bind_ok (u1_of h0)]
  show (((Reader.u2 : Decoder Nat) >>= fun y => (pure (.new y) : Decoder Instr)).run a).run (pc + 1) = _
  rw [bind_ok (u2_of h1 h2)]
  rfl
theorem dL_law_0 : decode cL_law 0 = .ok (.new 8, 3) := dop_187 (lbg_0 (j := 0) (v := 0xbb) (by decide +kernel)) (lbg_0 (j := 1) (v := 0x00) (by decide +kernel)) (lbg_0 (j := 2) (v := 0x08) (by decide +kernel))
theorem dop_89 {a : ByteArray} {pc : Nat} (h0 : a.data.toList[pc]? = some 89) : decode a pc = .ok (.dup, 1) := by
  refine (dec_step (q := pc + 1) ?_).trans (by rw [Nat.add_sub_cancel_left])
  unfold Decoder.instr
  rw [bind_ok (u1_of h0)]
  rfl
theorem dL_law_3 : decode cL_law 3 = .ok (.dup, 1) := dop_89 (lbg_0 (j := 3) (v := 0x59) (by decide +kernel))
theorem dop_183 {a : ByteArray} {pc : Nat} (h0 : a.data.toList[pc]? = some 183) {x y : UInt8} (h1 : a.data.toList[pc + 1]? = some x) (h2 : a.data.toList[pc + 1 + 1]? = some y) : decode a pc = .ok (.invokespecial (x.toNat * 256 + y.toNat), 3) := by
  refine (dec_step (q := pc + 3) ?_).trans (by rw [Nat.add_sub_cancel_left])
  unfold Decoder.instr
  rw [bind_ok (u1_of h0)]
  show (((Reader.u2 : Decoder Nat) >>= fun y => (pure (.invokespecial y) : Decoder Instr)).run a).run (pc + 1) = _
  rw [bind_ok (u2_of h1 h2)]
  rfl
theorem dL_law_4 : decode cL_law 4 = .ok (.invokespecial 161, 3) := dop_183 (lbg_0 (j := 4) (v := 0xb7) (by decide +kernel)) (lbg_0 (j := 5) (v := 0x00) (by decide +kernel)) (lbg_0 (j := 6) (v := 0xa1) (by decide +kernel))
theorem dop_76 {a : ByteArray} {pc : Nat} (h0 : a.data.toList[pc]? = some 76) : decode a pc = .ok (.astore_n 1, 1) := by
  refine (dec_step (q := pc + 1) ?_).trans (by rw [Nat.add_sub_cancel_left])
  unfold Decoder.instr
  rw [bind_ok (u1_of h0)]
  rfl
theorem dL_law_7 : decode cL_law 7 = .ok (.astore_n 1, 1) := dop_76 (lbg_0 (j := 7) (v := 0x4c) (by decide +kernel))
theorem dL_law_8 : decode cL_law 8 = .ok (.new 162, 3) := dop_187 (lbg_0 (j := 8) (v := 0xbb) (by decide +kernel)) (lbg_0 (j := 9) (v := 0x00) (by decide +kernel)) (lbg_0 (j := 10) (v := 0xa2) (by decide +kernel))
theorem dL_law_11 : decode cL_law 11 = .ok (.dup, 1) := dop_89 (lbg_0 (j := 11) (v := 0x59) (by decide +kernel))
theorem dL_law_12 : decode cL_law 12 = .ok (.invokespecial 164, 3) := dop_183 (lbg_0 (j := 12) (v := 0xb7) (by decide +kernel)) (lbg_0 (j := 13) (v := 0x00) (by decide +kernel)) (lbg_0 (j := 14) (v := 0xa4) (by decide +kernel))
theorem dop_77 {a : ByteArray} {pc : Nat} (h0 : a.data.toList[pc]? = some 77) : decode a pc = .ok (.astore_n 2, 1) := by
  refine (dec_step (q := pc + 1) ?_).trans (by rw [Nat.add_sub_cancel_left])
  unfold Decoder.instr
  rw [bind_ok (u1_of h0)]
  rfl
theorem dL_law_15 : decode cL_law 15 = .ok (.astore_n 2, 1) := dop_77 (lbg_0 (j := 15) (v := 0x4d) (by decide +kernel))
theorem dL_law_16 : decode cL_law 16 = .ok (.new 14, 3) := dop_187 (lbg_0 (j := 16) (v := 0xbb) (by decide +kernel)) (lbg_0 (j := 17) (v := 0x00) (by decide +kernel)) (lbg_0 (j := 18) (v := 0x0e) (by decide +kernel))
theorem dL_law_19 : decode cL_law 19 = .ok (.dup, 1) := dop_89 (lbg_0 (j := 19) (v := 0x59) (by decide +kernel))
theorem dL_law_20 : decode cL_law 20 = .ok (.invokespecial 165, 3) := dop_183 (lbg_0 (j := 20) (v := 0xb7) (by decide +kernel)) (lbg_0 (j := 21) (v := 0x00) (by decide +kernel)) (lbg_0 (j := 22) (v := 0xa5) (by decide +kernel))
theorem dop_78 {a : ByteArray} {pc : Nat} (h0 : a.data.toList[pc]? = some 78) : decode a pc = .ok (.astore_n 3, 1) := by
  refine (dec_step (q := pc + 1) ?_).trans (by rw [Nat.add_sub_cancel_left])
  unfold Decoder.instr
  rw [bind_ok (u1_of h0)]
  rfl
theorem dL_law_23 : decode cL_law 23 = .ok (.astore_n 3, 1) := dop_78 (lbg_0 (j := 23) (v := 0x4e) (by decide +kernel))
theorem dop_3 {a : ByteArray} {pc : Nat} (h0 : a.data.toList[pc]? = some 3) : decode a pc = .ok (.iconst 0, 1) := by
  refine (dec_step (q := pc + 1) ?_).trans (by rw [Nat.add_sub_cancel_left])
  unfold Decoder.instr
  rw [bind_ok (u1_of h0)]
  rfl
theorem dL_law_24 : decode cL_law 24 = .ok (.iconst 0, 1) := dop_3 (lbg_0 (j := 24) (v := 0x03) (by decide +kernel))
theorem dop_54 {a : ByteArray} {pc : Nat} (h0 : a.data.toList[pc]? = some 54) {x : UInt8} (h1 : a.data.toList[pc + 1]? = some x) : decode a pc = .ok (.istore x.toNat, 2) := by
  refine (dec_step (q := pc + 2) ?_).trans (by rw [Nat.add_sub_cancel_left])
  unfold Decoder.instr
  rw [bind_ok (u1_of h0)]
  show (((Reader.u1 : Decoder Nat) >>= fun y => (pure (.istore y) : Decoder Instr)).run a).run (pc + 1) = _
  rw [bind_ok (u1_of h1)]
  rfl
theorem dL_law_25 : decode cL_law 25 = .ok (.istore 4, 2) := dop_54 (lbg_0 (j := 25) (v := 0x36) (by decide +kernel)) (lbg_0 (j := 26) (v := 0x04) (by decide +kernel))
theorem dop_21 {a : ByteArray} {pc : Nat} (h0 : a.data.toList[pc]? = some 21) {x : UInt8} (h1 : a.data.toList[pc + 1]? = some x) : decode a pc = .ok (.iload x.toNat, 2) := by
  refine (dec_step (q := pc + 2) ?_).trans (by rw [Nat.add_sub_cancel_left])
  unfold Decoder.instr
  rw [bind_ok (u1_of h0)]
  show (((Reader.u1 : Decoder Nat) >>= fun y => (pure (.iload y) : Decoder Instr)).run a).run (pc + 1) = _
  rw [bind_ok (u1_of h1)]
  rfl
theorem dL_law_27 : decode cL_law 27 = .ok (.iload 4, 2) := dop_21 (lbg_0 (j := 27) (v := 0x15) (by decide +kernel)) (lbg_0 (j := 28) (v := 0x04) (by decide +kernel))
theorem dop_42 {a : ByteArray} {pc : Nat} (h0 : a.data.toList[pc]? = some 42) : decode a pc = .ok (.aload_n 0, 1) := by
  refine (dec_step (q := pc + 1) ?_).trans (by rw [Nat.add_sub_cancel_left])
  unfold Decoder.instr
  rw [bind_ok (u1_of h0)]
  rfl
theorem dL_law_29 : decode cL_law 29 = .ok (.aload_n 0, 1) := dop_42 (lbg_0 (j := 29) (v := 0x2a) (by decide +kernel))
theorem dop_190 {a : ByteArray} {pc : Nat} (h0 : a.data.toList[pc]? = some 190) : decode a pc = .ok (.arraylength, 1) := by
  refine (dec_step (q := pc + 1) ?_).trans (by rw [Nat.add_sub_cancel_left])
  unfold Decoder.instr
  rw [bind_ok (u1_of h0)]
  rfl
theorem dL_law_30 : decode cL_law 30 = .ok (.arraylength, 1) := dop_190 (lbg_0 (j := 30) (v := 0xbe) (by decide +kernel))
theorem dop_16 {a : ByteArray} {pc : Nat} (h0 : a.data.toList[pc]? = some 16) {x : UInt8} (h1 : a.data.toList[pc + 1]? = some x) {z : Int} (hz : Reader.signed 8 x.toNat = z) : decode a pc = .ok (.bipush z, 2) := by
  subst hz
  refine (dec_step (q := pc + 2) ?_).trans (by rw [Nat.add_sub_cancel_left])
  unfold Decoder.instr
  rw [bind_ok (u1_of h0)]
  show (((Reader.s1 : Decoder Int) >>= fun y => (pure (.bipush y) : Decoder Instr)).run a).run (pc + 1) = _
  rw [bind_ok (s1_of h1)]
  rfl
theorem dL_law_31 : decode cL_law 31 = .ok (.bipush 6, 2) := dop_16 (lbg_0 (j := 31) (v := 0x10) (by decide +kernel)) (lbg_0 (j := 32) (v := 0x06) (by decide +kernel)) (by decide +kernel)
theorem dop_100 {a : ByteArray} {pc : Nat} (h0 : a.data.toList[pc]? = some 100) : decode a pc = .ok (.isub, 1) := by
  refine (dec_step (q := pc + 1) ?_).trans (by rw [Nat.add_sub_cancel_left])
  unfold Decoder.instr
  rw [bind_ok (u1_of h0)]
  rfl
theorem dL_law_33 : decode cL_law 33 = .ok (.isub, 1) := dop_100 (lbg_0 (j := 33) (v := 0x64) (by decide +kernel))
theorem dop_163 {a : ByteArray} {pc : Nat} (h0 : a.data.toList[pc]? = some 163) {x y : UInt8} (h1 : a.data.toList[pc + 1]? = some x) (h2 : a.data.toList[pc + 1 + 1]? = some y) {z : Int} (hz : Reader.signed 16 (x.toNat * 256 + y.toNat) = z) : decode a pc = .ok (.if_icmp .gt z, 3) := by
  subst hz
  refine (dec_step (q := pc + 3) ?_).trans (by rw [Nat.add_sub_cancel_left])
  unfold Decoder.instr
  rw [bind_ok (u1_of h0)]
  show (((Reader.s2 : Decoder Int) >>= fun y => (pure (.if_icmp .gt y) : Decoder Instr)).run a).run (pc + 1) = _
  rw [bind_ok (s2_of h1 h2)]
  rfl
theorem dL_law_34 : decode cL_law 34 = .ok (.if_icmp .gt 1975, 3) := dop_163 (lbg_0 (j := 34) (v := 0xa3) (by decide +kernel)) (lbg_0 (j := 35) (v := 0x07) (by decide +kernel)) (lbg_0 (j := 36) (v := 0xb7) (by decide +kernel)) (by decide +kernel)
theorem dL_law_37 : decode cL_law 37 = .ok (.aload_n 0, 1) := dop_42 (lbg_0 (j := 37) (v := 0x2a) (by decide +kernel))
theorem dL_law_38 : decode cL_law 38 = .ok (.iload 4, 2) := dop_21 (lbg_0 (j := 38) (v := 0x15) (by decide +kernel)) (lbg_0 (j := 39) (v := 0x04) (by decide +kernel))
theorem dop_46 {a : ByteArray} {pc : Nat} (h0 : a.data.toList[pc]? = some 46) : decode a pc = .ok (.iaload, 1) := by
  refine (dec_step (q := pc + 1) ?_).trans (by rw [Nat.add_sub_cancel_left])
  unfold Decoder.instr
  rw [bind_ok (u1_of h0)]
  rfl
theorem dL_law_40 : decode cL_law 40 = .ok (.iaload, 1) := dop_46 (lbg_0 (j := 40) (v := 0x2e) (by decide +kernel))
theorem dL_law_41 : decode cL_law 41 = .ok (.bipush 63, 2) := dop_16 (lbg_0 (j := 41) (v := 0x10) (by decide +kernel)) (lbg_0 (j := 42) (v := 0x3f) (by decide +kernel)) (by decide +kernel)
theorem dop_126 {a : ByteArray} {pc : Nat} (h0 : a.data.toList[pc]? = some 126) : decode a pc = .ok (.iand, 1) := by
  refine (dec_step (q := pc + 1) ?_).trans (by rw [Nat.add_sub_cancel_left])
  unfold Decoder.instr
  rw [bind_ok (u1_of h0)]
  rfl
theorem dL_law_43 : decode cL_law 43 = .ok (.iand, 1) := dop_126 (lbg_0 (j := 43) (v := 0x7e) (by decide +kernel))
set_option maxRecDepth 100000 in
theorem dL_law_44 : decode cL_law 44 = .ok (.tableswitch 1959 0 45 #[200, 276, 316, 368, 408, 436, 476, 528, 556, 596, 648, 676, 716, 756, 796, 824, 864, 904, 944, 984, 1024, 1064, 1104, 1144, 1196, 1224, 1252, 1280, 1320, 1348, 1376, 1404, 1432, 1472, 1512, 1580, 1636, 1664, 1692, 1720, 1760, 1836, 1892, 1920, 1933, 1946], 200) := by decide +kernel
theorem dop_43 {a : ByteArray} {pc : Nat} (h0 : a.data.toList[pc]? = some 43) : decode a pc = .ok (.aload_n 1, 1) := by
  refine (dec_step (q := pc + 1) ?_).trans (by rw [Nat.add_sub_cancel_left])
  unfold Decoder.instr
  rw [bind_ok (u1_of h0)]
  rfl
theorem dL_law_244 : decode cL_law 244 = .ok (.aload_n 1, 1) := dop_43 (lbg_3 (j := 52) (v := 0x2b) (by decide +kernel))
theorem dL_law_245 : decode cL_law 245 = .ok (.aload_n 0, 1) := dop_42 (lbg_3 (j := 53) (v := 0x2a) (by decide +kernel))
theorem dL_law_246 : decode cL_law 246 = .ok (.iload 4, 2) := dop_21 (lbg_3 (j := 54) (v := 0x15) (by decide +kernel)) (lbg_3 (j := 55) (v := 0x04) (by decide +kernel))
theorem dop_4 {a : ByteArray} {pc : Nat} (h0 : a.data.toList[pc]? = some 4) : decode a pc = .ok (.iconst 1, 1) := by
  refine (dec_step (q := pc + 1) ?_).trans (by rw [Nat.add_sub_cancel_left])
  unfold Decoder.instr
  rw [bind_ok (u1_of h0)]
  rfl
theorem dL_law_248 : decode cL_law 248 = .ok (.iconst 1, 1) := dop_4 (lbg_3 (j := 56) (v := 0x04) (by decide +kernel))
theorem dop_96 {a : ByteArray} {pc : Nat} (h0 : a.data.toList[pc]? = some 96) : decode a pc = .ok (.iadd, 1) := by
  refine (dec_step (q := pc + 1) ?_).trans (by rw [Nat.add_sub_cancel_left])
  unfold Decoder.instr
  rw [bind_ok (u1_of h0)]
  rfl
theorem dL_law_249 : decode cL_law 249 = .ok (.iadd, 1) := dop_96 (lbg_3 (j := 57) (v := 0x60) (by decide +kernel))
theorem dL_law_250 : decode cL_law 250 = .ok (.iaload, 1) := dop_46 (lbg_3 (j := 58) (v := 0x2e) (by decide +kernel))
theorem dL_law_251 : decode cL_law 251 = .ok (.aload_n 0, 1) := dop_42 (lbg_3 (j := 59) (v := 0x2a) (by decide +kernel))
theorem dL_law_252 : decode cL_law 252 = .ok (.iload 4, 2) := dop_21 (lbg_3 (j := 60) (v := 0x15) (by decide +kernel)) (lbg_3 (j := 61) (v := 0x04) (by decide +kernel))
theorem dop_5 {a : ByteArray} {pc : Nat} (h0 : a.data.toList[pc]? = some 5) : decode a pc = .ok (.iconst 2, 1) := by
  refine (dec_step (q := pc + 1) ?_).trans (by rw [Nat.add_sub_cancel_left])
  unfold Decoder.instr
  rw [bind_ok (u1_of h0)]
  rfl
theorem dL_law_254 : decode cL_law 254 = .ok (.iconst 2, 1) := dop_5 (lbg_3 (j := 62) (v := 0x05) (by decide +kernel))
theorem dL_law_255 : decode cL_law 255 = .ok (.iadd, 1) := dop_96 (lbg_3 (j := 63) (v := 0x60) (by decide +kernel))
theorem dL_law_256 : decode cL_law 256 = .ok (.iaload, 1) := dop_46 (lbg_4 (j := 0) (v := 0x2e) (by decide +kernel))
theorem dL_law_257 : decode cL_law 257 = .ok (.aload_n 0, 1) := dop_42 (lbg_4 (j := 1) (v := 0x2a) (by decide +kernel))
theorem dL_law_258 : decode cL_law 258 = .ok (.iload 4, 2) := dop_21 (lbg_4 (j := 2) (v := 0x15) (by decide +kernel)) (lbg_4 (j := 3) (v := 0x04) (by decide +kernel))
theorem dop_6 {a : ByteArray} {pc : Nat} (h0 : a.data.toList[pc]? = some 6) : decode a pc = .ok (.iconst 3, 1) := by
  refine (dec_step (q := pc + 1) ?_).trans (by rw [Nat.add_sub_cancel_left])
  unfold Decoder.instr
  rw [bind_ok (u1_of h0)]
  rfl
theorem dL_law_260 : decode cL_law 260 = .ok (.iconst 3, 1) := dop_6 (lbg_4 (j := 4) (v := 0x06) (by decide +kernel))
theorem dL_law_261 : decode cL_law 261 = .ok (.iadd, 1) := dop_96 (lbg_4 (j := 5) (v := 0x60) (by decide +kernel))
theorem dL_law_262 : decode cL_law 262 = .ok (.iaload, 1) := dop_46 (lbg_4 (j := 6) (v := 0x2e) (by decide +kernel))
theorem dL_law_263 : decode cL_law 263 = .ok (.aload_n 0, 1) := dop_42 (lbg_4 (j := 7) (v := 0x2a) (by decide +kernel))
theorem dL_law_264 : decode cL_law 264 = .ok (.iload 4, 2) := dop_21 (lbg_4 (j := 8) (v := 0x15) (by decide +kernel)) (lbg_4 (j := 9) (v := 0x04) (by decide +kernel))
theorem dop_7 {a : ByteArray} {pc : Nat} (h0 : a.data.toList[pc]? = some 7) : decode a pc = .ok (.iconst 4, 1) := by
  refine (dec_step (q := pc + 1) ?_).trans (by rw [Nat.add_sub_cancel_left])
  unfold Decoder.instr
  rw [bind_ok (u1_of h0)]
  rfl
theorem dL_law_266 : decode cL_law 266 = .ok (.iconst 4, 1) := dop_7 (lbg_4 (j := 10) (v := 0x07) (by decide +kernel))
theorem dL_law_267 : decode cL_law 267 = .ok (.iadd, 1) := dop_96 (lbg_4 (j := 11) (v := 0x60) (by decide +kernel))
theorem dL_law_268 : decode cL_law 268 = .ok (.iaload, 1) := dop_46 (lbg_4 (j := 12) (v := 0x2e) (by decide +kernel))
theorem dL_law_269 : decode cL_law 269 = .ok (.aload_n 0, 1) := dop_42 (lbg_4 (j := 13) (v := 0x2a) (by decide +kernel))
theorem dL_law_270 : decode cL_law 270 = .ok (.iload 4, 2) := dop_21 (lbg_4 (j := 14) (v := 0x15) (by decide +kernel)) (lbg_4 (j := 15) (v := 0x04) (by decide +kernel))
theorem dop_8 {a : ByteArray} {pc : Nat} (h0 : a.data.toList[pc]? = some 8) : decode a pc = .ok (.iconst 5, 1) := by
  refine (dec_step (q := pc + 1) ?_).trans (by rw [Nat.add_sub_cancel_left])
  unfold Decoder.instr
  rw [bind_ok (u1_of h0)]
  rfl
theorem dL_law_272 : decode cL_law 272 = .ok (.iconst 5, 1) := dop_8 (lbg_4 (j := 16) (v := 0x08) (by decide +kernel))
theorem dL_law_273 : decode cL_law 273 = .ok (.iadd, 1) := dop_96 (lbg_4 (j := 17) (v := 0x60) (by decide +kernel))
theorem dL_law_274 : decode cL_law 274 = .ok (.iaload, 1) := dop_46 (lbg_4 (j := 18) (v := 0x2e) (by decide +kernel))
theorem dop_45 {a : ByteArray} {pc : Nat} (h0 : a.data.toList[pc]? = some 45) : decode a pc = .ok (.aload_n 3, 1) := by
  refine (dec_step (q := pc + 1) ?_).trans (by rw [Nat.add_sub_cancel_left])
  unfold Decoder.instr
  rw [bind_ok (u1_of h0)]
  rfl
theorem dL_law_275 : decode cL_law 275 = .ok (.aload_n 3, 1) := dop_45 (lbg_4 (j := 19) (v := 0x2d) (by decide +kernel))
theorem dop_184 {a : ByteArray} {pc : Nat} (h0 : a.data.toList[pc]? = some 184) {x y : UInt8} (h1 : a.data.toList[pc + 1]? = some x) (h2 : a.data.toList[pc + 1 + 1]? = some y) : decode a pc = .ok (.invokestatic (x.toNat * 256 + y.toNat), 3) := by
  refine (dec_step (q := pc + 3) ?_).trans (by rw [Nat.add_sub_cancel_left])
  unfold Decoder.instr
  rw [bind_ok (u1_of h0)]
  show (((Reader.u2 : Decoder Nat) >>= fun y => (pure (.invokestatic y) : Decoder Instr)).run a).run (pc + 1) = _
  rw [bind_ok (u2_of h1 h2)]
  rfl
theorem dL_law_276 : decode cL_law 276 = .ok (.invokestatic 166, 3) := dop_184 (lbg_4 (j := 20) (v := 0xb8) (by decide +kernel)) (lbg_4 (j := 21) (v := 0x00) (by decide +kernel)) (lbg_4 (j := 22) (v := 0xa6) (by decide +kernel))
theorem dL_law_279 : decode cL_law 279 = .ok (.istore 5, 2) := dop_54 (lbg_4 (j := 23) (v := 0x36) (by decide +kernel)) (lbg_4 (j := 24) (v := 0x05) (by decide +kernel))
theorem dop_44 {a : ByteArray} {pc : Nat} (h0 : a.data.toList[pc]? = some 44) : decode a pc = .ok (.aload_n 2, 1) := by
  refine (dec_step (q := pc + 1) ?_).trans (by rw [Nat.add_sub_cancel_left])
  unfold Decoder.instr
  rw [bind_ok (u1_of h0)]
  rfl
theorem dL_law_281 : decode cL_law 281 = .ok (.aload_n 2, 1) := dop_44 (lbg_4 (j := 25) (v := 0x2c) (by decide +kernel))
theorem dL_law_282 : decode cL_law 282 = .ok (.aload_n 0, 1) := dop_42 (lbg_4 (j := 26) (v := 0x2a) (by decide +kernel))
theorem dL_law_283 : decode cL_law 283 = .ok (.iload 4, 2) := dop_21 (lbg_4 (j := 27) (v := 0x15) (by decide +kernel)) (lbg_4 (j := 28) (v := 0x04) (by decide +kernel))
theorem dL_law_285 : decode cL_law 285 = .ok (.iconst 1, 1) := dop_4 (lbg_4 (j := 29) (v := 0x04) (by decide +kernel))
theorem dL_law_286 : decode cL_law 286 = .ok (.iadd, 1) := dop_96 (lbg_4 (j := 30) (v := 0x60) (by decide +kernel))
theorem dL_law_287 : decode cL_law 287 = .ok (.iaload, 1) := dop_46 (lbg_4 (j := 31) (v := 0x2e) (by decide +kernel))
theorem dL_law_288 : decode cL_law 288 = .ok (.aload_n 0, 1) := dop_42 (lbg_4 (j := 32) (v := 0x2a) (by decide +kernel))
theorem dL_law_289 : decode cL_law 289 = .ok (.iload 4, 2) := dop_21 (lbg_4 (j := 33) (v := 0x15) (by decide +kernel)) (lbg_4 (j := 34) (v := 0x04) (by decide +kernel))
theorem dL_law_291 : decode cL_law 291 = .ok (.iconst 2, 1) := dop_5 (lbg_4 (j := 35) (v := 0x05) (by decide +kernel))
theorem dL_law_292 : decode cL_law 292 = .ok (.iadd, 1) := dop_96 (lbg_4 (j := 36) (v := 0x60) (by decide +kernel))
theorem dL_law_293 : decode cL_law 293 = .ok (.iaload, 1) := dop_46 (lbg_4 (j := 37) (v := 0x2e) (by decide +kernel))
theorem dL_law_294 : decode cL_law 294 = .ok (.aload_n 0, 1) := dop_42 (lbg_4 (j := 38) (v := 0x2a) (by decide +kernel))
theorem dL_law_295 : decode cL_law 295 = .ok (.iload 4, 2) := dop_21 (lbg_4 (j := 39) (v := 0x15) (by decide +kernel)) (lbg_4 (j := 40) (v := 0x04) (by decide +kernel))
theorem dL_law_297 : decode cL_law 297 = .ok (.iconst 3, 1) := dop_6 (lbg_4 (j := 41) (v := 0x06) (by decide +kernel))
theorem dL_law_298 : decode cL_law 298 = .ok (.iadd, 1) := dop_96 (lbg_4 (j := 42) (v := 0x60) (by decide +kernel))
theorem dL_law_299 : decode cL_law 299 = .ok (.iaload, 1) := dop_46 (lbg_4 (j := 43) (v := 0x2e) (by decide +kernel))
theorem dL_law_300 : decode cL_law 300 = .ok (.aload_n 0, 1) := dop_42 (lbg_4 (j := 44) (v := 0x2a) (by decide +kernel))
theorem dL_law_301 : decode cL_law 301 = .ok (.iload 4, 2) := dop_21 (lbg_4 (j := 45) (v := 0x15) (by decide +kernel)) (lbg_4 (j := 46) (v := 0x04) (by decide +kernel))
theorem dL_law_303 : decode cL_law 303 = .ok (.iconst 4, 1) := dop_7 (lbg_4 (j := 47) (v := 0x07) (by decide +kernel))
theorem dL_law_304 : decode cL_law 304 = .ok (.iadd, 1) := dop_96 (lbg_4 (j := 48) (v := 0x60) (by decide +kernel))
theorem dL_law_305 : decode cL_law 305 = .ok (.iaload, 1) := dop_46 (lbg_4 (j := 49) (v := 0x2e) (by decide +kernel))
theorem dL_law_306 : decode cL_law 306 = .ok (.aload_n 0, 1) := dop_42 (lbg_4 (j := 50) (v := 0x2a) (by decide +kernel))
theorem dL_law_307 : decode cL_law 307 = .ok (.iload 4, 2) := dop_21 (lbg_4 (j := 51) (v := 0x15) (by decide +kernel)) (lbg_4 (j := 52) (v := 0x04) (by decide +kernel))
theorem dL_law_309 : decode cL_law 309 = .ok (.iconst 5, 1) := dop_8 (lbg_4 (j := 53) (v := 0x08) (by decide +kernel))
theorem dL_law_310 : decode cL_law 310 = .ok (.iadd, 1) := dop_96 (lbg_4 (j := 54) (v := 0x60) (by decide +kernel))
theorem dL_law_311 : decode cL_law 311 = .ok (.iaload, 1) := dop_46 (lbg_4 (j := 55) (v := 0x2e) (by decide +kernel))
theorem dop_182 {a : ByteArray} {pc : Nat} (h0 : a.data.toList[pc]? = some 182) {x y : UInt8} (h1 : a.data.toList[pc + 1]? = some x) (h2 : a.data.toList[pc + 1 + 1]? = some y) : decode a pc = .ok (.invokevirtual (x.toNat * 256 + y.toNat), 3) := by
  refine (dec_step (q := pc + 3) ?_).trans (by rw [Nat.add_sub_cancel_left])
  unfold Decoder.instr
  rw [bind_ok (u1_of h0)]
  show (((Reader.u2 : Decoder Nat) >>= fun y => (pure (.invokevirtual y) : Decoder Instr)).run a).run (pc + 1) = _
  rw [bind_ok (u2_of h1 h2)]
  rfl
theorem dL_law_312 : decode cL_law 312 = .ok (.invokevirtual 171, 3) := dop_182 (lbg_4 (j := 56) (v := 0xb6) (by decide +kernel)) (lbg_4 (j := 57) (v := 0x00) (by decide +kernel)) (lbg_4 (j := 58) (v := 0xab) (by decide +kernel))
theorem dL_law_315 : decode cL_law 315 = .ok (.istore 6, 2) := dop_54 (lbg_4 (j := 59) (v := 0x36) (by decide +kernel)) (lbg_4 (j := 60) (v := 0x06) (by decide +kernel))
theorem dop_167 {a : ByteArray} {pc : Nat} (h0 : a.data.toList[pc]? = some 167) {x y : UInt8} (h1 : a.data.toList[pc + 1]? = some x) (h2 : a.data.toList[pc + 1 + 1]? = some y) {z : Int} (hz : Reader.signed 16 (x.toNat * 256 + y.toNat) = z) : decode a pc = .ok (.goto z, 3) := by
  subst hz
  refine (dec_step (q := pc + 3) ?_).trans (by rw [Nat.add_sub_cancel_left])
  unfold Decoder.instr
  rw [bind_ok (u1_of h0)]
  show (((Reader.s2 : Decoder Int) >>= fun y => (pure (.goto y) : Decoder Instr)).run a).run (pc + 1) = _
  rw [bind_ok (s2_of h1 h2)]
  rfl
theorem dL_law_317 : decode cL_law 317 = .ok (.goto 1686, 3) := dop_167 (lbg_4 (j := 61) (v := 0xa7) (by decide +kernel)) (lbg_4 (j := 62) (v := 0x06) (by decide +kernel)) (lbg_4 (j := 63) (v := 0x96) (by decide +kernel)) (by decide +kernel)
theorem dL_law_320 : decode cL_law 320 = .ok (.aload_n 1, 1) := dop_43 (lbg_5 (j := 0) (v := 0x2b) (by decide +kernel))
theorem dL_law_321 : decode cL_law 321 = .ok (.aload_n 0, 1) := dop_42 (lbg_5 (j := 1) (v := 0x2a) (by decide +kernel))
theorem dL_law_322 : decode cL_law 322 = .ok (.iload 4, 2) := dop_21 (lbg_5 (j := 2) (v := 0x15) (by decide +kernel)) (lbg_5 (j := 3) (v := 0x04) (by decide +kernel))
theorem dL_law_324 : decode cL_law 324 = .ok (.iconst 1, 1) := dop_4 (lbg_5 (j := 4) (v := 0x04) (by decide +kernel))
theorem dL_law_325 : decode cL_law 325 = .ok (.iadd, 1) := dop_96 (lbg_5 (j := 5) (v := 0x60) (by decide +kernel))
theorem dL_law_326 : decode cL_law 326 = .ok (.iaload, 1) := dop_46 (lbg_5 (j := 6) (v := 0x2e) (by decide +kernel))
theorem dL_law_327 : decode cL_law 327 = .ok (.aload_n 0, 1) := dop_42 (lbg_5 (j := 7) (v := 0x2a) (by decide +kernel))
theorem dL_law_328 : decode cL_law 328 = .ok (.iload 4, 2) := dop_21 (lbg_5 (j := 8) (v := 0x15) (by decide +kernel)) (lbg_5 (j := 9) (v := 0x04) (by decide +kernel))
theorem dL_law_330 : decode cL_law 330 = .ok (.iconst 2, 1) := dop_5 (lbg_5 (j := 10) (v := 0x05) (by decide +kernel))
theorem dL_law_331 : decode cL_law 331 = .ok (.iadd, 1) := dop_96 (lbg_5 (j := 11) (v := 0x60) (by decide +kernel))
theorem dL_law_332 : decode cL_law 332 = .ok (.iaload, 1) := dop_46 (lbg_5 (j := 12) (v := 0x2e) (by decide +kernel))
theorem dL_law_333 : decode cL_law 333 = .ok (.aload_n 3, 1) := dop_45 (lbg_5 (j := 13) (v := 0x2d) (by decide +kernel))
theorem dL_law_334 : decode cL_law 334 = .ok (.invokestatic 172, 3) := dop_184 (lbg_5 (j := 14) (v := 0xb8) (by decide +kernel)) (lbg_5 (j := 15) (v := 0x00) (by decide +kernel)) (lbg_5 (j := 16) (v := 0xac) (by decide +kernel))
theorem dL_law_337 : decode cL_law 337 = .ok (.istore 5, 2) := dop_54 (lbg_5 (j := 17) (v := 0x36) (by decide +kernel)) (lbg_5 (j := 18) (v := 0x05) (by decide +kernel))
theorem dL_law_339 : decode cL_law 339 = .ok (.aload_n 2, 1) := dop_44 (lbg_5 (j := 19) (v := 0x2c) (by decide +kernel))
theorem dL_law_340 : decode cL_law 340 = .ok (.aload_n 0, 1) := dop_42 (lbg_5 (j := 20) (v := 0x2a) (by decide +kernel))
theorem dL_law_341 : decode cL_law 341 = .ok (.iload 4, 2) := dop_21 (lbg_5 (j := 21) (v := 0x15) (by decide +kernel)) (lbg_5 (j := 22) (v := 0x04) (by decide +kernel))
theorem dL_law_343 : decode cL_law 343 = .ok (.iconst 1, 1) := dop_4 (lbg_5 (j := 23) (v := 0x04) (by decide +kernel))
theorem dL_law_344 : decode cL_law 344 = .ok (.iadd, 1) := dop_96 (lbg_5 (j := 24) (v := 0x60) (by decide +kernel))
theorem dL_law_345 : decode cL_law 345 = .ok (.iaload, 1) := dop_46 (lbg_5 (j := 25) (v := 0x2e) (by decide +kernel))
theorem dL_law_346 : decode cL_law 346 = .ok (.aload_n 0, 1) := dop_42 (lbg_5 (j := 26) (v := 0x2a) (by decide +kernel))
theorem dL_law_347 : decode cL_law 347 = .ok (.iload 4, 2) := dop_21 (lbg_5 (j := 27) (v := 0x15) (by decide +kernel)) (lbg_5 (j := 28) (v := 0x04) (by decide +kernel))
theorem dL_law_349 : decode cL_law 349 = .ok (.iconst 2, 1) := dop_5 (lbg_5 (j := 29) (v := 0x05) (by decide +kernel))
theorem dL_law_350 : decode cL_law 350 = .ok (.iadd, 1) := dop_96 (lbg_5 (j := 30) (v := 0x60) (by decide +kernel))
theorem dL_law_351 : decode cL_law 351 = .ok (.iaload, 1) := dop_46 (lbg_5 (j := 31) (v := 0x2e) (by decide +kernel))
theorem dL_law_352 : decode cL_law 352 = .ok (.invokevirtual 175, 3) := dop_182 (lbg_5 (j := 32) (v := 0xb6) (by decide +kernel)) (lbg_5 (j := 33) (v := 0x00) (by decide +kernel)) (lbg_5 (j := 34) (v := 0xaf) (by decide +kernel))
theorem dL_law_355 : decode cL_law 355 = .ok (.istore 6, 2) := dop_54 (lbg_5 (j := 35) (v := 0x36) (by decide +kernel)) (lbg_5 (j := 36) (v := 0x06) (by decide +kernel))
theorem dL_law_357 : decode cL_law 357 = .ok (.goto 1646, 3) := dop_167 (lbg_5 (j := 37) (v := 0xa7) (by decide +kernel)) (lbg_5 (j := 38) (v := 0x06) (by decide +kernel)) (lbg_5 (j := 39) (v := 0x6e) (by decide +kernel)) (by decide +kernel)
theorem dL_law_360 : decode cL_law 360 = .ok (.aload_n 1, 1) := dop_43 (lbg_5 (j := 40) (v := 0x2b) (by decide +kernel))
theorem dL_law_361 : decode cL_law 361 = .ok (.aload_n 0, 1) := dop_42 (lbg_5 (j := 41) (v := 0x2a) (by decide +kernel))
theorem dL_law_362 : decode cL_law 362 = .ok (.iload 4, 2) := dop_21 (lbg_5 (j := 42) (v := 0x15) (by decide +kernel)) (lbg_5 (j := 43) (v := 0x04) (by decide +kernel))
theorem dL_law_364 : decode cL_law 364 = .ok (.iconst 1, 1) := dop_4 (lbg_5 (j := 44) (v := 0x04) (by decide +kernel))
theorem dL_law_365 : decode cL_law 365 = .ok (.iadd, 1) := dop_96 (lbg_5 (j := 45) (v := 0x60) (by decide +kernel))
theorem dL_law_366 : decode cL_law 366 = .ok (.iaload, 1) := dop_46 (lbg_5 (j := 46) (v := 0x2e) (by decide +kernel))
theorem dL_law_367 : decode cL_law 367 = .ok (.aload_n 0, 1) := dop_42 (lbg_5 (j := 47) (v := 0x2a) (by decide +kernel))
theorem dL_law_368 : decode cL_law 368 = .ok (.iload 4, 2) := dop_21 (lbg_5 (j := 48) (v := 0x15) (by decide +kernel)) (lbg_5 (j := 49) (v := 0x04) (by decide +kernel))
theorem dL_law_370 : decode cL_law 370 = .ok (.iconst 2, 1) := dop_5 (lbg_5 (j := 50) (v := 0x05) (by decide +kernel))
theorem dL_law_371 : decode cL_law 371 = .ok (.iadd, 1) := dop_96 (lbg_5 (j := 51) (v := 0x60) (by decide +kernel))
theorem dL_law_372 : decode cL_law 372 = .ok (.iaload, 1) := dop_46 (lbg_5 (j := 52) (v := 0x2e) (by decide +kernel))
theorem dL_law_373 : decode cL_law 373 = .ok (.aload_n 0, 1) := dop_42 (lbg_5 (j := 53) (v := 0x2a) (by decide +kernel))
theorem dL_law_374 : decode cL_law 374 = .ok (.iload 4, 2) := dop_21 (lbg_5 (j := 54) (v := 0x15) (by decide +kernel)) (lbg_5 (j := 55) (v := 0x04) (by decide +kernel))
theorem dL_law_376 : decode cL_law 376 = .ok (.iconst 3, 1) := dop_6 (lbg_5 (j := 56) (v := 0x06) (by decide +kernel))
theorem dL_law_377 : decode cL_law 377 = .ok (.iadd, 1) := dop_96 (lbg_5 (j := 57) (v := 0x60) (by decide +kernel))
theorem dL_law_378 : decode cL_law 378 = .ok (.iaload, 1) := dop_46 (lbg_5 (j := 58) (v := 0x2e) (by decide +kernel))
theorem dL_law_379 : decode cL_law 379 = .ok (.aload_n 3, 1) := dop_45 (lbg_5 (j := 59) (v := 0x2d) (by decide +kernel))
theorem dL_law_380 : decode cL_law 380 = .ok (.invokestatic 176, 3) := dop_184 (lbg_5 (j := 60) (v := 0xb8) (by decide +kernel)) (lbg_5 (j := 61) (v := 0x00) (by decide +kernel)) (lbg_5 (j := 62) (v := 0xb0) (by decide +kernel))
theorem dL_law_383 : decode cL_law 383 = .ok (.istore 5, 2) := dop_54 (lbg_5 (j := 63) (v := 0x36) (by decide +kernel)) (lbg_6 (j := 0) (v := 0x05) (by decide +kernel))
theorem dL_law_385 : decode cL_law 385 = .ok (.aload_n 2, 1) := dop_44 (lbg_6 (j := 1) (v := 0x2c) (by decide +kernel))
theorem dL_law_386 : decode cL_law 386 = .ok (.aload_n 0, 1) := dop_42 (lbg_6 (j := 2) (v := 0x2a) (by decide +kernel))
theorem dL_law_387 : decode cL_law 387 = .ok (.iload 4, 2) := dop_21 (lbg_6 (j := 3) (v := 0x15) (by decide +kernel)) (lbg_6 (j := 4) (v := 0x04) (by decide +kernel))
theorem dL_law_389 : decode cL_law 389 = .ok (.iconst 1, 1) := dop_4 (lbg_6 (j := 5) (v := 0x04) (by decide +kernel))
theorem dL_law_390 : decode cL_law 390 = .ok (.iadd, 1) := dop_96 (lbg_6 (j := 6) (v := 0x60) (by decide +kernel))
theorem dL_law_391 : decode cL_law 391 = .ok (.iaload, 1) := dop_46 (lbg_6 (j := 7) (v := 0x2e) (by decide +kernel))
theorem dL_law_392 : decode cL_law 392 = .ok (.aload_n 0, 1) := dop_42 (lbg_6 (j := 8) (v := 0x2a) (by decide +kernel))
theorem dL_law_393 : decode cL_law 393 = .ok (.iload 4, 2) := dop_21 (lbg_6 (j := 9) (v := 0x15) (by decide +kernel)) (lbg_6 (j := 10) (v := 0x04) (by decide +kernel))
theorem dL_law_395 : decode cL_law 395 = .ok (.iconst 2, 1) := dop_5 (lbg_6 (j := 11) (v := 0x05) (by decide +kernel))
theorem dL_law_396 : decode cL_law 396 = .ok (.iadd, 1) := dop_96 (lbg_6 (j := 12) (v := 0x60) (by decide +kernel))
theorem dL_law_397 : decode cL_law 397 = .ok (.iaload, 1) := dop_46 (lbg_6 (j := 13) (v := 0x2e) (by decide +kernel))
theorem dL_law_398 : decode cL_law 398 = .ok (.aload_n 0, 1) := dop_42 (lbg_6 (j := 14) (v := 0x2a) (by decide +kernel))
theorem dL_law_399 : decode cL_law 399 = .ok (.iload 4, 2) := dop_21 (lbg_6 (j := 15) (v := 0x15) (by decide +kernel)) (lbg_6 (j := 16) (v := 0x04) (by decide +kernel))
theorem dL_law_401 : decode cL_law 401 = .ok (.iconst 3, 1) := dop_6 (lbg_6 (j := 17) (v := 0x06) (by decide +kernel))
theorem dL_law_402 : decode cL_law 402 = .ok (.iadd, 1) := dop_96 (lbg_6 (j := 18) (v := 0x60) (by decide +kernel))
theorem dL_law_403 : decode cL_law 403 = .ok (.iaload, 1) := dop_46 (lbg_6 (j := 19) (v := 0x2e) (by decide +kernel))
theorem dL_law_404 : decode cL_law 404 = .ok (.invokevirtual 179, 3) := dop_182 (lbg_6 (j := 20) (v := 0xb6) (by decide +kernel)) (lbg_6 (j := 21) (v := 0x00) (by decide +kernel)) (lbg_6 (j := 22) (v := 0xb3) (by decide +kernel))
theorem dL_law_407 : decode cL_law 407 = .ok (.istore 6, 2) := dop_54 (lbg_6 (j := 23) (v := 0x36) (by decide +kernel)) (lbg_6 (j := 24) (v := 0x06) (by decide +kernel))
theorem dL_law_409 : decode cL_law 409 = .ok (.goto 1594, 3) := dop_167 (lbg_6 (j := 25) (v := 0xa7) (by decide +kernel)) (lbg_6 (j := 26) (v := 0x06) (by decide +kernel)) (lbg_6 (j := 27) (v := 0x3a) (by decide +kernel)) (by decide +kernel)
theorem dL_law_412 : decode cL_law 412 = .ok (.aload_n 1, 1) := dop_43 (lbg_6 (j := 28) (v := 0x2b) (by decide +kernel))
theorem dL_law_413 : decode cL_law 413 = .ok (.aload_n 0, 1) := dop_42 (lbg_6 (j := 29) (v := 0x2a) (by decide +kernel))
theorem dL_law_414 : decode cL_law 414 = .ok (.iload 4, 2) := dop_21 (lbg_6 (j := 30) (v := 0x15) (by decide +kernel)) (lbg_6 (j := 31) (v := 0x04) (by decide +kernel))
theorem dL_law_416 : decode cL_law 416 = .ok (.iconst 1, 1) := dop_4 (lbg_6 (j := 32) (v := 0x04) (by decide +kernel))
theorem dL_law_417 : decode cL_law 417 = .ok (.iadd, 1) := dop_96 (lbg_6 (j := 33) (v := 0x60) (by decide +kernel))
theorem dL_law_418 : decode cL_law 418 = .ok (.iaload, 1) := dop_46 (lbg_6 (j := 34) (v := 0x2e) (by decide +kernel))
theorem dL_law_419 : decode cL_law 419 = .ok (.aload_n 0, 1) := dop_42 (lbg_6 (j := 35) (v := 0x2a) (by decide +kernel))
theorem dL_law_420 : decode cL_law 420 = .ok (.iload 4, 2) := dop_21 (lbg_6 (j := 36) (v := 0x15) (by decide +kernel)) (lbg_6 (j := 37) (v := 0x04) (by decide +kernel))
theorem dL_law_422 : decode cL_law 422 = .ok (.iconst 2, 1) := dop_5 (lbg_6 (j := 38) (v := 0x05) (by decide +kernel))
theorem dL_law_423 : decode cL_law 423 = .ok (.iadd, 1) := dop_96 (lbg_6 (j := 39) (v := 0x60) (by decide +kernel))
theorem dL_law_424 : decode cL_law 424 = .ok (.iaload, 1) := dop_46 (lbg_6 (j := 40) (v := 0x2e) (by decide +kernel))
theorem dL_law_425 : decode cL_law 425 = .ok (.aload_n 3, 1) := dop_45 (lbg_6 (j := 41) (v := 0x2d) (by decide +kernel))
theorem dL_law_426 : decode cL_law 426 = .ok (.invokestatic 180, 3) := dop_184 (lbg_6 (j := 42) (v := 0xb8) (by decide +kernel)) (lbg_6 (j := 43) (v := 0x00) (by decide +kernel)) (lbg_6 (j := 44) (v := 0xb4) (by decide +kernel))
theorem dL_law_429 : decode cL_law 429 = .ok (.istore 5, 2) := dop_54 (lbg_6 (j := 45) (v := 0x36) (by decide +kernel)) (lbg_6 (j := 46) (v := 0x05) (by decide +kernel))
theorem dL_law_431 : decode cL_law 431 = .ok (.aload_n 2, 1) := dop_44 (lbg_6 (j := 47) (v := 0x2c) (by decide +kernel))
theorem dL_law_432 : decode cL_law 432 = .ok (.aload_n 0, 1) := dop_42 (lbg_6 (j := 48) (v := 0x2a) (by decide +kernel))
theorem dL_law_433 : decode cL_law 433 = .ok (.iload 4, 2) := dop_21 (lbg_6 (j := 49) (v := 0x15) (by decide +kernel)) (lbg_6 (j := 50) (v := 0x04) (by decide +kernel))
theorem dL_law_435 : decode cL_law 435 = .ok (.iconst 1, 1) := dop_4 (lbg_6 (j := 51) (v := 0x04) (by decide +kernel))
theorem dL_law_436 : decode cL_law 436 = .ok (.iadd, 1) := dop_96 (lbg_6 (j := 52) (v := 0x60) (by decide +kernel))
theorem dL_law_437 : decode cL_law 437 = .ok (.iaload, 1) := dop_46 (lbg_6 (j := 53) (v := 0x2e) (by decide +kernel))
theorem dL_law_438 : decode cL_law 438 = .ok (.aload_n 0, 1) := dop_42 (lbg_6 (j := 54) (v := 0x2a) (by decide +kernel))
theorem dL_law_439 : decode cL_law 439 = .ok (.iload 4, 2) := dop_21 (lbg_6 (j := 55) (v := 0x15) (by decide +kernel)) (lbg_6 (j := 56) (v := 0x04) (by decide +kernel))
theorem dL_law_441 : decode cL_law 441 = .ok (.iconst 2, 1) := dop_5 (lbg_6 (j := 57) (v := 0x05) (by decide +kernel))
theorem dL_law_442 : decode cL_law 442 = .ok (.iadd, 1) := dop_96 (lbg_6 (j := 58) (v := 0x60) (by decide +kernel))
theorem dL_law_443 : decode cL_law 443 = .ok (.iaload, 1) := dop_46 (lbg_6 (j := 59) (v := 0x2e) (by decide +kernel))
theorem dL_law_444 : decode cL_law 444 = .ok (.invokevirtual 182, 3) := dop_182 (lbg_6 (j := 60) (v := 0xb6) (by decide +kernel)) (lbg_6 (j := 61) (v := 0x00) (by decide +kernel)) (lbg_6 (j := 62) (v := 0xb6) (by decide +kernel))
theorem dL_law_447 : decode cL_law 447 = .ok (.istore 6, 2) := dop_54 (lbg_6 (j := 63) (v := 0x36) (by decide +kernel)) (lbg_7 (j := 0) (v := 0x06) (by decide +kernel))
theorem dL_law_449 : decode cL_law 449 = .ok (.goto 1554, 3) := dop_167 (lbg_7 (j := 1) (v := 0xa7) (by decide +kernel)) (lbg_7 (j := 2) (v := 0x06) (by decide +kernel)) (lbg_7 (j := 3) (v := 0x12) (by decide +kernel)) (by decide +kernel)
theorem dL_law_452 : decode cL_law 452 = .ok (.aload_n 1, 1) := dop_43 (lbg_7 (j := 4) (v := 0x2b) (by decide +kernel))
theorem dL_law_453 : decode cL_law 453 = .ok (.aload_n 0, 1) := dop_42 (lbg_7 (j := 5) (v := 0x2a) (by decide +kernel))
theorem dL_law_454 : decode cL_law 454 = .ok (.iload 4, 2) := dop_21 (lbg_7 (j := 6) (v := 0x15) (by decide +kernel)) (lbg_7 (j := 7) (v := 0x04) (by decide +kernel))
theorem dL_law_456 : decode cL_law 456 = .ok (.iconst 1, 1) := dop_4 (lbg_7 (j := 8) (v := 0x04) (by decide +kernel))
theorem dL_law_457 : decode cL_law 457 = .ok (.iadd, 1) := dop_96 (lbg_7 (j := 9) (v := 0x60) (by decide +kernel))
theorem dL_law_458 : decode cL_law 458 = .ok (.iaload, 1) := dop_46 (lbg_7 (j := 10) (v := 0x2e) (by decide +kernel))
theorem dL_law_459 : decode cL_law 459 = .ok (.aload_n 3, 1) := dop_45 (lbg_7 (j := 11) (v := 0x2d) (by decide +kernel))
theorem dL_law_460 : decode cL_law 460 = .ok (.invokestatic 183, 3) := dop_184 (lbg_7 (j := 12) (v := 0xb8) (by decide +kernel)) (lbg_7 (j := 13) (v := 0x00) (by decide +kernel)) (lbg_7 (j := 14) (v := 0xb7) (by decide +kernel))
theorem dL_law_463 : decode cL_law 463 = .ok (.istore 5, 2) := dop_54 (lbg_7 (j := 15) (v := 0x36) (by decide +kernel)) (lbg_7 (j := 16) (v := 0x05) (by decide +kernel))
theorem dL_law_465 : decode cL_law 465 = .ok (.aload_n 2, 1) := dop_44 (lbg_7 (j := 17) (v := 0x2c) (by decide +kernel))
theorem dL_law_466 : decode cL_law 466 = .ok (.aload_n 0, 1) := dop_42 (lbg_7 (j := 18) (v := 0x2a) (by decide +kernel))
theorem dL_law_467 : decode cL_law 467 = .ok (.iload 4, 2) := dop_21 (lbg_7 (j := 19) (v := 0x15) (by decide +kernel)) (lbg_7 (j := 20) (v := 0x04) (by decide +kernel))
theorem dL_law_469 : decode cL_law 469 = .ok (.iconst 1, 1) := dop_4 (lbg_7 (j := 21) (v := 0x04) (by decide +kernel))
theorem dL_law_470 : decode cL_law 470 = .ok (.iadd, 1) := dop_96 (lbg_7 (j := 22) (v := 0x60) (by decide +kernel))
theorem dL_law_471 : decode cL_law 471 = .ok (.iaload, 1) := dop_46 (lbg_7 (j := 23) (v := 0x2e) (by decide +kernel))
theorem dL_law_472 : decode cL_law 472 = .ok (.invokevirtual 186, 3) := dop_182 (lbg_7 (j := 24) (v := 0xb6) (by decide +kernel)) (lbg_7 (j := 25) (v := 0x00) (by decide +kernel)) (lbg_7 (j := 26) (v := 0xba) (by decide +kernel))
theorem dL_law_475 : decode cL_law 475 = .ok (.istore 6, 2) := dop_54 (lbg_7 (j := 27) (v := 0x36) (by decide +kernel)) (lbg_7 (j := 28) (v := 0x06) (by decide +kernel))
theorem dL_law_477 : decode cL_law 477 = .ok (.goto 1526, 3) := dop_167 (lbg_7 (j := 29) (v := 0xa7) (by decide +kernel)) (lbg_7 (j := 30) (v := 0x05) (by decide +kernel)) (lbg_7 (j := 31) (v := 0xf6) (by decide +kernel)) (by decide +kernel)
theorem dL_law_480 : decode cL_law 480 = .ok (.aload_n 1, 1) := dop_43 (lbg_7 (j := 32) (v := 0x2b) (by decide +kernel))
theorem dL_law_481 : decode cL_law 481 = .ok (.aload_n 0, 1) := dop_42 (lbg_7 (j := 33) (v := 0x2a) (by decide +kernel))
theorem dL_law_482 : decode cL_law 482 = .ok (.iload 4, 2) := dop_21 (lbg_7 (j := 34) (v := 0x15) (by decide +kernel)) (lbg_7 (j := 35) (v := 0x04) (by decide +kernel))
theorem dL_law_484 : decode cL_law 484 = .ok (.iconst 1, 1) := dop_4 (lbg_7 (j := 36) (v := 0x04) (by decide +kernel))
theorem dL_law_485 : decode cL_law 485 = .ok (.iadd, 1) := dop_96 (lbg_7 (j := 37) (v := 0x60) (by decide +kernel))
theorem dL_law_486 : decode cL_law 486 = .ok (.iaload, 1) := dop_46 (lbg_7 (j := 38) (v := 0x2e) (by decide +kernel))
theorem dL_law_487 : decode cL_law 487 = .ok (.aload_n 0, 1) := dop_42 (lbg_7 (j := 39) (v := 0x2a) (by decide +kernel))
theorem dL_law_488 : decode cL_law 488 = .ok (.iload 4, 2) := dop_21 (lbg_7 (j := 40) (v := 0x15) (by decide +kernel)) (lbg_7 (j := 41) (v := 0x04) (by decide +kernel))
theorem dL_law_490 : decode cL_law 490 = .ok (.iconst 2, 1) := dop_5 (lbg_7 (j := 42) (v := 0x05) (by decide +kernel))
theorem dL_law_491 : decode cL_law 491 = .ok (.iadd, 1) := dop_96 (lbg_7 (j := 43) (v := 0x60) (by decide +kernel))
theorem dL_law_492 : decode cL_law 492 = .ok (.iaload, 1) := dop_46 (lbg_7 (j := 44) (v := 0x2e) (by decide +kernel))
theorem dL_law_493 : decode cL_law 493 = .ok (.aload_n 3, 1) := dop_45 (lbg_7 (j := 45) (v := 0x2d) (by decide +kernel))
theorem dL_law_494 : decode cL_law 494 = .ok (.invokestatic 187, 3) := dop_184 (lbg_7 (j := 46) (v := 0xb8) (by decide +kernel)) (lbg_7 (j := 47) (v := 0x00) (by decide +kernel)) (lbg_7 (j := 48) (v := 0xbb) (by decide +kernel))
theorem dL_law_497 : decode cL_law 497 = .ok (.istore 5, 2) := dop_54 (lbg_7 (j := 49) (v := 0x36) (by decide +kernel)) (lbg_7 (j := 50) (v := 0x05) (by decide +kernel))
theorem dL_law_499 : decode cL_law 499 = .ok (.aload_n 2, 1) := dop_44 (lbg_7 (j := 51) (v := 0x2c) (by decide +kernel))
theorem dL_law_500 : decode cL_law 500 = .ok (.aload_n 0, 1) := dop_42 (lbg_7 (j := 52) (v := 0x2a) (by decide +kernel))
theorem dL_law_501 : decode cL_law 501 = .ok (.iload 4, 2) := dop_21 (lbg_7 (j := 53) (v := 0x15) (by decide +kernel)) (lbg_7 (j := 54) (v := 0x04) (by decide +kernel))
theorem dL_law_503 : decode cL_law 503 = .ok (.iconst 1, 1) := dop_4 (lbg_7 (j := 55) (v := 0x04) (by decide +kernel))
theorem dL_law_504 : decode cL_law 504 = .ok (.iadd, 1) := dop_96 (lbg_7 (j := 56) (v := 0x60) (by decide +kernel))
theorem dL_law_505 : decode cL_law 505 = .ok (.iaload, 1) := dop_46 (lbg_7 (j := 57) (v := 0x2e) (by decide +kernel))
theorem dL_law_506 : decode cL_law 506 = .ok (.aload_n 0, 1) := dop_42 (lbg_7 (j := 58) (v := 0x2a) (by decide +kernel))
theorem dL_law_507 : decode cL_law 507 = .ok (.iload 4, 2) := dop_21 (lbg_7 (j := 59) (v := 0x15) (by decide +kernel)) (lbg_7 (j := 60) (v := 0x04) (by decide +kernel))
theorem dL_law_509 : decode cL_law 509 = .ok (.iconst 2, 1) := dop_5 (lbg_7 (j := 61) (v := 0x05) (by decide +kernel))
theorem dL_law_510 : decode cL_law 510 = .ok (.iadd, 1) := dop_96 (lbg_7 (j := 62) (v := 0x60) (by decide +kernel))
theorem dL_law_511 : decode cL_law 511 = .ok (.iaload, 1) := dop_46 (lbg_7 (j := 63) (v := 0x2e) (by decide +kernel))
theorem dL_law_512 : decode cL_law 512 = .ok (.invokevirtual 189, 3) := dop_182 (lbg_8 (j := 0) (v := 0xb6) (by decide +kernel)) (lbg_8 (j := 1) (v := 0x00) (by decide +kernel)) (lbg_8 (j := 2) (v := 0xbd) (by decide +kernel))
theorem dL_law_515 : decode cL_law 515 = .ok (.istore 6, 2) := dop_54 (lbg_8 (j := 3) (v := 0x36) (by decide +kernel)) (lbg_8 (j := 4) (v := 0x06) (by decide +kernel))
theorem dL_law_517 : decode cL_law 517 = .ok (.goto 1486, 3) := dop_167 (lbg_8 (j := 5) (v := 0xa7) (by decide +kernel)) (lbg_8 (j := 6) (v := 0x05) (by decide +kernel)) (lbg_8 (j := 7) (v := 0xce) (by decide +kernel)) (by decide +kernel)
theorem dL_law_520 : decode cL_law 520 = .ok (.aload_n 1, 1) := dop_43 (lbg_8 (j := 8) (v := 0x2b) (by decide +kernel))
theorem dL_law_521 : decode cL_law 521 = .ok (.aload_n 0, 1) := dop_42 (lbg_8 (j := 9) (v := 0x2a) (by decide +kernel))
theorem dL_law_522 : decode cL_law 522 = .ok (.iload 4, 2) := dop_21 (lbg_8 (j := 10) (v := 0x15) (by decide +kernel)) (lbg_8 (j := 11) (v := 0x04) (by decide +kernel))
theorem dL_law_524 : decode cL_law 524 = .ok (.iconst 1, 1) := dop_4 (lbg_8 (j := 12) (v := 0x04) (by decide +kernel))
theorem dL_law_525 : decode cL_law 525 = .ok (.iadd, 1) := dop_96 (lbg_8 (j := 13) (v := 0x60) (by decide +kernel))
theorem dL_law_526 : decode cL_law 526 = .ok (.iaload, 1) := dop_46 (lbg_8 (j := 14) (v := 0x2e) (by decide +kernel))
theorem dL_law_527 : decode cL_law 527 = .ok (.aload_n 0, 1) := dop_42 (lbg_8 (j := 15) (v := 0x2a) (by decide +kernel))
theorem dL_law_528 : decode cL_law 528 = .ok (.iload 4, 2) := dop_21 (lbg_8 (j := 16) (v := 0x15) (by decide +kernel)) (lbg_8 (j := 17) (v := 0x04) (by decide +kernel))
theorem dL_law_530 : decode cL_law 530 = .ok (.iconst 2, 1) := dop_5 (lbg_8 (j := 18) (v := 0x05) (by decide +kernel))
theorem dL_law_531 : decode cL_law 531 = .ok (.iadd, 1) := dop_96 (lbg_8 (j := 19) (v := 0x60) (by decide +kernel))
theorem dL_law_532 : decode cL_law 532 = .ok (.iaload, 1) := dop_46 (lbg_8 (j := 20) (v := 0x2e) (by decide +kernel))
theorem dL_law_533 : decode cL_law 533 = .ok (.aload_n 0, 1) := dop_42 (lbg_8 (j := 21) (v := 0x2a) (by decide +kernel))
theorem dL_law_534 : decode cL_law 534 = .ok (.iload 4, 2) := dop_21 (lbg_8 (j := 22) (v := 0x15) (by decide +kernel)) (lbg_8 (j := 23) (v := 0x04) (by decide +kernel))
theorem dL_law_536 : decode cL_law 536 = .ok (.iconst 3, 1) := dop_6 (lbg_8 (j := 24) (v := 0x06) (by decide +kernel))
theorem dL_law_537 : decode cL_law 537 = .ok (.iadd, 1) := dop_96 (lbg_8 (j := 25) (v := 0x60) (by decide +kernel))
theorem dL_law_538 : decode cL_law 538 = .ok (.iaload, 1) := dop_46 (lbg_8 (j := 26) (v := 0x2e) (by decide +kernel))
theorem dL_law_539 : decode cL_law 539 = .ok (.aload_n 3, 1) := dop_45 (lbg_8 (j := 27) (v := 0x2d) (by decide +kernel))
theorem dL_law_540 : decode cL_law 540 = .ok (.invokestatic 190, 3) := dop_184 (lbg_8 (j := 28) (v := 0xb8) (by decide +kernel)) (lbg_8 (j := 29) (v := 0x00) (by decide +kernel)) (lbg_8 (j := 30) (v := 0xbe) (by decide +kernel))
theorem dL_law_543 : decode cL_law 543 = .ok (.istore 5, 2) := dop_54 (lbg_8 (j := 31) (v := 0x36) (by decide +kernel)) (lbg_8 (j := 32) (v := 0x05) (by decide +kernel))
theorem dL_law_545 : decode cL_law 545 = .ok (.aload_n 2, 1) := dop_44 (lbg_8 (j := 33) (v := 0x2c) (by decide +kernel))
theorem dL_law_546 : decode cL_law 546 = .ok (.aload_n 0, 1) := dop_42 (lbg_8 (j := 34) (v := 0x2a) (by decide +kernel))
theorem dL_law_547 : decode cL_law 547 = .ok (.iload 4, 2) := dop_21 (lbg_8 (j := 35) (v := 0x15) (by decide +kernel)) (lbg_8 (j := 36) (v := 0x04) (by decide +kernel))
theorem dL_law_549 : decode cL_law 549 = .ok (.iconst 1, 1) := dop_4 (lbg_8 (j := 37) (v := 0x04) (by decide +kernel))
theorem dL_law_550 : decode cL_law 550 = .ok (.iadd, 1) := dop_96 (lbg_8 (j := 38) (v := 0x60) (by decide +kernel))
theorem dL_law_551 : decode cL_law 551 = .ok (.iaload, 1) := dop_46 (lbg_8 (j := 39) (v := 0x2e) (by decide +kernel))
theorem dL_law_552 : decode cL_law 552 = .ok (.aload_n 0, 1) := dop_42 (lbg_8 (j := 40) (v := 0x2a) (by decide +kernel))
theorem dL_law_553 : decode cL_law 553 = .ok (.iload 4, 2) := dop_21 (lbg_8 (j := 41) (v := 0x15) (by decide +kernel)) (lbg_8 (j := 42) (v := 0x04) (by decide +kernel))
theorem dL_law_555 : decode cL_law 555 = .ok (.iconst 2, 1) := dop_5 (lbg_8 (j := 43) (v := 0x05) (by decide +kernel))
theorem dL_law_556 : decode cL_law 556 = .ok (.iadd, 1) := dop_96 (lbg_8 (j := 44) (v := 0x60) (by decide +kernel))
theorem dL_law_557 : decode cL_law 557 = .ok (.iaload, 1) := dop_46 (lbg_8 (j := 45) (v := 0x2e) (by decide +kernel))
theorem dL_law_558 : decode cL_law 558 = .ok (.aload_n 0, 1) := dop_42 (lbg_8 (j := 46) (v := 0x2a) (by decide +kernel))
theorem dL_law_559 : decode cL_law 559 = .ok (.iload 4, 2) := dop_21 (lbg_8 (j := 47) (v := 0x15) (by decide +kernel)) (lbg_8 (j := 48) (v := 0x04) (by decide +kernel))
theorem dL_law_561 : decode cL_law 561 = .ok (.iconst 3, 1) := dop_6 (lbg_8 (j := 49) (v := 0x06) (by decide +kernel))
theorem dL_law_562 : decode cL_law 562 = .ok (.iadd, 1) := dop_96 (lbg_8 (j := 50) (v := 0x60) (by decide +kernel))
theorem dL_law_563 : decode cL_law 563 = .ok (.iaload, 1) := dop_46 (lbg_8 (j := 51) (v := 0x2e) (by decide +kernel))
theorem dL_law_564 : decode cL_law 564 = .ok (.invokevirtual 192, 3) := dop_182 (lbg_8 (j := 52) (v := 0xb6) (by decide +kernel)) (lbg_8 (j := 53) (v := 0x00) (by decide +kernel)) (lbg_8 (j := 54) (v := 0xc0) (by decide +kernel))
theorem dL_law_567 : decode cL_law 567 = .ok (.istore 6, 2) := dop_54 (lbg_8 (j := 55) (v := 0x36) (by decide +kernel)) (lbg_8 (j := 56) (v := 0x06) (by decide +kernel))
theorem dL_law_569 : decode cL_law 569 = .ok (.goto 1434, 3) := dop_167 (lbg_8 (j := 57) (v := 0xa7) (by decide +kernel)) (lbg_8 (j := 58) (v := 0x05) (by decide +kernel)) (lbg_8 (j := 59) (v := 0x9a) (by decide +kernel)) (by decide +kernel)
theorem dL_law_572 : decode cL_law 572 = .ok (.aload_n 1, 1) := dop_43 (lbg_8 (j := 60) (v := 0x2b) (by decide +kernel))
theorem dL_law_573 : decode cL_law 573 = .ok (.aload_n 0, 1) := dop_42 (lbg_8 (j := 61) (v := 0x2a) (by decide +kernel))
theorem dL_law_574 : decode cL_law 574 = .ok (.iload 4, 2) := dop_21 (lbg_8 (j := 62) (v := 0x15) (by decide +kernel)) (lbg_8 (j := 63) (v := 0x04) (by decide +kernel))
theorem dL_law_576 : decode cL_law 576 = .ok (.iconst 1, 1) := dop_4 (lbg_9 (j := 0) (v := 0x04) (by decide +kernel))
theorem dL_law_577 : decode cL_law 577 = .ok (.iadd, 1) := dop_96 (lbg_9 (j := 1) (v := 0x60) (by decide +kernel))
theorem dL_law_578 : decode cL_law 578 = .ok (.iaload, 1) := dop_46 (lbg_9 (j := 2) (v := 0x2e) (by decide +kernel))
theorem dL_law_579 : decode cL_law 579 = .ok (.aload_n 3, 1) := dop_45 (lbg_9 (j := 3) (v := 0x2d) (by decide +kernel))
theorem dL_law_580 : decode cL_law 580 = .ok (.invokestatic 193, 3) := dop_184 (lbg_9 (j := 4) (v := 0xb8) (by decide +kernel)) (lbg_9 (j := 5) (v := 0x00) (by decide +kernel)) (lbg_9 (j := 6) (v := 0xc1) (by decide +kernel))
theorem dL_law_583 : decode cL_law 583 = .ok (.istore 5, 2) := dop_54 (lbg_9 (j := 7) (v := 0x36) (by decide +kernel)) (lbg_9 (j := 8) (v := 0x05) (by decide +kernel))
theorem dL_law_585 : decode cL_law 585 = .ok (.aload_n 2, 1) := dop_44 (lbg_9 (j := 9) (v := 0x2c) (by decide +kernel))
theorem dL_law_586 : decode cL_law 586 = .ok (.aload_n 0, 1) := dop_42 (lbg_9 (j := 10) (v := 0x2a) (by decide +kernel))
theorem dL_law_587 : decode cL_law 587 = .ok (.iload 4, 2) := dop_21 (lbg_9 (j := 11) (v := 0x15) (by decide +kernel)) (lbg_9 (j := 12) (v := 0x04) (by decide +kernel))
theorem dL_law_589 : decode cL_law 589 = .ok (.iconst 1, 1) := dop_4 (lbg_9 (j := 13) (v := 0x04) (by decide +kernel))
theorem dL_law_590 : decode cL_law 590 = .ok (.iadd, 1) := dop_96 (lbg_9 (j := 14) (v := 0x60) (by decide +kernel))
theorem dL_law_591 : decode cL_law 591 = .ok (.iaload, 1) := dop_46 (lbg_9 (j := 15) (v := 0x2e) (by decide +kernel))
theorem dL_law_592 : decode cL_law 592 = .ok (.invokevirtual 195, 3) := dop_182 (lbg_9 (j := 16) (v := 0xb6) (by decide +kernel)) (lbg_9 (j := 17) (v := 0x00) (by decide +kernel)) (lbg_9 (j := 18) (v := 0xc3) (by decide +kernel))
theorem dL_law_595 : decode cL_law 595 = .ok (.istore 6, 2) := dop_54 (lbg_9 (j := 19) (v := 0x36) (by decide +kernel)) (lbg_9 (j := 20) (v := 0x06) (by decide +kernel))
theorem dL_law_597 : decode cL_law 597 = .ok (.goto 1406, 3) := dop_167 (lbg_9 (j := 21) (v := 0xa7) (by decide +kernel)) (lbg_9 (j := 22) (v := 0x05) (by decide +kernel)) (lbg_9 (j := 23) (v := 0x7e) (by decide +kernel)) (by decide +kernel)
theorem dL_law_600 : decode cL_law 600 = .ok (.aload_n 1, 1) := dop_43 (lbg_9 (j := 24) (v := 0x2b) (by decide +kernel))
theorem dL_law_601 : decode cL_law 601 = .ok (.aload_n 0, 1) := dop_42 (lbg_9 (j := 25) (v := 0x2a) (by decide +kernel))
theorem dL_law_602 : decode cL_law 602 = .ok (.iload 4, 2) := dop_21 (lbg_9 (j := 26) (v := 0x15) (by decide +kernel)) (lbg_9 (j := 27) (v := 0x04) (by decide +kernel))
theorem dL_law_604 : decode cL_law 604 = .ok (.iconst 1, 1) := dop_4 (lbg_9 (j := 28) (v := 0x04) (by decide +kernel))
theorem dL_law_605 : decode cL_law 605 = .ok (.iadd, 1) := dop_96 (lbg_9 (j := 29) (v := 0x60) (by decide +kernel))
theorem dL_law_606 : decode cL_law 606 = .ok (.iaload, 1) := dop_46 (lbg_9 (j := 30) (v := 0x2e) (by decide +kernel))
theorem dL_law_607 : decode cL_law 607 = .ok (.aload_n 0, 1) := dop_42 (lbg_9 (j := 31) (v := 0x2a) (by decide +kernel))
theorem dL_law_608 : decode cL_law 608 = .ok (.iload 4, 2) := dop_21 (lbg_9 (j := 32) (v := 0x15) (by decide +kernel)) (lbg_9 (j := 33) (v := 0x04) (by decide +kernel))
theorem dL_law_610 : decode cL_law 610 = .ok (.iconst 2, 1) := dop_5 (lbg_9 (j := 34) (v := 0x05) (by decide +kernel))
theorem dL_law_611 : decode cL_law 611 = .ok (.iadd, 1) := dop_96 (lbg_9 (j := 35) (v := 0x60) (by decide +kernel))
theorem dL_law_612 : decode cL_law 612 = .ok (.iaload, 1) := dop_46 (lbg_9 (j := 36) (v := 0x2e) (by decide +kernel))
theorem dL_law_613 : decode cL_law 613 = .ok (.aload_n 3, 1) := dop_45 (lbg_9 (j := 37) (v := 0x2d) (by decide +kernel))
theorem dL_law_614 : decode cL_law 614 = .ok (.invokestatic 196, 3) := dop_184 (lbg_9 (j := 38) (v := 0xb8) (by decide +kernel)) (lbg_9 (j := 39) (v := 0x00) (by decide +kernel)) (lbg_9 (j := 40) (v := 0xc4) (by decide +kernel))
theorem dL_law_617 : decode cL_law 617 = .ok (.istore 5, 2) := dop_54 (lbg_9 (j := 41) (v := 0x36) (by decide +kernel)) (lbg_9 (j := 42) (v := 0x05) (by decide +kernel))
theorem dL_law_619 : decode cL_law 619 = .ok (.aload_n 2, 1) := dop_44 (lbg_9 (j := 43) (v := 0x2c) (by decide +kernel))
theorem dL_law_620 : decode cL_law 620 = .ok (.aload_n 0, 1) := dop_42 (lbg_9 (j := 44) (v := 0x2a) (by decide +kernel))
theorem dL_law_621 : decode cL_law 621 = .ok (.iload 4, 2) := dop_21 (lbg_9 (j := 45) (v := 0x15) (by decide +kernel)) (lbg_9 (j := 46) (v := 0x04) (by decide +kernel))
theorem dL_law_623 : decode cL_law 623 = .ok (.iconst 1, 1) := dop_4 (lbg_9 (j := 47) (v := 0x04) (by decide +kernel))
theorem dL_law_624 : decode cL_law 624 = .ok (.iadd, 1) := dop_96 (lbg_9 (j := 48) (v := 0x60) (by decide +kernel))
theorem dL_law_625 : decode cL_law 625 = .ok (.iaload, 1) := dop_46 (lbg_9 (j := 49) (v := 0x2e) (by decide +kernel))
theorem dL_law_626 : decode cL_law 626 = .ok (.aload_n 0, 1) := dop_42 (lbg_9 (j := 50) (v := 0x2a) (by decide +kernel))
theorem dL_law_627 : decode cL_law 627 = .ok (.iload 4, 2) := dop_21 (lbg_9 (j := 51) (v := 0x15) (by decide +kernel)) (lbg_9 (j := 52) (v := 0x04) (by decide +kernel))
theorem dL_law_629 : decode cL_law 629 = .ok (.iconst 2, 1) := dop_5 (lbg_9 (j := 53) (v := 0x05) (by decide +kernel))
theorem dL_law_630 : decode cL_law 630 = .ok (.iadd, 1) := dop_96 (lbg_9 (j := 54) (v := 0x60) (by decide +kernel))
theorem dL_law_631 : decode cL_law 631 = .ok (.iaload, 1) := dop_46 (lbg_9 (j := 55) (v := 0x2e) (by decide +kernel))
theorem dL_law_632 : decode cL_law 632 = .ok (.invokevirtual 198, 3) := dop_182 (lbg_9 (j := 56) (v := 0xb6) (by decide +kernel)) (lbg_9 (j := 57) (v := 0x00) (by decide +kernel)) (lbg_9 (j := 58) (v := 0xc6) (by decide +kernel))
theorem dL_law_635 : decode cL_law 635 = .ok (.istore 6, 2) := dop_54 (lbg_9 (j := 59) (v := 0x36) (by decide +kernel)) (lbg_9 (j := 60) (v := 0x06) (by decide +kernel))
theorem dL_law_637 : decode cL_law 637 = .ok (.goto 1366, 3) := dop_167 (lbg_9 (j := 61) (v := 0xa7) (by decide +kernel)) (lbg_9 (j := 62) (v := 0x05) (by decide +kernel)) (lbg_9 (j := 63) (v := 0x56) (by decide +kernel)) (by decide +kernel)
theorem dL_law_640 : decode cL_law 640 = .ok (.aload_n 1, 1) := dop_43 (lbg_10 (j := 0) (v := 0x2b) (by decide +kernel))
theorem dL_law_641 : decode cL_law 641 = .ok (.aload_n 0, 1) := dop_42 (lbg_10 (j := 1) (v := 0x2a) (by decide +kernel))
theorem dL_law_642 : decode cL_law 642 = .ok (.iload 4, 2) := dop_21 (lbg_10 (j := 2) (v := 0x15) (by decide +kernel)) (lbg_10 (j := 3) (v := 0x04) (by decide +kernel))
theorem dL_law_644 : decode cL_law 644 = .ok (.iconst 1, 1) := dop_4 (lbg_10 (j := 4) (v := 0x04) (by decide +kernel))
theorem dL_law_645 : decode cL_law 645 = .ok (.iadd, 1) := dop_96 (lbg_10 (j := 5) (v := 0x60) (by decide +kernel))
theorem dL_law_646 : decode cL_law 646 = .ok (.iaload, 1) := dop_46 (lbg_10 (j := 6) (v := 0x2e) (by decide +kernel))
theorem dL_law_647 : decode cL_law 647 = .ok (.aload_n 0, 1) := dop_42 (lbg_10 (j := 7) (v := 0x2a) (by decide +kernel))
theorem dL_law_648 : decode cL_law 648 = .ok (.iload 4, 2) := dop_21 (lbg_10 (j := 8) (v := 0x15) (by decide +kernel)) (lbg_10 (j := 9) (v := 0x04) (by decide +kernel))
theorem dL_law_650 : decode cL_law 650 = .ok (.iconst 2, 1) := dop_5 (lbg_10 (j := 10) (v := 0x05) (by decide +kernel))
theorem dL_law_651 : decode cL_law 651 = .ok (.iadd, 1) := dop_96 (lbg_10 (j := 11) (v := 0x60) (by decide +kernel))
theorem dL_law_652 : decode cL_law 652 = .ok (.iaload, 1) := dop_46 (lbg_10 (j := 12) (v := 0x2e) (by decide +kernel))
theorem dL_law_653 : decode cL_law 653 = .ok (.aload_n 0, 1) := dop_42 (lbg_10 (j := 13) (v := 0x2a) (by decide +kernel))
theorem dL_law_654 : decode cL_law 654 = .ok (.iload 4, 2) := dop_21 (lbg_10 (j := 14) (v := 0x15) (by decide +kernel)) (lbg_10 (j := 15) (v := 0x04) (by decide +kernel))
theorem dL_law_656 : decode cL_law 656 = .ok (.iconst 3, 1) := dop_6 (lbg_10 (j := 16) (v := 0x06) (by decide +kernel))
theorem dL_law_657 : decode cL_law 657 = .ok (.iadd, 1) := dop_96 (lbg_10 (j := 17) (v := 0x60) (by decide +kernel))
theorem dL_law_658 : decode cL_law 658 = .ok (.iaload, 1) := dop_46 (lbg_10 (j := 18) (v := 0x2e) (by decide +kernel))
theorem dL_law_659 : decode cL_law 659 = .ok (.aload_n 3, 1) := dop_45 (lbg_10 (j := 19) (v := 0x2d) (by decide +kernel))
theorem dL_law_660 : decode cL_law 660 = .ok (.invokestatic 199, 3) := dop_184 (lbg_10 (j := 20) (v := 0xb8) (by decide +kernel)) (lbg_10 (j := 21) (v := 0x00) (by decide +kernel)) (lbg_10 (j := 22) (v := 0xc7) (by decide +kernel))
theorem dL_law_663 : decode cL_law 663 = .ok (.istore 5, 2) := dop_54 (lbg_10 (j := 23) (v := 0x36) (by decide +kernel)) (lbg_10 (j := 24) (v := 0x05) (by decide +kernel))
theorem dL_law_665 : decode cL_law 665 = .ok (.aload_n 2, 1) := dop_44 (lbg_10 (j := 25) (v := 0x2c) (by decide +kernel))
theorem dL_law_666 : decode cL_law 666 = .ok (.aload_n 0, 1) := dop_42 (lbg_10 (j := 26) (v := 0x2a) (by decide +kernel))
theorem dL_law_667 : decode cL_law 667 = .ok (.iload 4, 2) := dop_21 (lbg_10 (j := 27) (v := 0x15) (by decide +kernel)) (lbg_10 (j := 28) (v := 0x04) (by decide +kernel))
theorem dL_law_669 : decode cL_law 669 = .ok (.iconst 1, 1) := dop_4 (lbg_10 (j := 29) (v := 0x04) (by decide +kernel))
theorem dL_law_670 : decode cL_law 670 = .ok (.iadd, 1) := dop_96 (lbg_10 (j := 30) (v := 0x60) (by decide +kernel))
theorem dL_law_671 : decode cL_law 671 = .ok (.iaload, 1) := dop_46 (lbg_10 (j := 31) (v := 0x2e) (by decide +kernel))
theorem dL_law_672 : decode cL_law 672 = .ok (.aload_n 0, 1) := dop_42 (lbg_10 (j := 32) (v := 0x2a) (by decide +kernel))
theorem dL_law_673 : decode cL_law 673 = .ok (.iload 4, 2) := dop_21 (lbg_10 (j := 33) (v := 0x15) (by decide +kernel)) (lbg_10 (j := 34) (v := 0x04) (by decide +kernel))
theorem dL_law_675 : decode cL_law 675 = .ok (.iconst 2, 1) := dop_5 (lbg_10 (j := 35) (v := 0x05) (by decide +kernel))
theorem dL_law_676 : decode cL_law 676 = .ok (.iadd, 1) := dop_96 (lbg_10 (j := 36) (v := 0x60) (by decide +kernel))
theorem dL_law_677 : decode cL_law 677 = .ok (.iaload, 1) := dop_46 (lbg_10 (j := 37) (v := 0x2e) (by decide +kernel))
theorem dL_law_678 : decode cL_law 678 = .ok (.aload_n 0, 1) := dop_42 (lbg_10 (j := 38) (v := 0x2a) (by decide +kernel))
theorem dL_law_679 : decode cL_law 679 = .ok (.iload 4, 2) := dop_21 (lbg_10 (j := 39) (v := 0x15) (by decide +kernel)) (lbg_10 (j := 40) (v := 0x04) (by decide +kernel))
theorem dL_law_681 : decode cL_law 681 = .ok (.iconst 3, 1) := dop_6 (lbg_10 (j := 41) (v := 0x06) (by decide +kernel))
theorem dL_law_682 : decode cL_law 682 = .ok (.iadd, 1) := dop_96 (lbg_10 (j := 42) (v := 0x60) (by decide +kernel))
theorem dL_law_683 : decode cL_law 683 = .ok (.iaload, 1) := dop_46 (lbg_10 (j := 43) (v := 0x2e) (by decide +kernel))
theorem dL_law_684 : decode cL_law 684 = .ok (.invokevirtual 201, 3) := dop_182 (lbg_10 (j := 44) (v := 0xb6) (by decide +kernel)) (lbg_10 (j := 45) (v := 0x00) (by decide +kernel)) (lbg_10 (j := 46) (v := 0xc9) (by decide +kernel))
theorem dL_law_687 : decode cL_law 687 = .ok (.istore 6, 2) := dop_54 (lbg_10 (j := 47) (v := 0x36) (by decide +kernel)) (lbg_10 (j := 48) (v := 0x06) (by decide +kernel))
theorem dL_law_689 : decode cL_law 689 = .ok (.goto 1314, 3) := dop_167 (lbg_10 (j := 49) (v := 0xa7) (by decide +kernel)) (lbg_10 (j := 50) (v := 0x05) (by decide +kernel)) (lbg_10 (j := 51) (v := 0x22) (by decide +kernel)) (by decide +kernel)
theorem dL_law_692 : decode cL_law 692 = .ok (.aload_n 1, 1) := dop_43 (lbg_10 (j := 52) (v := 0x2b) (by decide +kernel))
theorem dL_law_693 : decode cL_law 693 = .ok (.aload_n 0, 1) := dop_42 (lbg_10 (j := 53) (v := 0x2a) (by decide +kernel))
theorem dL_law_694 : decode cL_law 694 = .ok (.iload 4, 2) := dop_21 (lbg_10 (j := 54) (v := 0x15) (by decide +kernel)) (lbg_10 (j := 55) (v := 0x04) (by decide +kernel))
theorem dL_law_696 : decode cL_law 696 = .ok (.iconst 1, 1) := dop_4 (lbg_10 (j := 56) (v := 0x04) (by decide +kernel))
theorem dL_law_697 : decode cL_law 697 = .ok (.iadd, 1) := dop_96 (lbg_10 (j := 57) (v := 0x60) (by decide +kernel))
theorem dL_law_698 : decode cL_law 698 = .ok (.iaload, 1) := dop_46 (lbg_10 (j := 58) (v := 0x2e) (by decide +kernel))
theorem dL_law_699 : decode cL_law 699 = .ok (.aload_n 3, 1) := dop_45 (lbg_10 (j := 59) (v := 0x2d) (by decide +kernel))
theorem dL_law_700 : decode cL_law 700 = .ok (.invokestatic 202, 3) := dop_184 (lbg_10 (j := 60) (v := 0xb8) (by decide +kernel)) (lbg_10 (j := 61) (v := 0x00) (by decide +kernel)) (lbg_10 (j := 62) (v := 0xca) (by decide +kernel))
theorem dL_law_703 : decode cL_law 703 = .ok (.istore 5, 2) := dop_54 (lbg_10 (j := 63) (v := 0x36) (by decide +kernel)) (lbg_11 (j := 0) (v := 0x05) (by decide +kernel))
theorem dL_law_705 : decode cL_law 705 = .ok (.aload_n 2, 1) := dop_44 (lbg_11 (j := 1) (v := 0x2c) (by decide +kernel))
theorem dL_law_706 : decode cL_law 706 = .ok (.aload_n 0, 1) := dop_42 (lbg_11 (j := 2) (v := 0x2a) (by decide +kernel))
theorem dL_law_707 : decode cL_law 707 = .ok (.iload 4, 2) := dop_21 (lbg_11 (j := 3) (v := 0x15) (by decide +kernel)) (lbg_11 (j := 4) (v := 0x04) (by decide +kernel))
theorem dL_law_709 : decode cL_law 709 = .ok (.iconst 1, 1) := dop_4 (lbg_11 (j := 5) (v := 0x04) (by decide +kernel))
theorem dL_law_710 : decode cL_law 710 = .ok (.iadd, 1) := dop_96 (lbg_11 (j := 6) (v := 0x60) (by decide +kernel))
theorem dL_law_711 : decode cL_law 711 = .ok (.iaload, 1) := dop_46 (lbg_11 (j := 7) (v := 0x2e) (by decide +kernel))
theorem dL_law_712 : decode cL_law 712 = .ok (.invokevirtual 204, 3) := dop_182 (lbg_11 (j := 8) (v := 0xb6) (by decide +kernel)) (lbg_11 (j := 9) (v := 0x00) (by decide +kernel)) (lbg_11 (j := 10) (v := 0xcc) (by decide +kernel))
theorem dL_law_715 : decode cL_law 715 = .ok (.istore 6, 2) := dop_54 (lbg_11 (j := 11) (v := 0x36) (by decide +kernel)) (lbg_11 (j := 12) (v := 0x06) (by decide +kernel))
theorem dL_law_717 : decode cL_law 717 = .ok (.goto 1286, 3) := dop_167 (lbg_11 (j := 13) (v := 0xa7) (by decide +kernel)) (lbg_11 (j := 14) (v := 0x05) (by decide +kernel)) (lbg_11 (j := 15) (v := 0x06) (by decide +kernel)) (by decide +kernel)
theorem dL_law_720 : decode cL_law 720 = .ok (.aload_n 1, 1) := dop_43 (lbg_11 (j := 16) (v := 0x2b) (by decide +kernel))
theorem dL_law_721 : decode cL_law 721 = .ok (.aload_n 0, 1) := dop_42 (lbg_11 (j := 17) (v := 0x2a) (by decide +kernel))
theorem dL_law_722 : decode cL_law 722 = .ok (.iload 4, 2) := dop_21 (lbg_11 (j := 18) (v := 0x15) (by decide +kernel)) (lbg_11 (j := 19) (v := 0x04) (by decide +kernel))
theorem dL_law_724 : decode cL_law 724 = .ok (.iconst 1, 1) := dop_4 (lbg_11 (j := 20) (v := 0x04) (by decide +kernel))
theorem dL_law_725 : decode cL_law 725 = .ok (.iadd, 1) := dop_96 (lbg_11 (j := 21) (v := 0x60) (by decide +kernel))
theorem dL_law_726 : decode cL_law 726 = .ok (.iaload, 1) := dop_46 (lbg_11 (j := 22) (v := 0x2e) (by decide +kernel))
theorem dL_law_727 : decode cL_law 727 = .ok (.aload_n 0, 1) := dop_42 (lbg_11 (j := 23) (v := 0x2a) (by decide +kernel))
theorem dL_law_728 : decode cL_law 728 = .ok (.iload 4, 2) := dop_21 (lbg_11 (j := 24) (v := 0x15) (by decide +kernel)) (lbg_11 (j := 25) (v := 0x04) (by decide +kernel))
theorem dL_law_730 : decode cL_law 730 = .ok (.iconst 2, 1) := dop_5 (lbg_11 (j := 26) (v := 0x05) (by decide +kernel))
theorem dL_law_731 : decode cL_law 731 = .ok (.iadd, 1) := dop_96 (lbg_11 (j := 27) (v := 0x60) (by decide +kernel))
theorem dL_law_732 : decode cL_law 732 = .ok (.iaload, 1) := dop_46 (lbg_11 (j := 28) (v := 0x2e) (by decide +kernel))
theorem dL_law_733 : decode cL_law 733 = .ok (.aload_n 3, 1) := dop_45 (lbg_11 (j := 29) (v := 0x2d) (by decide +kernel))
theorem dL_law_734 : decode cL_law 734 = .ok (.invokestatic 205, 3) := dop_184 (lbg_11 (j := 30) (v := 0xb8) (by decide +kernel)) (lbg_11 (j := 31) (v := 0x00) (by decide +kernel)) (lbg_11 (j := 32) (v := 0xcd) (by decide +kernel))
theorem dL_law_737 : decode cL_law 737 = .ok (.istore 5, 2) := dop_54 (lbg_11 (j := 33) (v := 0x36) (by decide +kernel)) (lbg_11 (j := 34) (v := 0x05) (by decide +kernel))
theorem dL_law_739 : decode cL_law 739 = .ok (.aload_n 2, 1) := dop_44 (lbg_11 (j := 35) (v := 0x2c) (by decide +kernel))
theorem dL_law_740 : decode cL_law 740 = .ok (.aload_n 0, 1) := dop_42 (lbg_11 (j := 36) (v := 0x2a) (by decide +kernel))
theorem dL_law_741 : decode cL_law 741 = .ok (.iload 4, 2) := dop_21 (lbg_11 (j := 37) (v := 0x15) (by decide +kernel)) (lbg_11 (j := 38) (v := 0x04) (by decide +kernel))
theorem dL_law_743 : decode cL_law 743 = .ok (.iconst 1, 1) := dop_4 (lbg_11 (j := 39) (v := 0x04) (by decide +kernel))
theorem dL_law_744 : decode cL_law 744 = .ok (.iadd, 1) := dop_96 (lbg_11 (j := 40) (v := 0x60) (by decide +kernel))
theorem dL_law_745 : decode cL_law 745 = .ok (.iaload, 1) := dop_46 (lbg_11 (j := 41) (v := 0x2e) (by decide +kernel))
theorem dL_law_746 : decode cL_law 746 = .ok (.aload_n 0, 1) := dop_42 (lbg_11 (j := 42) (v := 0x2a) (by decide +kernel))
theorem dL_law_747 : decode cL_law 747 = .ok (.iload 4, 2) := dop_21 (lbg_11 (j := 43) (v := 0x15) (by decide +kernel)) (lbg_11 (j := 44) (v := 0x04) (by decide +kernel))
theorem dL_law_749 : decode cL_law 749 = .ok (.iconst 2, 1) := dop_5 (lbg_11 (j := 45) (v := 0x05) (by decide +kernel))
theorem dL_law_750 : decode cL_law 750 = .ok (.iadd, 1) := dop_96 (lbg_11 (j := 46) (v := 0x60) (by decide +kernel))
theorem dL_law_751 : decode cL_law 751 = .ok (.iaload, 1) := dop_46 (lbg_11 (j := 47) (v := 0x2e) (by decide +kernel))
theorem dL_law_752 : decode cL_law 752 = .ok (.invokevirtual 207, 3) := dop_182 (lbg_11 (j := 48) (v := 0xb6) (by decide +kernel)) (lbg_11 (j := 49) (v := 0x00) (by decide +kernel)) (lbg_11 (j := 50) (v := 0xcf) (by decide +kernel))
theorem dL_law_755 : decode cL_law 755 = .ok (.istore 6, 2) := dop_54 (lbg_11 (j := 51) (v := 0x36) (by decide +kernel)) (lbg_11 (j := 52) (v := 0x06) (by decide +kernel))
theorem dL_law_757 : decode cL_law 757 = .ok (.goto 1246, 3) := dop_167 (lbg_11 (j := 53) (v := 0xa7) (by decide +kernel)) (lbg_11 (j := 54) (v := 0x04) (by decide +kernel)) (lbg_11 (j := 55) (v := 0xde) (by decide +kernel)) (by decide +kernel)
theorem dL_law_760 : decode cL_law 760 = .ok (.aload_n 1, 1) := dop_43 (lbg_11 (j := 56) (v := 0x2b) (by decide +kernel))
theorem dL_law_761 : decode cL_law 761 = .ok (.aload_n 0, 1) := dop_42 (lbg_11 (j := 57) (v := 0x2a) (by decide +kernel))
theorem dL_law_762 : decode cL_law 762 = .ok (.iload 4, 2) := dop_21 (lbg_11 (j := 58) (v := 0x15) (by decide +kernel)) (lbg_11 (j := 59) (v := 0x04) (by decide +kernel))
theorem dL_law_764 : decode cL_law 764 = .ok (.iconst 1, 1) := dop_4 (lbg_11 (j := 60) (v := 0x04) (by decide +kernel))
theorem dL_law_765 : decode cL_law 765 = .ok (.iadd, 1) := dop_96 (lbg_11 (j := 61) (v := 0x60) (by decide +kernel))
theorem dL_law_766 : decode cL_law 766 = .ok (.iaload, 1) := dop_46 (lbg_11 (j := 62) (v := 0x2e) (by decide +kernel))
theorem dL_law_767 : decode cL_law 767 = .ok (.aload_n 0, 1) := dop_42 (lbg_11 (j := 63) (v := 0x2a) (by decide +kernel))
theorem dL_law_768 : decode cL_law 768 = .ok (.iload 4, 2) := dop_21 (lbg_12 (j := 0) (v := 0x15) (by decide +kernel)) (lbg_12 (j := 1) (v := 0x04) (by decide +kernel))
theorem dL_law_770 : decode cL_law 770 = .ok (.iconst 2, 1) := dop_5 (lbg_12 (j := 2) (v := 0x05) (by decide +kernel))
theorem dL_law_771 : decode cL_law 771 = .ok (.iadd, 1) := dop_96 (lbg_12 (j := 3) (v := 0x60) (by decide +kernel))
theorem dL_law_772 : decode cL_law 772 = .ok (.iaload, 1) := dop_46 (lbg_12 (j := 4) (v := 0x2e) (by decide +kernel))
theorem dL_law_773 : decode cL_law 773 = .ok (.aload_n 3, 1) := dop_45 (lbg_12 (j := 5) (v := 0x2d) (by decide +kernel))
theorem dL_law_774 : decode cL_law 774 = .ok (.invokestatic 208, 3) := dop_184 (lbg_12 (j := 6) (v := 0xb8) (by decide +kernel)) (lbg_12 (j := 7) (v := 0x00) (by decide +kernel)) (lbg_12 (j := 8) (v := 0xd0) (by decide +kernel))
theorem dL_law_777 : decode cL_law 777 = .ok (.istore 5, 2) := dop_54 (lbg_12 (j := 9) (v := 0x36) (by decide +kernel)) (lbg_12 (j := 10) (v := 0x05) (by decide +kernel))
theorem dL_law_779 : decode cL_law 779 = .ok (.aload_n 2, 1) := dop_44 (lbg_12 (j := 11) (v := 0x2c) (by decide +kernel))
theorem dL_law_780 : decode cL_law 780 = .ok (.aload_n 0, 1) := dop_42 (lbg_12 (j := 12) (v := 0x2a) (by decide +kernel))
theorem dL_law_781 : decode cL_law 781 = .ok (.iload 4, 2) := dop_21 (lbg_12 (j := 13) (v := 0x15) (by decide +kernel)) (lbg_12 (j := 14) (v := 0x04) (by decide +kernel))
theorem dL_law_783 : decode cL_law 783 = .ok (.iconst 1, 1) := dop_4 (lbg_12 (j := 15) (v := 0x04) (by decide +kernel))
theorem dL_law_784 : decode cL_law 784 = .ok (.iadd, 1) := dop_96 (lbg_12 (j := 16) (v := 0x60) (by decide +kernel))
theorem dL_law_785 : decode cL_law 785 = .ok (.iaload, 1) := dop_46 (lbg_12 (j := 17) (v := 0x2e) (by decide +kernel))
theorem dL_law_786 : decode cL_law 786 = .ok (.aload_n 0, 1) := dop_42 (lbg_12 (j := 18) (v := 0x2a) (by decide +kernel))
theorem dL_law_787 : decode cL_law 787 = .ok (.iload 4, 2) := dop_21 (lbg_12 (j := 19) (v := 0x15) (by decide +kernel)) (lbg_12 (j := 20) (v := 0x04) (by decide +kernel))
theorem dL_law_789 : decode cL_law 789 = .ok (.iconst 2, 1) := dop_5 (lbg_12 (j := 21) (v := 0x05) (by decide +kernel))
theorem dL_law_790 : decode cL_law 790 = .ok (.iadd, 1) := dop_96 (lbg_12 (j := 22) (v := 0x60) (by decide +kernel))
theorem dL_law_791 : decode cL_law 791 = .ok (.iaload, 1) := dop_46 (lbg_12 (j := 23) (v := 0x2e) (by decide +kernel))
theorem dL_law_792 : decode cL_law 792 = .ok (.invokevirtual 210, 3) := dop_182 (lbg_12 (j := 24) (v := 0xb6) (by decide +kernel)) (lbg_12 (j := 25) (v := 0x00) (by decide +kernel)) (lbg_12 (j := 26) (v := 0xd2) (by decide +kernel))
theorem dL_law_795 : decode cL_law 795 = .ok (.istore 6, 2) := dop_54 (lbg_12 (j := 27) (v := 0x36) (by decide +kernel)) (lbg_12 (j := 28) (v := 0x06) (by decide +kernel))
theorem dL_law_797 : decode cL_law 797 = .ok (.goto 1206, 3) := dop_167 (lbg_12 (j := 29) (v := 0xa7) (by decide +kernel)) (lbg_12 (j := 30) (v := 0x04) (by decide +kernel)) (lbg_12 (j := 31) (v := 0xb6) (by decide +kernel)) (by decide +kernel)
theorem dL_law_800 : decode cL_law 800 = .ok (.aload_n 1, 1) := dop_43 (lbg_12 (j := 32) (v := 0x2b) (by decide +kernel))
theorem dL_law_801 : decode cL_law 801 = .ok (.aload_n 0, 1) := dop_42 (lbg_12 (j := 33) (v := 0x2a) (by decide +kernel))
theorem dL_law_802 : decode cL_law 802 = .ok (.iload 4, 2) := dop_21 (lbg_12 (j := 34) (v := 0x15) (by decide +kernel)) (lbg_12 (j := 35) (v := 0x04) (by decide +kernel))
theorem dL_law_804 : decode cL_law 804 = .ok (.iconst 1, 1) := dop_4 (lbg_12 (j := 36) (v := 0x04) (by decide +kernel))
theorem dL_law_805 : decode cL_law 805 = .ok (.iadd, 1) := dop_96 (lbg_12 (j := 37) (v := 0x60) (by decide +kernel))
theorem dL_law_806 : decode cL_law 806 = .ok (.iaload, 1) := dop_46 (lbg_12 (j := 38) (v := 0x2e) (by decide +kernel))
theorem dL_law_807 : decode cL_law 807 = .ok (.aload_n 0, 1) := dop_42 (lbg_12 (j := 39) (v := 0x2a) (by decide +kernel))
theorem dL_law_808 : decode cL_law 808 = .ok (.iload 4, 2) := dop_21 (lbg_12 (j := 40) (v := 0x15) (by decide +kernel)) (lbg_12 (j := 41) (v := 0x04) (by decide +kernel))
theorem dL_law_810 : decode cL_law 810 = .ok (.iconst 2, 1) := dop_5 (lbg_12 (j := 42) (v := 0x05) (by decide +kernel))
theorem dL_law_811 : decode cL_law 811 = .ok (.iadd, 1) := dop_96 (lbg_12 (j := 43) (v := 0x60) (by decide +kernel))
theorem dL_law_812 : decode cL_law 812 = .ok (.iaload, 1) := dop_46 (lbg_12 (j := 44) (v := 0x2e) (by decide +kernel))
theorem dL_law_813 : decode cL_law 813 = .ok (.aload_n 3, 1) := dop_45 (lbg_12 (j := 45) (v := 0x2d) (by decide +kernel))
theorem dL_law_814 : decode cL_law 814 = .ok (.invokestatic 211, 3) := dop_184 (lbg_12 (j := 46) (v := 0xb8) (by decide +kernel)) (lbg_12 (j := 47) (v := 0x00) (by decide +kernel)) (lbg_12 (j := 48) (v := 0xd3) (by decide +kernel))
theorem dL_law_817 : decode cL_law 817 = .ok (.istore 5, 2) := dop_54 (lbg_12 (j := 49) (v := 0x36) (by decide +kernel)) (lbg_12 (j := 50) (v := 0x05) (by decide +kernel))
theorem dL_law_819 : decode cL_law 819 = .ok (.aload_n 2, 1) := dop_44 (lbg_12 (j := 51) (v := 0x2c) (by decide +kernel))
theorem dL_law_820 : decode cL_law 820 = .ok (.aload_n 0, 1) := dop_42 (lbg_12 (j := 52) (v := 0x2a) (by decide +kernel))
theorem dL_law_821 : decode cL_law 821 = .ok (.iload 4, 2) := dop_21 (lbg_12 (j := 53) (v := 0x15) (by decide +kernel)) (lbg_12 (j := 54) (v := 0x04) (by decide +kernel))
theorem dL_law_823 : decode cL_law 823 = .ok (.iconst 1, 1) := dop_4 (lbg_12 (j := 55) (v := 0x04) (by decide +kernel))
theorem dL_law_824 : decode cL_law 824 = .ok (.iadd, 1) := dop_96 (lbg_12 (j := 56) (v := 0x60) (by decide +kernel))
theorem dL_law_825 : decode cL_law 825 = .ok (.iaload, 1) := dop_46 (lbg_12 (j := 57) (v := 0x2e) (by decide +kernel))
theorem dL_law_826 : decode cL_law 826 = .ok (.aload_n 0, 1) := dop_42 (lbg_12 (j := 58) (v := 0x2a) (by decide +kernel))
theorem dL_law_827 : decode cL_law 827 = .ok (.iload 4, 2) := dop_21 (lbg_12 (j := 59) (v := 0x15) (by decide +kernel)) (lbg_12 (j := 60) (v := 0x04) (by decide +kernel))
theorem dL_law_829 : decode cL_law 829 = .ok (.iconst 2, 1) := dop_5 (lbg_12 (j := 61) (v := 0x05) (by decide +kernel))
theorem dL_law_830 : decode cL_law 830 = .ok (.iadd, 1) := dop_96 (lbg_12 (j := 62) (v := 0x60) (by decide +kernel))
theorem dL_law_831 : decode cL_law 831 = .ok (.iaload, 1) := dop_46 (lbg_12 (j := 63) (v := 0x2e) (by decide +kernel))
theorem dL_law_832 : decode cL_law 832 = .ok (.invokevirtual 213, 3) := dop_182 (lbg_13 (j := 0) (v := 0xb6) (by decide +kernel)) (lbg_13 (j := 1) (v := 0x00) (by decide +kernel)) (lbg_13 (j := 2) (v := 0xd5) (by decide +kernel))
theorem dL_law_835 : decode cL_law 835 = .ok (.istore 6, 2) := dop_54 (lbg_13 (j := 3) (v := 0x36) (by decide +kernel)) (lbg_13 (j := 4) (v := 0x06) (by decide +kernel))
theorem dL_law_837 : decode cL_law 837 = .ok (.goto 1166, 3) := dop_167 (lbg_13 (j := 5) (v := 0xa7) (by decide +kernel)) (lbg_13 (j := 6) (v := 0x04) (by decide +kernel)) (lbg_13 (j := 7) (v := 0x8e) (by decide +kernel)) (by decide +kernel)
theorem dL_law_840 : decode cL_law 840 = .ok (.aload_n 1, 1) := dop_43 (lbg_13 (j := 8) (v := 0x2b) (by decide +kernel))
theorem dL_law_841 : decode cL_law 841 = .ok (.aload_n 0, 1) := dop_42 (lbg_13 (j := 9) (v := 0x2a) (by decide +kernel))
theorem dL_law_842 : decode cL_law 842 = .ok (.iload 4, 2) := dop_21 (lbg_13 (j := 10) (v := 0x15) (by decide +kernel)) (lbg_13 (j := 11) (v := 0x04) (by decide +kernel))
theorem dL_law_844 : decode cL_law 844 = .ok (.iconst 1, 1) := dop_4 (lbg_13 (j := 12) (v := 0x04) (by decide +kernel))
theorem dL_law_845 : decode cL_law 845 = .ok (.iadd, 1) := dop_96 (lbg_13 (j := 13) (v := 0x60) (by decide +kernel))
theorem dL_law_846 : decode cL_law 846 = .ok (.iaload, 1) := dop_46 (lbg_13 (j := 14) (v := 0x2e) (by decide +kernel))
theorem dL_law_847 : decode cL_law 847 = .ok (.aload_n 3, 1) := dop_45 (lbg_13 (j := 15) (v := 0x2d) (by decide +kernel))
theorem dL_law_848 : decode cL_law 848 = .ok (.invokestatic 214, 3) := dop_184 (lbg_13 (j := 16) (v := 0xb8) (by decide +kernel)) (lbg_13 (j := 17) (v := 0x00) (by decide +kernel)) (lbg_13 (j := 18) (v := 0xd6) (by decide +kernel))
theorem dL_law_851 : decode cL_law 851 = .ok (.istore 5, 2) := dop_54 (lbg_13 (j := 19) (v := 0x36) (by decide +kernel)) (lbg_13 (j := 20) (v := 0x05) (by decide +kernel))
theorem dL_law_853 : decode cL_law 853 = .ok (.aload_n 2, 1) := dop_44 (lbg_13 (j := 21) (v := 0x2c) (by decide +kernel))
theorem dL_law_854 : decode cL_law 854 = .ok (.aload_n 0, 1) := dop_42 (lbg_13 (j := 22) (v := 0x2a) (by decide +kernel))
theorem dL_law_855 : decode cL_law 855 = .ok (.iload 4, 2) := dop_21 (lbg_13 (j := 23) (v := 0x15) (by decide +kernel)) (lbg_13 (j := 24) (v := 0x04) (by decide +kernel))
theorem dL_law_857 : decode cL_law 857 = .ok (.iconst 1, 1) := dop_4 (lbg_13 (j := 25) (v := 0x04) (by decide +kernel))
theorem dL_law_858 : decode cL_law 858 = .ok (.iadd, 1) := dop_96 (lbg_13 (j := 26) (v := 0x60) (by decide +kernel))
theorem dL_law_859 : decode cL_law 859 = .ok (.iaload, 1) := dop_46 (lbg_13 (j := 27) (v := 0x2e) (by decide +kernel))
theorem dL_law_860 : decode cL_law 860 = .ok (.invokevirtual 216, 3) := dop_182 (lbg_13 (j := 28) (v := 0xb6) (by decide +kernel)) (lbg_13 (j := 29) (v := 0x00) (by decide +kernel)) (lbg_13 (j := 30) (v := 0xd8) (by decide +kernel))
theorem dL_law_863 : decode cL_law 863 = .ok (.istore 6, 2) := dop_54 (lbg_13 (j := 31) (v := 0x36) (by decide +kernel)) (lbg_13 (j := 32) (v := 0x06) (by decide +kernel))
theorem dL_law_865 : decode cL_law 865 = .ok (.goto 1138, 3) := dop_167 (lbg_13 (j := 33) (v := 0xa7) (by decide +kernel)) (lbg_13 (j := 34) (v := 0x04) (by decide +kernel)) (lbg_13 (j := 35) (v := 0x72) (by decide +kernel)) (by decide +kernel)
theorem dL_law_868 : decode cL_law 868 = .ok (.aload_n 1, 1) := dop_43 (lbg_13 (j := 36) (v := 0x2b) (by decide +kernel))
theorem dL_law_869 : decode cL_law 869 = .ok (.aload_n 0, 1) := dop_42 (lbg_13 (j := 37) (v := 0x2a) (by decide +kernel))
theorem dL_law_870 : decode cL_law 870 = .ok (.iload 4, 2) := dop_21 (lbg_13 (j := 38) (v := 0x15) (by decide +kernel)) (lbg_13 (j := 39) (v := 0x04) (by decide +kernel))
theorem dL_law_872 : decode cL_law 872 = .ok (.iconst 1, 1) := dop_4 (lbg_13 (j := 40) (v := 0x04) (by decide +kernel))
theorem dL_law_873 : decode cL_law 873 = .ok (.iadd, 1) := dop_96 (lbg_13 (j := 41) (v := 0x60) (by decide +kernel))
theorem dL_law_874 : decode cL_law 874 = .ok (.iaload, 1) := dop_46 (lbg_13 (j := 42) (v := 0x2e) (by decide +kernel))
theorem dL_law_875 : decode cL_law 875 = .ok (.aload_n 0, 1) := dop_42 (lbg_13 (j := 43) (v := 0x2a) (by decide +kernel))
theorem dL_law_876 : decode cL_law 876 = .ok (.iload 4, 2) := dop_21 (lbg_13 (j := 44) (v := 0x15) (by decide +kernel)) (lbg_13 (j := 45) (v := 0x04) (by decide +kernel))
theorem dL_law_878 : decode cL_law 878 = .ok (.iconst 2, 1) := dop_5 (lbg_13 (j := 46) (v := 0x05) (by decide +kernel))
theorem dL_law_879 : decode cL_law 879 = .ok (.iadd, 1) := dop_96 (lbg_13 (j := 47) (v := 0x60) (by decide +kernel))
theorem dL_law_880 : decode cL_law 880 = .ok (.iaload, 1) := dop_46 (lbg_13 (j := 48) (v := 0x2e) (by decide +kernel))
theorem dL_law_881 : decode cL_law 881 = .ok (.aload_n 3, 1) := dop_45 (lbg_13 (j := 49) (v := 0x2d) (by decide +kernel))
theorem dL_law_882 : decode cL_law 882 = .ok (.invokestatic 217, 3) := dop_184 (lbg_13 (j := 50) (v := 0xb8) (by decide +kernel)) (lbg_13 (j := 51) (v := 0x00) (by decide +kernel)) (lbg_13 (j := 52) (v := 0xd9) (by decide +kernel))
theorem dL_law_885 : decode cL_law 885 = .ok (.istore 5, 2) := dop_54 (lbg_13 (j := 53) (v := 0x36) (by decide +kernel)) (lbg_13 (j := 54) (v := 0x05) (by decide +kernel))
theorem dL_law_887 : decode cL_law 887 = .ok (.aload_n 2, 1) := dop_44 (lbg_13 (j := 55) (v := 0x2c) (by decide +kernel))
theorem dL_law_888 : decode cL_law 888 = .ok (.aload_n 0, 1) := dop_42 (lbg_13 (j := 56) (v := 0x2a) (by decide +kernel))
theorem dL_law_889 : decode cL_law 889 = .ok (.iload 4, 2) := dop_21 (lbg_13 (j := 57) (v := 0x15) (by decide +kernel)) (lbg_13 (j := 58) (v := 0x04) (by decide +kernel))
theorem dL_law_891 : decode cL_law 891 = .ok (.iconst 1, 1) := dop_4 (lbg_13 (j := 59) (v := 0x04) (by decide +kernel))
theorem dL_law_892 : decode cL_law 892 = .ok (.iadd, 1) := dop_96 (lbg_13 (j := 60) (v := 0x60) (by decide +kernel))
theorem dL_law_893 : decode cL_law 893 = .ok (.iaload, 1) := dop_46 (lbg_13 (j := 61) (v := 0x2e) (by decide +kernel))
theorem dL_law_894 : decode cL_law 894 = .ok (.aload_n 0, 1) := dop_42 (lbg_13 (j := 62) (v := 0x2a) (by decide +kernel))
theorem dL_law_895 : decode cL_law 895 = .ok (.iload 4, 2) := dop_21 (lbg_13 (j := 63) (v := 0x15) (by decide +kernel)) (lbg_14 (j := 0) (v := 0x04) (by decide +kernel))
theorem dL_law_897 : decode cL_law 897 = .ok (.iconst 2, 1) := dop_5 (lbg_14 (j := 1) (v := 0x05) (by decide +kernel))
theorem dL_law_898 : decode cL_law 898 = .ok (.iadd, 1) := dop_96 (lbg_14 (j := 2) (v := 0x60) (by decide +kernel))
theorem dL_law_899 : decode cL_law 899 = .ok (.iaload, 1) := dop_46 (lbg_14 (j := 3) (v := 0x2e) (by decide +kernel))
theorem dL_law_900 : decode cL_law 900 = .ok (.invokevirtual 219, 3) := dop_182 (lbg_14 (j := 4) (v := 0xb6) (by decide +kernel)) (lbg_14 (j := 5) (v := 0x00) (by decide +kernel)) (lbg_14 (j := 6) (v := 0xdb) (by decide +kernel))
theorem dL_law_903 : decode cL_law 903 = .ok (.istore 6, 2) := dop_54 (lbg_14 (j := 7) (v := 0x36) (by decide +kernel)) (lbg_14 (j := 8) (v := 0x06) (by decide +kernel))
theorem dL_law_905 : decode cL_law 905 = .ok (.goto 1098, 3) := dop_167 (lbg_14 (j := 9) (v := 0xa7) (by decide +kernel)) (lbg_14 (j := 10) (v := 0x04) (by decide +kernel)) (lbg_14 (j := 11) (v := 0x4a) (by decide +kernel)) (by decide +kernel)
theorem dL_law_908 : decode cL_law 908 = .ok (.aload_n 1, 1) := dop_43 (lbg_14 (j := 12) (v := 0x2b) (by decide +kernel))
theorem dL_law_909 : decode cL_law 909 = .ok (.aload_n 0, 1) := dop_42 (lbg_14 (j := 13) (v := 0x2a) (by decide +kernel))
theorem dL_law_910 : decode cL_law 910 = .ok (.iload 4, 2) := dop_21 (lbg_14 (j := 14) (v := 0x15) (by decide +kernel)) (lbg_14 (j := 15) (v := 0x04) (by decide +kernel))
theorem dL_law_912 : decode cL_law 912 = .ok (.iconst 1, 1) := dop_4 (lbg_14 (j := 16) (v := 0x04) (by decide +kernel))
theorem dL_law_913 : decode cL_law 913 = .ok (.iadd, 1) := dop_96 (lbg_14 (j := 17) (v := 0x60) (by decide +kernel))
theorem dL_law_914 : decode cL_law 914 = .ok (.iaload, 1) := dop_46 (lbg_14 (j := 18) (v := 0x2e) (by decide +kernel))
theorem dL_law_915 : decode cL_law 915 = .ok (.aload_n 0, 1) := dop_42 (lbg_14 (j := 19) (v := 0x2a) (by decide +kernel))
theorem dL_law_916 : decode cL_law 916 = .ok (.iload 4, 2) := dop_21 (lbg_14 (j := 20) (v := 0x15) (by decide +kernel)) (lbg_14 (j := 21) (v := 0x04) (by decide +kernel))
theorem dL_law_918 : decode cL_law 918 = .ok (.iconst 2, 1) := dop_5 (lbg_14 (j := 22) (v := 0x05) (by decide +kernel))
theorem dL_law_919 : decode cL_law 919 = .ok (.iadd, 1) := dop_96 (lbg_14 (j := 23) (v := 0x60) (by decide +kernel))
theorem dL_law_920 : decode cL_law 920 = .ok (.iaload, 1) := dop_46 (lbg_14 (j := 24) (v := 0x2e) (by decide +kernel))
theorem dL_law_921 : decode cL_law 921 = .ok (.aload_n 3, 1) := dop_45 (lbg_14 (j := 25) (v := 0x2d) (by decide +kernel))
theorem dL_law_922 : decode cL_law 922 = .ok (.invokestatic 220, 3) := dop_184 (lbg_14 (j := 26) (v := 0xb8) (by decide +kernel)) (lbg_14 (j := 27) (v := 0x00) (by decide +kernel)) (lbg_14 (j := 28) (v := 0xdc) (by decide +kernel))
theorem dL_law_925 : decode cL_law 925 = .ok (.istore 5, 2) := dop_54 (lbg_14 (j := 29) (v := 0x36) (by decide +kernel)) (lbg_14 (j := 30) (v := 0x05) (by decide +kernel))
theorem dL_law_927 : decode cL_law 927 = .ok (.aload_n 2, 1) := dop_44 (lbg_14 (j := 31) (v := 0x2c) (by decide +kernel))
theorem dL_law_928 : decode cL_law 928 = .ok (.aload_n 0, 1) := dop_42 (lbg_14 (j := 32) (v := 0x2a) (by decide +kernel))
theorem dL_law_929 : decode cL_law 929 = .ok (.iload 4, 2) := dop_21 (lbg_14 (j := 33) (v := 0x15) (by decide +kernel)) (lbg_14 (j := 34) (v := 0x04) (by decide +kernel))
theorem dL_law_931 : decode cL_law 931 = .ok (.iconst 1, 1) := dop_4 (lbg_14 (j := 35) (v := 0x04) (by decide +kernel))
theorem dL_law_932 : decode cL_law 932 = .ok (.iadd, 1) := dop_96 (lbg_14 (j := 36) (v := 0x60) (by decide +kernel))
theorem dL_law_933 : decode cL_law 933 = .ok (.iaload, 1) := dop_46 (lbg_14 (j := 37) (v := 0x2e) (by decide +kernel))
theorem dL_law_934 : decode cL_law 934 = .ok (.aload_n 0, 1) := dop_42 (lbg_14 (j := 38) (v := 0x2a) (by decide +kernel))
theorem dL_law_935 : decode cL_law 935 = .ok (.iload 4, 2) := dop_21 (lbg_14 (j := 39) (v := 0x15) (by decide +kernel)) (lbg_14 (j := 40) (v := 0x04) (by decide +kernel))
theorem dL_law_937 : decode cL_law 937 = .ok (.iconst 2, 1) := dop_5 (lbg_14 (j := 41) (v := 0x05) (by decide +kernel))
theorem dL_law_938 : decode cL_law 938 = .ok (.iadd, 1) := dop_96 (lbg_14 (j := 42) (v := 0x60) (by decide +kernel))
theorem dL_law_939 : decode cL_law 939 = .ok (.iaload, 1) := dop_46 (lbg_14 (j := 43) (v := 0x2e) (by decide +kernel))
theorem dL_law_940 : decode cL_law 940 = .ok (.invokevirtual 222, 3) := dop_182 (lbg_14 (j := 44) (v := 0xb6) (by decide +kernel)) (lbg_14 (j := 45) (v := 0x00) (by decide +kernel)) (lbg_14 (j := 46) (v := 0xde) (by decide +kernel))
theorem dL_law_943 : decode cL_law 943 = .ok (.istore 6, 2) := dop_54 (lbg_14 (j := 47) (v := 0x36) (by decide +kernel)) (lbg_14 (j := 48) (v := 0x06) (by decide +kernel))
theorem dL_law_945 : decode cL_law 945 = .ok (.goto 1058, 3) := dop_167 (lbg_14 (j := 49) (v := 0xa7) (by decide +kernel)) (lbg_14 (j := 50) (v := 0x04) (by decide +kernel)) (lbg_14 (j := 51) (v := 0x22) (by decide +kernel)) (by decide +kernel)
theorem dL_law_948 : decode cL_law 948 = .ok (.aload_n 1, 1) := dop_43 (lbg_14 (j := 52) (v := 0x2b) (by decide +kernel))
theorem dL_law_949 : decode cL_law 949 = .ok (.aload_n 0, 1) := dop_42 (lbg_14 (j := 53) (v := 0x2a) (by decide +kernel))
theorem dL_law_950 : decode cL_law 950 = .ok (.iload 4, 2) := dop_21 (lbg_14 (j := 54) (v := 0x15) (by decide +kernel)) (lbg_14 (j := 55) (v := 0x04) (by decide +kernel))
theorem dL_law_952 : decode cL_law 952 = .ok (.iconst 1, 1) := dop_4 (lbg_14 (j := 56) (v := 0x04) (by decide +kernel))
theorem dL_law_953 : decode cL_law 953 = .ok (.iadd, 1) := dop_96 (lbg_14 (j := 57) (v := 0x60) (by decide +kernel))
theorem dL_law_954 : decode cL_law 954 = .ok (.iaload, 1) := dop_46 (lbg_14 (j := 58) (v := 0x2e) (by decide +kernel))
theorem dL_law_955 : decode cL_law 955 = .ok (.aload_n 0, 1) := dop_42 (lbg_14 (j := 59) (v := 0x2a) (by decide +kernel))
theorem dL_law_956 : decode cL_law 956 = .ok (.iload 4, 2) := dop_21 (lbg_14 (j := 60) (v := 0x15) (by decide +kernel)) (lbg_14 (j := 61) (v := 0x04) (by decide +kernel))
theorem dL_law_958 : decode cL_law 958 = .ok (.iconst 2, 1) := dop_5 (lbg_14 (j := 62) (v := 0x05) (by decide +kernel))
theorem dL_law_959 : decode cL_law 959 = .ok (.iadd, 1) := dop_96 (lbg_14 (j := 63) (v := 0x60) (by decide +kernel))
theorem dL_law_960 : decode cL_law 960 = .ok (.iaload, 1) := dop_46 (lbg_15 (j := 0) (v := 0x2e) (by decide +kernel))
theorem dL_law_961 : decode cL_law 961 = .ok (.aload_n 3, 1) := dop_45 (lbg_15 (j := 1) (v := 0x2d) (by decide +kernel))
theorem dL_law_962 : decode cL_law 962 = .ok (.invokestatic 223, 3) := dop_184 (lbg_15 (j := 2) (v := 0xb8) (by decide +kernel)) (lbg_15 (j := 3) (v := 0x00) (by decide +kernel)) (lbg_15 (j := 4) (v := 0xdf) (by decide +kernel))
theorem dL_law_965 : decode cL_law 965 = .ok (.istore 5, 2) := dop_54 (lbg_15 (j := 5) (v := 0x36) (by decide +kernel)) (lbg_15 (j := 6) (v := 0x05) (by decide +kernel))
theorem dL_law_967 : decode cL_law 967 = .ok (.aload_n 2, 1) := dop_44 (lbg_15 (j := 7) (v := 0x2c) (by decide +kernel))
theorem dL_law_968 : decode cL_law 968 = .ok (.aload_n 0, 1) := dop_42 (lbg_15 (j := 8) (v := 0x2a) (by decide +kernel))
theorem dL_law_969 : decode cL_law 969 = .ok (.iload 4, 2) := dop_21 (lbg_15 (j := 9) (v := 0x15) (by decide +kernel)) (lbg_15 (j := 10) (v := 0x04) (by decide +kernel))
theorem dL_law_971 : decode cL_law 971 = .ok (.iconst 1, 1) := dop_4 (lbg_15 (j := 11) (v := 0x04) (by decide +kernel))
theorem dL_law_972 : decode cL_law 972 = .ok (.iadd, 1) := dop_96 (lbg_15 (j := 12) (v := 0x60) (by decide +kernel))
theorem dL_law_973 : decode cL_law 973 = .ok (.iaload, 1) := dop_46 (lbg_15 (j := 13) (v := 0x2e) (by decide +kernel))
theorem dL_law_974 : decode cL_law 974 = .ok (.aload_n 0, 1) := dop_42 (lbg_15 (j := 14) (v := 0x2a) (by decide +kernel))
theorem dL_law_975 : decode cL_law 975 = .ok (.iload 4, 2) := dop_21 (lbg_15 (j := 15) (v := 0x15) (by decide +kernel)) (lbg_15 (j := 16) (v := 0x04) (by decide +kernel))
theorem dL_law_977 : decode cL_law 977 = .ok (.iconst 2, 1) := dop_5 (lbg_15 (j := 17) (v := 0x05) (by decide +kernel))
theorem dL_law_978 : decode cL_law 978 = .ok (.iadd, 1) := dop_96 (lbg_15 (j := 18) (v := 0x60) (by decide +kernel))
theorem dL_law_979 : decode cL_law 979 = .ok (.iaload, 1) := dop_46 (lbg_15 (j := 19) (v := 0x2e) (by decide +kernel))
theorem dL_law_980 : decode cL_law 980 = .ok (.invokevirtual 225, 3) := dop_182 (lbg_15 (j := 20) (v := 0xb6) (by decide +kernel)) (lbg_15 (j := 21) (v := 0x00) (by decide +kernel)) (lbg_15 (j := 22) (v := 0xe1) (by decide +kernel))
theorem dL_law_983 : decode cL_law 983 = .ok (.istore 6, 2) := dop_54 (lbg_15 (j := 23) (v := 0x36) (by decide +kernel)) (lbg_15 (j := 24) (v := 0x06) (by decide +kernel))
theorem dL_law_985 : decode cL_law 985 = .ok (.goto 1018, 3) := dop_167 (lbg_15 (j := 25) (v := 0xa7) (by decide +kernel)) (lbg_15 (j := 26) (v := 0x03) (by decide +kernel)) (lbg_15 (j := 27) (v := 0xfa) (by decide +kernel)) (by decide +kernel)
theorem dL_law_988 : decode cL_law 988 = .ok (.aload_n 1, 1) := dop_43 (lbg_15 (j := 28) (v := 0x2b) (by decide +kernel))
theorem dL_law_989 : decode cL_law 989 = .ok (.aload_n 0, 1) := dop_42 (lbg_15 (j := 29) (v := 0x2a) (by decide +kernel))
theorem dL_law_990 : decode cL_law 990 = .ok (.iload 4, 2) := dop_21 (lbg_15 (j := 30) (v := 0x15) (by decide +kernel)) (lbg_15 (j := 31) (v := 0x04) (by decide +kernel))
theorem dL_law_992 : decode cL_law 992 = .ok (.iconst 1, 1) := dop_4 (lbg_15 (j := 32) (v := 0x04) (by decide +kernel))
theorem dL_law_993 : decode cL_law 993 = .ok (.iadd, 1) := dop_96 (lbg_15 (j := 33) (v := 0x60) (by decide +kernel))
theorem dL_law_994 : decode cL_law 994 = .ok (.iaload, 1) := dop_46 (lbg_15 (j := 34) (v := 0x2e) (by decide +kernel))
theorem dL_law_995 : decode cL_law 995 = .ok (.aload_n 0, 1) := dop_42 (lbg_15 (j := 35) (v := 0x2a) (by decide +kernel))
theorem dL_law_996 : decode cL_law 996 = .ok (.iload 4, 2) := dop_21 (lbg_15 (j := 36) (v := 0x15) (by decide +kernel)) (lbg_15 (j := 37) (v := 0x04) (by decide +kernel))
theorem dL_law_998 : decode cL_law 998 = .ok (.iconst 2, 1) := dop_5 (lbg_15 (j := 38) (v := 0x05) (by decide +kernel))
theorem dL_law_999 : decode cL_law 999 = .ok (.iadd, 1) := dop_96 (lbg_15 (j := 39) (v := 0x60) (by decide +kernel))
theorem dL_law_1000 : decode cL_law 1000 = .ok (.iaload, 1) := dop_46 (lbg_15 (j := 40) (v := 0x2e) (by decide +kernel))
theorem dL_law_1001 : decode cL_law 1001 = .ok (.aload_n 3, 1) := dop_45 (lbg_15 (j := 41) (v := 0x2d) (by decide +kernel))
theorem dL_law_1002 : decode cL_law 1002 = .ok (.invokestatic 226, 3) := dop_184 (lbg_15 (j := 42) (v := 0xb8) (by decide +kernel)) (lbg_15 (j := 43) (v := 0x00) (by decide +kernel)) (lbg_15 (j := 44) (v := 0xe2) (by decide +kernel))
theorem dL_law_1005 : decode cL_law 1005 = .ok (.istore 5, 2) := dop_54 (lbg_15 (j := 45) (v := 0x36) (by decide +kernel)) (lbg_15 (j := 46) (v := 0x05) (by decide +kernel))
theorem dL_law_1007 : decode cL_law 1007 = .ok (.aload_n 2, 1) := dop_44 (lbg_15 (j := 47) (v := 0x2c) (by decide +kernel))
theorem dL_law_1008 : decode cL_law 1008 = .ok (.aload_n 0, 1) := dop_42 (lbg_15 (j := 48) (v := 0x2a) (by decide +kernel))
theorem dL_law_1009 : decode cL_law 1009 = .ok (.iload 4, 2) := dop_21 (lbg_15 (j := 49) (v := 0x15) (by decide +kernel)) (lbg_15 (j := 50) (v := 0x04) (by decide +kernel))
theorem dL_law_1011 : decode cL_law 1011 = .ok (.iconst 1, 1) := dop_4 (lbg_15 (j := 51) (v := 0x04) (by decide +kernel))
theorem dL_law_1012 : decode cL_law 1012 = .ok (.iadd, 1) := dop_96 (lbg_15 (j := 52) (v := 0x60) (by decide +kernel))
theorem dL_law_1013 : decode cL_law 1013 = .ok (.iaload, 1) := dop_46 (lbg_15 (j := 53) (v := 0x2e) (by decide +kernel))
theorem dL_law_1014 : decode cL_law 1014 = .ok (.aload_n 0, 1) := dop_42 (lbg_15 (j := 54) (v := 0x2a) (by decide +kernel))
theorem dL_law_1015 : decode cL_law 1015 = .ok (.iload 4, 2) := dop_21 (lbg_15 (j := 55) (v := 0x15) (by decide +kernel)) (lbg_15 (j := 56) (v := 0x04) (by decide +kernel))
theorem dL_law_1017 : decode cL_law 1017 = .ok (.iconst 2, 1) := dop_5 (lbg_15 (j := 57) (v := 0x05) (by decide +kernel))
theorem dL_law_1018 : decode cL_law 1018 = .ok (.iadd, 1) := dop_96 (lbg_15 (j := 58) (v := 0x60) (by decide +kernel))
theorem dL_law_1019 : decode cL_law 1019 = .ok (.iaload, 1) := dop_46 (lbg_15 (j := 59) (v := 0x2e) (by decide +kernel))
theorem dL_law_1020 : decode cL_law 1020 = .ok (.invokevirtual 228, 3) := dop_182 (lbg_15 (j := 60) (v := 0xb6) (by decide +kernel)) (lbg_15 (j := 61) (v := 0x00) (by decide +kernel)) (lbg_15 (j := 62) (v := 0xe4) (by decide +kernel))
theorem dL_law_1023 : decode cL_law 1023 = .ok (.istore 6, 2) := dop_54 (lbg_15 (j := 63) (v := 0x36) (by decide +kernel)) (lbg_16 (j := 0) (v := 0x06) (by decide +kernel))
theorem dL_law_1025 : decode cL_law 1025 = .ok (.goto 978, 3) := dop_167 (lbg_16 (j := 1) (v := 0xa7) (by decide +kernel)) (lbg_16 (j := 2) (v := 0x03) (by decide +kernel)) (lbg_16 (j := 3) (v := 0xd2) (by decide +kernel)) (by decide +kernel)
theorem dL_law_1028 : decode cL_law 1028 = .ok (.aload_n 1, 1) := dop_43 (lbg_16 (j := 4) (v := 0x2b) (by decide +kernel))
theorem dL_law_1029 : decode cL_law 1029 = .ok (.aload_n 0, 1) := dop_42 (lbg_16 (j := 5) (v := 0x2a) (by decide +kernel))
theorem dL_law_1030 : decode cL_law 1030 = .ok (.iload 4, 2) := dop_21 (lbg_16 (j := 6) (v := 0x15) (by decide +kernel)) (lbg_16 (j := 7) (v := 0x04) (by decide +kernel))
theorem dL_law_1032 : decode cL_law 1032 = .ok (.iconst 1, 1) := dop_4 (lbg_16 (j := 8) (v := 0x04) (by decide +kernel))
theorem dL_law_1033 : decode cL_law 1033 = .ok (.iadd, 1) := dop_96 (lbg_16 (j := 9) (v := 0x60) (by decide +kernel))
theorem dL_law_1034 : decode cL_law 1034 = .ok (.iaload, 1) := dop_46 (lbg_16 (j := 10) (v := 0x2e) (by decide +kernel))
theorem dL_law_1035 : decode cL_law 1035 = .ok (.aload_n 0, 1) := dop_42 (lbg_16 (j := 11) (v := 0x2a) (by decide +kernel))
theorem dL_law_1036 : decode cL_law 1036 = .ok (.iload 4, 2) := dop_21 (lbg_16 (j := 12) (v := 0x15) (by decide +kernel)) (lbg_16 (j := 13) (v := 0x04) (by decide +kernel))
theorem dL_law_1038 : decode cL_law 1038 = .ok (.iconst 2, 1) := dop_5 (lbg_16 (j := 14) (v := 0x05) (by decide +kernel))
theorem dL_law_1039 : decode cL_law 1039 = .ok (.iadd, 1) := dop_96 (lbg_16 (j := 15) (v := 0x60) (by decide +kernel))
theorem dL_law_1040 : decode cL_law 1040 = .ok (.iaload, 1) := dop_46 (lbg_16 (j := 16) (v := 0x2e) (by decide +kernel))
theorem dL_law_1041 : decode cL_law 1041 = .ok (.aload_n 3, 1) := dop_45 (lbg_16 (j := 17) (v := 0x2d) (by decide +kernel))
theorem dL_law_1042 : decode cL_law 1042 = .ok (.invokestatic 229, 3) := dop_184 (lbg_16 (j := 18) (v := 0xb8) (by decide +kernel)) (lbg_16 (j := 19) (v := 0x00) (by decide +kernel)) (lbg_16 (j := 20) (v := 0xe5) (by decide +kernel))
theorem dL_law_1045 : decode cL_law 1045 = .ok (.istore 5, 2) := dop_54 (lbg_16 (j := 21) (v := 0x36) (by decide +kernel)) (lbg_16 (j := 22) (v := 0x05) (by decide +kernel))
theorem dL_law_1047 : decode cL_law 1047 = .ok (.aload_n 2, 1) := dop_44 (lbg_16 (j := 23) (v := 0x2c) (by decide +kernel))
theorem dL_law_1048 : decode cL_law 1048 = .ok (.aload_n 0, 1) := dop_42 (lbg_16 (j := 24) (v := 0x2a) (by decide +kernel))
theorem dL_law_1049 : decode cL_law 1049 = .ok (.iload 4, 2) := dop_21 (lbg_16 (j := 25) (v := 0x15) (by decide +kernel)) (lbg_16 (j := 26) (v := 0x04) (by decide +kernel))
theorem dL_law_1051 : decode cL_law 1051 = .ok (.iconst 1, 1) := dop_4 (lbg_16 (j := 27) (v := 0x04) (by decide +kernel))
theorem dL_law_1052 : decode cL_law 1052 = .ok (.iadd, 1) := dop_96 (lbg_16 (j := 28) (v := 0x60) (by decide +kernel))
theorem dL_law_1053 : decode cL_law 1053 = .ok (.iaload, 1) := dop_46 (lbg_16 (j := 29) (v := 0x2e) (by decide +kernel))
theorem dL_law_1054 : decode cL_law 1054 = .ok (.aload_n 0, 1) := dop_42 (lbg_16 (j := 30) (v := 0x2a) (by decide +kernel))
theorem dL_law_1055 : decode cL_law 1055 = .ok (.iload 4, 2) := dop_21 (lbg_16 (j := 31) (v := 0x15) (by decide +kernel)) (lbg_16 (j := 32) (v := 0x04) (by decide +kernel))
theorem dL_law_1057 : decode cL_law 1057 = .ok (.iconst 2, 1) := dop_5 (lbg_16 (j := 33) (v := 0x05) (by decide +kernel))
theorem dL_law_1058 : decode cL_law 1058 = .ok (.iadd, 1) := dop_96 (lbg_16 (j := 34) (v := 0x60) (by decide +kernel))
theorem dL_law_1059 : decode cL_law 1059 = .ok (.iaload, 1) := dop_46 (lbg_16 (j := 35) (v := 0x2e) (by decide +kernel))
theorem dL_law_1060 : decode cL_law 1060 = .ok (.invokevirtual 231, 3) := dop_182 (lbg_16 (j := 36) (v := 0xb6) (by decide +kernel)) (lbg_16 (j := 37) (v := 0x00) (by decide +kernel)) (lbg_16 (j := 38) (v := 0xe7) (by decide +kernel))
theorem dL_law_1063 : decode cL_law 1063 = .ok (.istore 6, 2) := dop_54 (lbg_16 (j := 39) (v := 0x36) (by decide +kernel)) (lbg_16 (j := 40) (v := 0x06) (by decide +kernel))
theorem dL_law_1065 : decode cL_law 1065 = .ok (.goto 938, 3) := dop_167 (lbg_16 (j := 41) (v := 0xa7) (by decide +kernel)) (lbg_16 (j := 42) (v := 0x03) (by decide +kernel)) (lbg_16 (j := 43) (v := 0xaa) (by decide +kernel)) (by decide +kernel)
theorem dL_law_1068 : decode cL_law 1068 = .ok (.aload_n 1, 1) := dop_43 (lbg_16 (j := 44) (v := 0x2b) (by decide +kernel))
theorem dL_law_1069 : decode cL_law 1069 = .ok (.aload_n 0, 1) := dop_42 (lbg_16 (j := 45) (v := 0x2a) (by decide +kernel))
theorem dL_law_1070 : decode cL_law 1070 = .ok (.iload 4, 2) := dop_21 (lbg_16 (j := 46) (v := 0x15) (by decide +kernel)) (lbg_16 (j := 47) (v := 0x04) (by decide +kernel))
theorem dL_law_1072 : decode cL_law 1072 = .ok (.iconst 1, 1) := dop_4 (lbg_16 (j := 48) (v := 0x04) (by decide +kernel))
theorem dL_law_1073 : decode cL_law 1073 = .ok (.iadd, 1) := dop_96 (lbg_16 (j := 49) (v := 0x60) (by decide +kernel))
theorem dL_law_1074 : decode cL_law 1074 = .ok (.iaload, 1) := dop_46 (lbg_16 (j := 50) (v := 0x2e) (by decide +kernel))
theorem dL_law_1075 : decode cL_law 1075 = .ok (.aload_n 0, 1) := dop_42 (lbg_16 (j := 51) (v := 0x2a) (by decide +kernel))
theorem dL_law_1076 : decode cL_law 1076 = .ok (.iload 4, 2) := dop_21 (lbg_16 (j := 52) (v := 0x15) (by decide +kernel)) (lbg_16 (j := 53) (v := 0x04) (by decide +kernel))
theorem dL_law_1078 : decode cL_law 1078 = .ok (.iconst 2, 1) := dop_5 (lbg_16 (j := 54) (v := 0x05) (by decide +kernel))
theorem dL_law_1079 : decode cL_law 1079 = .ok (.iadd, 1) := dop_96 (lbg_16 (j := 55) (v := 0x60) (by decide +kernel))
theorem dL_law_1080 : decode cL_law 1080 = .ok (.iaload, 1) := dop_46 (lbg_16 (j := 56) (v := 0x2e) (by decide +kernel))
theorem dL_law_1081 : decode cL_law 1081 = .ok (.aload_n 3, 1) := dop_45 (lbg_16 (j := 57) (v := 0x2d) (by decide +kernel))
theorem dL_law_1082 : decode cL_law 1082 = .ok (.invokestatic 232, 3) := dop_184 (lbg_16 (j := 58) (v := 0xb8) (by decide +kernel)) (lbg_16 (j := 59) (v := 0x00) (by decide +kernel)) (lbg_16 (j := 60) (v := 0xe8) (by decide +kernel))
theorem dL_law_1085 : decode cL_law 1085 = .ok (.istore 5, 2) := dop_54 (lbg_16 (j := 61) (v := 0x36) (by decide +kernel)) (lbg_16 (j := 62) (v := 0x05) (by decide +kernel))
theorem dL_law_1087 : decode cL_law 1087 = .ok (.aload_n 2, 1) := dop_44 (lbg_16 (j := 63) (v := 0x2c) (by decide +kernel))
theorem dL_law_1088 : decode cL_law 1088 = .ok (.aload_n 0, 1) := dop_42 (lbg_17 (j := 0) (v := 0x2a) (by decide +kernel))
theorem dL_law_1089 : decode cL_law 1089 = .ok (.iload 4, 2) := dop_21 (lbg_17 (j := 1) (v := 0x15) (by decide +kernel)) (lbg_17 (j := 2) (v := 0x04) (by decide +kernel))
theorem dL_law_1091 : decode cL_law 1091 = .ok (.iconst 1, 1) := dop_4 (lbg_17 (j := 3) (v := 0x04) (by decide +kernel))
theorem dL_law_1092 : decode cL_law 1092 = .ok (.iadd, 1) := dop_96 (lbg_17 (j := 4) (v := 0x60) (by decide +kernel))
theorem dL_law_1093 : decode cL_law 1093 = .ok (.iaload, 1) := dop_46 (lbg_17 (j := 5) (v := 0x2e) (by decide +kernel))
theorem dL_law_1094 : decode cL_law 1094 = .ok (.aload_n 0, 1) := dop_42 (lbg_17 (j := 6) (v := 0x2a) (by decide +kernel))
theorem dL_law_1095 : decode cL_law 1095 = .ok (.iload 4, 2) := dop_21 (lbg_17 (j := 7) (v := 0x15) (by decide +kernel)) (lbg_17 (j := 8) (v := 0x04) (by decide +kernel))
theorem dL_law_1097 : decode cL_law 1097 = .ok (.iconst 2, 1) := dop_5 (lbg_17 (j := 9) (v := 0x05) (by decide +kernel))
theorem dL_law_1098 : decode cL_law 1098 = .ok (.iadd, 1) := dop_96 (lbg_17 (j := 10) (v := 0x60) (by decide +kernel))
theorem dL_law_1099 : decode cL_law 1099 = .ok (.iaload, 1) := dop_46 (lbg_17 (j := 11) (v := 0x2e) (by decide +kernel))
theorem dL_law_1100 : decode cL_law 1100 = .ok (.invokevirtual 234, 3) := dop_182 (lbg_17 (j := 12) (v := 0xb6) (by decide +kernel)) (lbg_17 (j := 13) (v := 0x00) (by decide +kernel)) (lbg_17 (j := 14) (v := 0xea) (by decide +kernel))
theorem dL_law_1103 : decode cL_law 1103 = .ok (.istore 6, 2) := dop_54 (lbg_17 (j := 15) (v := 0x36) (by decide +kernel)) (lbg_17 (j := 16) (v := 0x06) (by decide +kernel))
theorem dL_law_1105 : decode cL_law 1105 = .ok (.goto 898, 3) := dop_167 (lbg_17 (j := 17) (v := 0xa7) (by decide +kernel)) (lbg_17 (j := 18) (v := 0x03) (by decide +kernel)) (lbg_17 (j := 19) (v := 0x82) (by decide +kernel)) (by decide +kernel)
theorem dL_law_1108 : decode cL_law 1108 = .ok (.aload_n 1, 1) := dop_43 (lbg_17 (j := 20) (v := 0x2b) (by decide +kernel))
theorem dL_law_1109 : decode cL_law 1109 = .ok (.aload_n 0, 1) := dop_42 (lbg_17 (j := 21) (v := 0x2a) (by decide +kernel))
theorem dL_law_1110 : decode cL_law 1110 = .ok (.iload 4, 2) := dop_21 (lbg_17 (j := 22) (v := 0x15) (by decide +kernel)) (lbg_17 (j := 23) (v := 0x04) (by decide +kernel))
theorem dL_law_1112 : decode cL_law 1112 = .ok (.iconst 1, 1) := dop_4 (lbg_17 (j := 24) (v := 0x04) (by decide +kernel))
theorem dL_law_1113 : decode cL_law 1113 = .ok (.iadd, 1) := dop_96 (lbg_17 (j := 25) (v := 0x60) (by decide +kernel))
theorem dL_law_1114 : decode cL_law 1114 = .ok (.iaload, 1) := dop_46 (lbg_17 (j := 26) (v := 0x2e) (by decide +kernel))
theorem dL_law_1115 : decode cL_law 1115 = .ok (.aload_n 0, 1) := dop_42 (lbg_17 (j := 27) (v := 0x2a) (by decide +kernel))
theorem dL_law_1116 : decode cL_law 1116 = .ok (.iload 4, 2) := dop_21 (lbg_17 (j := 28) (v := 0x15) (by decide +kernel)) (lbg_17 (j := 29) (v := 0x04) (by decide +kernel))
theorem dL_law_1118 : decode cL_law 1118 = .ok (.iconst 2, 1) := dop_5 (lbg_17 (j := 30) (v := 0x05) (by decide +kernel))
theorem dL_law_1119 : decode cL_law 1119 = .ok (.iadd, 1) := dop_96 (lbg_17 (j := 31) (v := 0x60) (by decide +kernel))
theorem dL_law_1120 : decode cL_law 1120 = .ok (.iaload, 1) := dop_46 (lbg_17 (j := 32) (v := 0x2e) (by decide +kernel))
theorem dL_law_1121 : decode cL_law 1121 = .ok (.aload_n 3, 1) := dop_45 (lbg_17 (j := 33) (v := 0x2d) (by decide +kernel))
theorem dL_law_1122 : decode cL_law 1122 = .ok (.invokestatic 235, 3) := dop_184 (lbg_17 (j := 34) (v := 0xb8) (by decide +kernel)) (lbg_17 (j := 35) (v := 0x00) (by decide +kernel)) (lbg_17 (j := 36) (v := 0xeb) (by decide +kernel))
theorem dL_law_1125 : decode cL_law 1125 = .ok (.istore 5, 2) := dop_54 (lbg_17 (j := 37) (v := 0x36) (by decide +kernel)) (lbg_17 (j := 38) (v := 0x05) (by decide +kernel))
theorem dL_law_1127 : decode cL_law 1127 = .ok (.aload_n 2, 1) := dop_44 (lbg_17 (j := 39) (v := 0x2c) (by decide +kernel))
theorem dL_law_1128 : decode cL_law 1128 = .ok (.aload_n 0, 1) := dop_42 (lbg_17 (j := 40) (v := 0x2a) (by decide +kernel))
theorem dL_law_1129 : decode cL_law 1129 = .ok (.iload 4, 2) := dop_21 (lbg_17 (j := 41) (v := 0x15) (by decide +kernel)) (lbg_17 (j := 42) (v := 0x04) (by decide +kernel))
theorem dL_law_1131 : decode cL_law 1131 = .ok (.iconst 1, 1) := dop_4 (lbg_17 (j := 43) (v := 0x04) (by decide +kernel))
theorem dL_law_1132 : decode cL_law 1132 = .ok (.iadd, 1) := dop_96 (lbg_17 (j := 44) (v := 0x60) (by decide +kernel))
theorem dL_law_1133 : decode cL_law 1133 = .ok (.iaload, 1) := dop_46 (lbg_17 (j := 45) (v := 0x2e) (by decide +kernel))
theorem dL_law_1134 : decode cL_law 1134 = .ok (.aload_n 0, 1) := dop_42 (lbg_17 (j := 46) (v := 0x2a) (by decide +kernel))
theorem dL_law_1135 : decode cL_law 1135 = .ok (.iload 4, 2) := dop_21 (lbg_17 (j := 47) (v := 0x15) (by decide +kernel)) (lbg_17 (j := 48) (v := 0x04) (by decide +kernel))
theorem dL_law_1137 : decode cL_law 1137 = .ok (.iconst 2, 1) := dop_5 (lbg_17 (j := 49) (v := 0x05) (by decide +kernel))
theorem dL_law_1138 : decode cL_law 1138 = .ok (.iadd, 1) := dop_96 (lbg_17 (j := 50) (v := 0x60) (by decide +kernel))
theorem dL_law_1139 : decode cL_law 1139 = .ok (.iaload, 1) := dop_46 (lbg_17 (j := 51) (v := 0x2e) (by decide +kernel))
theorem dL_law_1140 : decode cL_law 1140 = .ok (.invokevirtual 237, 3) := dop_182 (lbg_17 (j := 52) (v := 0xb6) (by decide +kernel)) (lbg_17 (j := 53) (v := 0x00) (by decide +kernel)) (lbg_17 (j := 54) (v := 0xed) (by decide +kernel))
theorem dL_law_1143 : decode cL_law 1143 = .ok (.istore 6, 2) := dop_54 (lbg_17 (j := 55) (v := 0x36) (by decide +kernel)) (lbg_17 (j := 56) (v := 0x06) (by decide +kernel))
theorem dL_law_1145 : decode cL_law 1145 = .ok (.goto 858, 3) := dop_167 (lbg_17 (j := 57) (v := 0xa7) (by decide +kernel)) (lbg_17 (j := 58) (v := 0x03) (by decide +kernel)) (lbg_17 (j := 59) (v := 0x5a) (by decide +kernel)) (by decide +kernel)
theorem dL_law_1148 : decode cL_law 1148 = .ok (.aload_n 1, 1) := dop_43 (lbg_17 (j := 60) (v := 0x2b) (by decide +kernel))
theorem dL_law_1149 : decode cL_law 1149 = .ok (.aload_n 0, 1) := dop_42 (lbg_17 (j := 61) (v := 0x2a) (by decide +kernel))
theorem dL_law_1150 : decode cL_law 1150 = .ok (.iload 4, 2) := dop_21 (lbg_17 (j := 62) (v := 0x15) (by decide +kernel)) (lbg_17 (j := 63) (v := 0x04) (by decide +kernel))
theorem dL_law_1152 : decode cL_law 1152 = .ok (.iconst 1, 1) := dop_4 (lbg_18 (j := 0) (v := 0x04) (by decide +kernel))
theorem dL_law_1153 : decode cL_law 1153 = .ok (.iadd, 1) := dop_96 (lbg_18 (j := 1) (v := 0x60) (by decide +kernel))
theorem dL_law_1154 : decode cL_law 1154 = .ok (.iaload, 1) := dop_46 (lbg_18 (j := 2) (v := 0x2e) (by decide +kernel))
theorem dL_law_1155 : decode cL_law 1155 = .ok (.aload_n 0, 1) := dop_42 (lbg_18 (j := 3) (v := 0x2a) (by decide +kernel))
theorem dL_law_1156 : decode cL_law 1156 = .ok (.iload 4, 2) := dop_21 (lbg_18 (j := 4) (v := 0x15) (by decide +kernel)) (lbg_18 (j := 5) (v := 0x04) (by decide +kernel))
theorem dL_law_1158 : decode cL_law 1158 = .ok (.iconst 2, 1) := dop_5 (lbg_18 (j := 6) (v := 0x05) (by decide +kernel))
theorem dL_law_1159 : decode cL_law 1159 = .ok (.iadd, 1) := dop_96 (lbg_18 (j := 7) (v := 0x60) (by decide +kernel))
theorem dL_law_1160 : decode cL_law 1160 = .ok (.iaload, 1) := dop_46 (lbg_18 (j := 8) (v := 0x2e) (by decide +kernel))
theorem dL_law_1161 : decode cL_law 1161 = .ok (.aload_n 3, 1) := dop_45 (lbg_18 (j := 9) (v := 0x2d) (by decide +kernel))
theorem dL_law_1162 : decode cL_law 1162 = .ok (.invokestatic 238, 3) := dop_184 (lbg_18 (j := 10) (v := 0xb8) (by decide +kernel)) (lbg_18 (j := 11) (v := 0x00) (by decide +kernel)) (lbg_18 (j := 12) (v := 0xee) (by decide +kernel))
theorem dL_law_1165 : decode cL_law 1165 = .ok (.istore 5, 2) := dop_54 (lbg_18 (j := 13) (v := 0x36) (by decide +kernel)) (lbg_18 (j := 14) (v := 0x05) (by decide +kernel))
theorem dL_law_1167 : decode cL_law 1167 = .ok (.aload_n 2, 1) := dop_44 (lbg_18 (j := 15) (v := 0x2c) (by decide +kernel))
theorem dL_law_1168 : decode cL_law 1168 = .ok (.aload_n 0, 1) := dop_42 (lbg_18 (j := 16) (v := 0x2a) (by decide +kernel))
theorem dL_law_1169 : decode cL_law 1169 = .ok (.iload 4, 2) := dop_21 (lbg_18 (j := 17) (v := 0x15) (by decide +kernel)) (lbg_18 (j := 18) (v := 0x04) (by decide +kernel))
theorem dL_law_1171 : decode cL_law 1171 = .ok (.iconst 1, 1) := dop_4 (lbg_18 (j := 19) (v := 0x04) (by decide +kernel))
theorem dL_law_1172 : decode cL_law 1172 = .ok (.iadd, 1) := dop_96 (lbg_18 (j := 20) (v := 0x60) (by decide +kernel))
theorem dL_law_1173 : decode cL_law 1173 = .ok (.iaload, 1) := dop_46 (lbg_18 (j := 21) (v := 0x2e) (by decide +kernel))
theorem dL_law_1174 : decode cL_law 1174 = .ok (.aload_n 0, 1) := dop_42 (lbg_18 (j := 22) (v := 0x2a) (by decide +kernel))
theorem dL_law_1175 : decode cL_law 1175 = .ok (.iload 4, 2) := dop_21 (lbg_18 (j := 23) (v := 0x15) (by decide +kernel)) (lbg_18 (j := 24) (v := 0x04) (by decide +kernel))
theorem dL_law_1177 : decode cL_law 1177 = .ok (.iconst 2, 1) := dop_5 (lbg_18 (j := 25) (v := 0x05) (by decide +kernel))
theorem dL_law_1178 : decode cL_law 1178 = .ok (.iadd, 1) := dop_96 (lbg_18 (j := 26) (v := 0x60) (by decide +kernel))
theorem dL_law_1179 : decode cL_law 1179 = .ok (.iaload, 1) := dop_46 (lbg_18 (j := 27) (v := 0x2e) (by decide +kernel))
theorem dL_law_1180 : decode cL_law 1180 = .ok (.invokevirtual 240, 3) := dop_182 (lbg_18 (j := 28) (v := 0xb6) (by decide +kernel)) (lbg_18 (j := 29) (v := 0x00) (by decide +kernel)) (lbg_18 (j := 30) (v := 0xf0) (by decide +kernel))
theorem dL_law_1183 : decode cL_law 1183 = .ok (.istore 6, 2) := dop_54 (lbg_18 (j := 31) (v := 0x36) (by decide +kernel)) (lbg_18 (j := 32) (v := 0x06) (by decide +kernel))
theorem dL_law_1185 : decode cL_law 1185 = .ok (.goto 818, 3) := dop_167 (lbg_18 (j := 33) (v := 0xa7) (by decide +kernel)) (lbg_18 (j := 34) (v := 0x03) (by decide +kernel)) (lbg_18 (j := 35) (v := 0x32) (by decide +kernel)) (by decide +kernel)
theorem dL_law_1188 : decode cL_law 1188 = .ok (.aload_n 1, 1) := dop_43 (lbg_18 (j := 36) (v := 0x2b) (by decide +kernel))
theorem dL_law_1189 : decode cL_law 1189 = .ok (.aload_n 0, 1) := dop_42 (lbg_18 (j := 37) (v := 0x2a) (by decide +kernel))
theorem dL_law_1190 : decode cL_law 1190 = .ok (.iload 4, 2) := dop_21 (lbg_18 (j := 38) (v := 0x15) (by decide +kernel)) (lbg_18 (j := 39) (v := 0x04) (by decide +kernel))
theorem dL_law_1192 : decode cL_law 1192 = .ok (.iconst 1, 1) := dop_4 (lbg_18 (j := 40) (v := 0x04) (by decide +kernel))
theorem dL_law_1193 : decode cL_law 1193 = .ok (.iadd, 1) := dop_96 (lbg_18 (j := 41) (v := 0x60) (by decide +kernel))
theorem dL_law_1194 : decode cL_law 1194 = .ok (.iaload, 1) := dop_46 (lbg_18 (j := 42) (v := 0x2e) (by decide +kernel))
theorem dL_law_1195 : decode cL_law 1195 = .ok (.aload_n 0, 1) := dop_42 (lbg_18 (j := 43) (v := 0x2a) (by decide +kernel))
theorem dL_law_1196 : decode cL_law 1196 = .ok (.iload 4, 2) := dop_21 (lbg_18 (j := 44) (v := 0x15) (by decide +kernel)) (lbg_18 (j := 45) (v := 0x04) (by decide +kernel))
theorem dL_law_1198 : decode cL_law 1198 = .ok (.iconst 2, 1) := dop_5 (lbg_18 (j := 46) (v := 0x05) (by decide +kernel))
theorem dL_law_1199 : decode cL_law 1199 = .ok (.iadd, 1) := dop_96 (lbg_18 (j := 47) (v := 0x60) (by decide +kernel))
theorem dL_law_1200 : decode cL_law 1200 = .ok (.iaload, 1) := dop_46 (lbg_18 (j := 48) (v := 0x2e) (by decide +kernel))
theorem dL_law_1201 : decode cL_law 1201 = .ok (.aload_n 0, 1) := dop_42 (lbg_18 (j := 49) (v := 0x2a) (by decide +kernel))
theorem dL_law_1202 : decode cL_law 1202 = .ok (.iload 4, 2) := dop_21 (lbg_18 (j := 50) (v := 0x15) (by decide +kernel)) (lbg_18 (j := 51) (v := 0x04) (by decide +kernel))
theorem dL_law_1204 : decode cL_law 1204 = .ok (.iconst 3, 1) := dop_6 (lbg_18 (j := 52) (v := 0x06) (by decide +kernel))
theorem dL_law_1205 : decode cL_law 1205 = .ok (.iadd, 1) := dop_96 (lbg_18 (j := 53) (v := 0x60) (by decide +kernel))
theorem dL_law_1206 : decode cL_law 1206 = .ok (.iaload, 1) := dop_46 (lbg_18 (j := 54) (v := 0x2e) (by decide +kernel))
theorem dL_law_1207 : decode cL_law 1207 = .ok (.aload_n 3, 1) := dop_45 (lbg_18 (j := 55) (v := 0x2d) (by decide +kernel))
theorem dL_law_1208 : decode cL_law 1208 = .ok (.invokestatic 241, 3) := dop_184 (lbg_18 (j := 56) (v := 0xb8) (by decide +kernel)) (lbg_18 (j := 57) (v := 0x00) (by decide +kernel)) (lbg_18 (j := 58) (v := 0xf1) (by decide +kernel))
theorem dL_law_1211 : decode cL_law 1211 = .ok (.istore 5, 2) := dop_54 (lbg_18 (j := 59) (v := 0x36) (by decide +kernel)) (lbg_18 (j := 60) (v := 0x05) (by decide +kernel))
theorem dL_law_1213 : decode cL_law 1213 = .ok (.aload_n 2, 1) := dop_44 (lbg_18 (j := 61) (v := 0x2c) (by decide +kernel))
theorem dL_law_1214 : decode cL_law 1214 = .ok (.aload_n 0, 1) := dop_42 (lbg_18 (j := 62) (v := 0x2a) (by decide +kernel))
theorem dL_law_1215 : decode cL_law 1215 = .ok (.iload 4, 2) := dop_21 (lbg_18 (j := 63) (v := 0x15) (by decide +kernel)) (lbg_19 (j := 0) (v := 0x04) (by decide +kernel))
theorem dL_law_1217 : decode cL_law 1217 = .ok (.iconst 1, 1) := dop_4 (lbg_19 (j := 1) (v := 0x04) (by decide +kernel))
theorem dL_law_1218 : decode cL_law 1218 = .ok (.iadd, 1) := dop_96 (lbg_19 (j := 2) (v := 0x60) (by decide +kernel))
theorem dL_law_1219 : decode cL_law 1219 = .ok (.iaload, 1) := dop_46 (lbg_19 (j := 3) (v := 0x2e) (by decide +kernel))
theorem dL_law_1220 : decode cL_law 1220 = .ok (.aload_n 0, 1) := dop_42 (lbg_19 (j := 4) (v := 0x2a) (by decide +kernel))
theorem dL_law_1221 : decode cL_law 1221 = .ok (.iload 4, 2) := dop_21 (lbg_19 (j := 5) (v := 0x15) (by decide +kernel)) (lbg_19 (j := 6) (v := 0x04) (by decide +kernel))
theorem dL_law_1223 : decode cL_law 1223 = .ok (.iconst 2, 1) := dop_5 (lbg_19 (j := 7) (v := 0x05) (by decide +kernel))
theorem dL_law_1224 : decode cL_law 1224 = .ok (.iadd, 1) := dop_96 (lbg_19 (j := 8) (v := 0x60) (by decide +kernel))
theorem dL_law_1225 : decode cL_law 1225 = .ok (.iaload, 1) := dop_46 (lbg_19 (j := 9) (v := 0x2e) (by decide +kernel))
theorem dL_law_1226 : decode cL_law 1226 = .ok (.aload_n 0, 1) := dop_42 (lbg_19 (j := 10) (v := 0x2a) (by decide +kernel))
theorem dL_law_1227 : decode cL_law 1227 = .ok (.iload 4, 2) := dop_21 (lbg_19 (j := 11) (v := 0x15) (by decide +kernel)) (lbg_19 (j := 12) (v := 0x04) (by decide +kernel))
theorem dL_law_1229 : decode cL_law 1229 = .ok (.iconst 3, 1) := dop_6 (lbg_19 (j := 13) (v := 0x06) (by decide +kernel))
theorem dL_law_1230 : decode cL_law 1230 = .ok (.iadd, 1) := dop_96 (lbg_19 (j := 14) (v := 0x60) (by decide +kernel))
theorem dL_law_1231 : decode cL_law 1231 = .ok (.iaload, 1) := dop_46 (lbg_19 (j := 15) (v := 0x2e) (by decide +kernel))
theorem dL_law_1232 : decode cL_law 1232 = .ok (.invokevirtual 243, 3) := dop_182 (lbg_19 (j := 16) (v := 0xb6) (by decide +kernel)) (lbg_19 (j := 17) (v := 0x00) (by decide +kernel)) (lbg_19 (j := 18) (v := 0xf3) (by decide +kernel))
theorem dop_58 {a : ByteArray} {pc : Nat} (h0 : a.data.toList[pc]? = some 58) {x : UInt8} (h1 : a.data.toList[pc + 1]? = some x) : decode a pc = .ok (.astore x.toNat, 2) := by
  refine (dec_step (q := pc + 2) ?_).trans (by rw [Nat.add_sub_cancel_left])
  unfold Decoder.instr
  rw [bind_ok (u1_of h0)]
  show (((Reader.u1 : Decoder Nat) >>= fun y => (pure (.astore y) : Decoder Instr)).run a).run (pc + 1) = _
  rw [bind_ok (u1_of h1)]
  rfl
theorem dL_law_1235 : decode cL_law 1235 = .ok (.astore 6, 2) := dop_58 (lbg_19 (j := 19) (v := 0x3a) (by decide +kernel)) (lbg_19 (j := 20) (v := 0x06) (by decide +kernel))
theorem dL_law_1237 : decode cL_law 1237 = .ok (.goto 766, 3) := dop_167 (lbg_19 (j := 21) (v := 0xa7) (by decide +kernel)) (lbg_19 (j := 22) (v := 0x02) (by decide +kernel)) (lbg_19 (j := 23) (v := 0xfe) (by decide +kernel)) (by decide +kernel)
theorem dL_law_1240 : decode cL_law 1240 = .ok (.aload_n 1, 1) := dop_43 (lbg_19 (j := 24) (v := 0x2b) (by decide +kernel))
theorem dL_law_1241 : decode cL_law 1241 = .ok (.aload_n 0, 1) := dop_42 (lbg_19 (j := 25) (v := 0x2a) (by decide +kernel))
theorem dL_law_1242 : decode cL_law 1242 = .ok (.iload 4, 2) := dop_21 (lbg_19 (j := 26) (v := 0x15) (by decide +kernel)) (lbg_19 (j := 27) (v := 0x04) (by decide +kernel))
theorem dL_law_1244 : decode cL_law 1244 = .ok (.iconst 1, 1) := dop_4 (lbg_19 (j := 28) (v := 0x04) (by decide +kernel))
theorem dL_law_1245 : decode cL_law 1245 = .ok (.iadd, 1) := dop_96 (lbg_19 (j := 29) (v := 0x60) (by decide +kernel))
theorem dL_law_1246 : decode cL_law 1246 = .ok (.iaload, 1) := dop_46 (lbg_19 (j := 30) (v := 0x2e) (by decide +kernel))
theorem dL_law_1247 : decode cL_law 1247 = .ok (.aload_n 3, 1) := dop_45 (lbg_19 (j := 31) (v := 0x2d) (by decide +kernel))
theorem dL_law_1248 : decode cL_law 1248 = .ok (.invokestatic 244, 3) := dop_184 (lbg_19 (j := 32) (v := 0xb8) (by decide +kernel)) (lbg_19 (j := 33) (v := 0x00) (by decide +kernel)) (lbg_19 (j := 34) (v := 0xf4) (by decide +kernel))
theorem dL_law_1251 : decode cL_law 1251 = .ok (.istore 5, 2) := dop_54 (lbg_19 (j := 35) (v := 0x36) (by decide +kernel)) (lbg_19 (j := 36) (v := 0x05) (by decide +kernel))
theorem dL_law_1253 : decode cL_law 1253 = .ok (.aload_n 2, 1) := dop_44 (lbg_19 (j := 37) (v := 0x2c) (by decide +kernel))
theorem dL_law_1254 : decode cL_law 1254 = .ok (.aload_n 0, 1) := dop_42 (lbg_19 (j := 38) (v := 0x2a) (by decide +kernel))
theorem dL_law_1255 : decode cL_law 1255 = .ok (.iload 4, 2) := dop_21 (lbg_19 (j := 39) (v := 0x15) (by decide +kernel)) (lbg_19 (j := 40) (v := 0x04) (by decide +kernel))
theorem dL_law_1257 : decode cL_law 1257 = .ok (.iconst 1, 1) := dop_4 (lbg_19 (j := 41) (v := 0x04) (by decide +kernel))
theorem dL_law_1258 : decode cL_law 1258 = .ok (.iadd, 1) := dop_96 (lbg_19 (j := 42) (v := 0x60) (by decide +kernel))
theorem dL_law_1259 : decode cL_law 1259 = .ok (.iaload, 1) := dop_46 (lbg_19 (j := 43) (v := 0x2e) (by decide +kernel))
theorem dL_law_1260 : decode cL_law 1260 = .ok (.invokevirtual 246, 3) := dop_182 (lbg_19 (j := 44) (v := 0xb6) (by decide +kernel)) (lbg_19 (j := 45) (v := 0x00) (by decide +kernel)) (lbg_19 (j := 46) (v := 0xf6) (by decide +kernel))
theorem dL_law_1263 : decode cL_law 1263 = .ok (.istore 6, 2) := dop_54 (lbg_19 (j := 47) (v := 0x36) (by decide +kernel)) (lbg_19 (j := 48) (v := 0x06) (by decide +kernel))
theorem dL_law_1265 : decode cL_law 1265 = .ok (.goto 738, 3) := dop_167 (lbg_19 (j := 49) (v := 0xa7) (by decide +kernel)) (lbg_19 (j := 50) (v := 0x02) (by decide +kernel)) (lbg_19 (j := 51) (v := 0xe2) (by decide +kernel)) (by decide +kernel)
theorem dL_law_1268 : decode cL_law 1268 = .ok (.aload_n 1, 1) := dop_43 (lbg_19 (j := 52) (v := 0x2b) (by decide +kernel))
theorem dL_law_1269 : decode cL_law 1269 = .ok (.aload_n 0, 1) := dop_42 (lbg_19 (j := 53) (v := 0x2a) (by decide +kernel))
theorem dL_law_1270 : decode cL_law 1270 = .ok (.iload 4, 2) := dop_21 (lbg_19 (j := 54) (v := 0x15) (by decide +kernel)) (lbg_19 (j := 55) (v := 0x04) (by decide +kernel))
theorem dL_law_1272 : decode cL_law 1272 = .ok (.iconst 1, 1) := dop_4 (lbg_19 (j := 56) (v := 0x04) (by decide +kernel))
theorem dL_law_1273 : decode cL_law 1273 = .ok (.iadd, 1) := dop_96 (lbg_19 (j := 57) (v := 0x60) (by decide +kernel))
theorem dL_law_1274 : decode cL_law 1274 = .ok (.iaload, 1) := dop_46 (lbg_19 (j := 58) (v := 0x2e) (by decide +kernel))
theorem dL_law_1275 : decode cL_law 1275 = .ok (.aload_n 3, 1) := dop_45 (lbg_19 (j := 59) (v := 0x2d) (by decide +kernel))
theorem dL_law_1276 : decode cL_law 1276 = .ok (.invokestatic 247, 3) := dop_184 (lbg_19 (j := 60) (v := 0xb8) (by decide +kernel)) (lbg_19 (j := 61) (v := 0x00) (by decide +kernel)) (lbg_19 (j := 62) (v := 0xf7) (by decide +kernel))
theorem dL_law_1279 : decode cL_law 1279 = .ok (.istore 5, 2) := dop_54 (lbg_19 (j := 63) (v := 0x36) (by decide +kernel)) (lbg_20 (j := 0) (v := 0x05) (by decide +kernel))
theorem dL_law_1281 : decode cL_law 1281 = .ok (.aload_n 2, 1) := dop_44 (lbg_20 (j := 1) (v := 0x2c) (by decide +kernel))
theorem dL_law_1282 : decode cL_law 1282 = .ok (.aload_n 0, 1) := dop_42 (lbg_20 (j := 2) (v := 0x2a) (by decide +kernel))
theorem dL_law_1283 : decode cL_law 1283 = .ok (.iload 4, 2) := dop_21 (lbg_20 (j := 3) (v := 0x15) (by decide +kernel)) (lbg_20 (j := 4) (v := 0x04) (by decide +kernel))
theorem dL_law_1285 : decode cL_law 1285 = .ok (.iconst 1, 1) := dop_4 (lbg_20 (j := 5) (v := 0x04) (by decide +kernel))
theorem dL_law_1286 : decode cL_law 1286 = .ok (.iadd, 1) := dop_96 (lbg_20 (j := 6) (v := 0x60) (by decide +kernel))
theorem dL_law_1287 : decode cL_law 1287 = .ok (.iaload, 1) := dop_46 (lbg_20 (j := 7) (v := 0x2e) (by decide +kernel))
theorem dL_law_1288 : decode cL_law 1288 = .ok (.invokevirtual 249, 3) := dop_182 (lbg_20 (j := 8) (v := 0xb6) (by decide +kernel)) (lbg_20 (j := 9) (v := 0x00) (by decide +kernel)) (lbg_20 (j := 10) (v := 0xf9) (by decide +kernel))
theorem dL_law_1291 : decode cL_law 1291 = .ok (.istore 6, 2) := dop_54 (lbg_20 (j := 11) (v := 0x36) (by decide +kernel)) (lbg_20 (j := 12) (v := 0x06) (by decide +kernel))
theorem dL_law_1293 : decode cL_law 1293 = .ok (.goto 710, 3) := dop_167 (lbg_20 (j := 13) (v := 0xa7) (by decide +kernel)) (lbg_20 (j := 14) (v := 0x02) (by decide +kernel)) (lbg_20 (j := 15) (v := 0xc6) (by decide +kernel)) (by decide +kernel)
theorem dL_law_1296 : decode cL_law 1296 = .ok (.aload_n 1, 1) := dop_43 (lbg_20 (j := 16) (v := 0x2b) (by decide +kernel))
theorem dL_law_1297 : decode cL_law 1297 = .ok (.aload_n 0, 1) := dop_42 (lbg_20 (j := 17) (v := 0x2a) (by decide +kernel))
theorem dL_law_1298 : decode cL_law 1298 = .ok (.iload 4, 2) := dop_21 (lbg_20 (j := 18) (v := 0x15) (by decide +kernel)) (lbg_20 (j := 19) (v := 0x04) (by decide +kernel))
theorem dL_law_1300 : decode cL_law 1300 = .ok (.iconst 1, 1) := dop_4 (lbg_20 (j := 20) (v := 0x04) (by decide +kernel))
theorem dL_law_1301 : decode cL_law 1301 = .ok (.iadd, 1) := dop_96 (lbg_20 (j := 21) (v := 0x60) (by decide +kernel))
theorem dL_law_1302 : decode cL_law 1302 = .ok (.iaload, 1) := dop_46 (lbg_20 (j := 22) (v := 0x2e) (by decide +kernel))
theorem dL_law_1303 : decode cL_law 1303 = .ok (.aload_n 3, 1) := dop_45 (lbg_20 (j := 23) (v := 0x2d) (by decide +kernel))
theorem dL_law_1304 : decode cL_law 1304 = .ok (.invokestatic 250, 3) := dop_184 (lbg_20 (j := 24) (v := 0xb8) (by decide +kernel)) (lbg_20 (j := 25) (v := 0x00) (by decide +kernel)) (lbg_20 (j := 26) (v := 0xfa) (by decide +kernel))
theorem dL_law_1307 : decode cL_law 1307 = .ok (.istore 5, 2) := dop_54 (lbg_20 (j := 27) (v := 0x36) (by decide +kernel)) (lbg_20 (j := 28) (v := 0x05) (by decide +kernel))
theorem dL_law_1309 : decode cL_law 1309 = .ok (.aload_n 2, 1) := dop_44 (lbg_20 (j := 29) (v := 0x2c) (by decide +kernel))
theorem dL_law_1310 : decode cL_law 1310 = .ok (.aload_n 0, 1) := dop_42 (lbg_20 (j := 30) (v := 0x2a) (by decide +kernel))
theorem dL_law_1311 : decode cL_law 1311 = .ok (.iload 4, 2) := dop_21 (lbg_20 (j := 31) (v := 0x15) (by decide +kernel)) (lbg_20 (j := 32) (v := 0x04) (by decide +kernel))
theorem dL_law_1313 : decode cL_law 1313 = .ok (.iconst 1, 1) := dop_4 (lbg_20 (j := 33) (v := 0x04) (by decide +kernel))
theorem dL_law_1314 : decode cL_law 1314 = .ok (.iadd, 1) := dop_96 (lbg_20 (j := 34) (v := 0x60) (by decide +kernel))
theorem dL_law_1315 : decode cL_law 1315 = .ok (.iaload, 1) := dop_46 (lbg_20 (j := 35) (v := 0x2e) (by decide +kernel))
theorem dL_law_1316 : decode cL_law 1316 = .ok (.invokevirtual 252, 3) := dop_182 (lbg_20 (j := 36) (v := 0xb6) (by decide +kernel)) (lbg_20 (j := 37) (v := 0x00) (by decide +kernel)) (lbg_20 (j := 38) (v := 0xfc) (by decide +kernel))
theorem dL_law_1319 : decode cL_law 1319 = .ok (.istore 6, 2) := dop_54 (lbg_20 (j := 39) (v := 0x36) (by decide +kernel)) (lbg_20 (j := 40) (v := 0x06) (by decide +kernel))
theorem dL_law_1321 : decode cL_law 1321 = .ok (.goto 682, 3) := dop_167 (lbg_20 (j := 41) (v := 0xa7) (by decide +kernel)) (lbg_20 (j := 42) (v := 0x02) (by decide +kernel)) (lbg_20 (j := 43) (v := 0xaa) (by decide +kernel)) (by decide +kernel)
theorem dL_law_1324 : decode cL_law 1324 = .ok (.aload_n 1, 1) := dop_43 (lbg_20 (j := 44) (v := 0x2b) (by decide +kernel))
theorem dL_law_1325 : decode cL_law 1325 = .ok (.aload_n 0, 1) := dop_42 (lbg_20 (j := 45) (v := 0x2a) (by decide +kernel))
theorem dL_law_1326 : decode cL_law 1326 = .ok (.iload 4, 2) := dop_21 (lbg_20 (j := 46) (v := 0x15) (by decide +kernel)) (lbg_20 (j := 47) (v := 0x04) (by decide +kernel))
theorem dL_law_1328 : decode cL_law 1328 = .ok (.iconst 1, 1) := dop_4 (lbg_20 (j := 48) (v := 0x04) (by decide +kernel))
theorem dL_law_1329 : decode cL_law 1329 = .ok (.iadd, 1) := dop_96 (lbg_20 (j := 49) (v := 0x60) (by decide +kernel))
theorem dL_law_1330 : decode cL_law 1330 = .ok (.iaload, 1) := dop_46 (lbg_20 (j := 50) (v := 0x2e) (by decide +kernel))
theorem dL_law_1331 : decode cL_law 1331 = .ok (.aload_n 0, 1) := dop_42 (lbg_20 (j := 51) (v := 0x2a) (by decide +kernel))
theorem dL_law_1332 : decode cL_law 1332 = .ok (.iload 4, 2) := dop_21 (lbg_20 (j := 52) (v := 0x15) (by decide +kernel)) (lbg_20 (j := 53) (v := 0x04) (by decide +kernel))
theorem dL_law_1334 : decode cL_law 1334 = .ok (.iconst 2, 1) := dop_5 (lbg_20 (j := 54) (v := 0x05) (by decide +kernel))
theorem dL_law_1335 : decode cL_law 1335 = .ok (.iadd, 1) := dop_96 (lbg_20 (j := 55) (v := 0x60) (by decide +kernel))
theorem dL_law_1336 : decode cL_law 1336 = .ok (.iaload, 1) := dop_46 (lbg_20 (j := 56) (v := 0x2e) (by decide +kernel))
theorem dL_law_1337 : decode cL_law 1337 = .ok (.aload_n 3, 1) := dop_45 (lbg_20 (j := 57) (v := 0x2d) (by decide +kernel))
theorem dL_law_1338 : decode cL_law 1338 = .ok (.invokestatic 253, 3) := dop_184 (lbg_20 (j := 58) (v := 0xb8) (by decide +kernel)) (lbg_20 (j := 59) (v := 0x00) (by decide +kernel)) (lbg_20 (j := 60) (v := 0xfd) (by decide +kernel))
theorem dL_law_1341 : decode cL_law 1341 = .ok (.istore 5, 2) := dop_54 (lbg_20 (j := 61) (v := 0x36) (by decide +kernel)) (lbg_20 (j := 62) (v := 0x05) (by decide +kernel))
theorem dL_law_1343 : decode cL_law 1343 = .ok (.aload_n 2, 1) := dop_44 (lbg_20 (j := 63) (v := 0x2c) (by decide +kernel))
theorem dL_law_1344 : decode cL_law 1344 = .ok (.aload_n 0, 1) := dop_42 (lbg_21 (j := 0) (v := 0x2a) (by decide +kernel))
theorem dL_law_1345 : decode cL_law 1345 = .ok (.iload 4, 2) := dop_21 (lbg_21 (j := 1) (v := 0x15) (by decide +kernel)) (lbg_21 (j := 2) (v := 0x04) (by decide +kernel))
theorem dL_law_1347 : decode cL_law 1347 = .ok (.iconst 1, 1) := dop_4 (lbg_21 (j := 3) (v := 0x04) (by decide +kernel))
theorem dL_law_1348 : decode cL_law 1348 = .ok (.iadd, 1) := dop_96 (lbg_21 (j := 4) (v := 0x60) (by decide +kernel))
theorem dL_law_1349 : decode cL_law 1349 = .ok (.iaload, 1) := dop_46 (lbg_21 (j := 5) (v := 0x2e) (by decide +kernel))
theorem dL_law_1350 : decode cL_law 1350 = .ok (.aload_n 0, 1) := dop_42 (lbg_21 (j := 6) (v := 0x2a) (by decide +kernel))
theorem dL_law_1351 : decode cL_law 1351 = .ok (.iload 4, 2) := dop_21 (lbg_21 (j := 7) (v := 0x15) (by decide +kernel)) (lbg_21 (j := 8) (v := 0x04) (by decide +kernel))
theorem dL_law_1353 : decode cL_law 1353 = .ok (.iconst 2, 1) := dop_5 (lbg_21 (j := 9) (v := 0x05) (by decide +kernel))
theorem dL_law_1354 : decode cL_law 1354 = .ok (.iadd, 1) := dop_96 (lbg_21 (j := 10) (v := 0x60) (by decide +kernel))
theorem dL_law_1355 : decode cL_law 1355 = .ok (.iaload, 1) := dop_46 (lbg_21 (j := 11) (v := 0x2e) (by decide +kernel))
theorem dL_law_1356 : decode cL_law 1356 = .ok (.invokevirtual 255, 3) := dop_182 (lbg_21 (j := 12) (v := 0xb6) (by decide +kernel)) (lbg_21 (j := 13) (v := 0x00) (by decide +kernel)) (lbg_21 (j := 14) (v := 0xff) (by decide +kernel))
theorem dL_law_1359 : decode cL_law 1359 = .ok (.istore 6, 2) := dop_54 (lbg_21 (j := 15) (v := 0x36) (by decide +kernel)) (lbg_21 (j := 16) (v := 0x06) (by decide +kernel))
theorem dL_law_1361 : decode cL_law 1361 = .ok (.goto 642, 3) := dop_167 (lbg_21 (j := 17) (v := 0xa7) (by decide +kernel)) (lbg_21 (j := 18) (v := 0x02) (by decide +kernel)) (lbg_21 (j := 19) (v := 0x82) (by decide +kernel)) (by decide +kernel)
theorem dL_law_1364 : decode cL_law 1364 = .ok (.aload_n 1, 1) := dop_43 (lbg_21 (j := 20) (v := 0x2b) (by decide +kernel))
theorem dL_law_1365 : decode cL_law 1365 = .ok (.aload_n 0, 1) := dop_42 (lbg_21 (j := 21) (v := 0x2a) (by decide +kernel))
theorem dL_law_1366 : decode cL_law 1366 = .ok (.iload 4, 2) := dop_21 (lbg_21 (j := 22) (v := 0x15) (by decide +kernel)) (lbg_21 (j := 23) (v := 0x04) (by decide +kernel))
theorem dL_law_1368 : decode cL_law 1368 = .ok (.iconst 1, 1) := dop_4 (lbg_21 (j := 24) (v := 0x04) (by decide +kernel))
theorem dL_law_1369 : decode cL_law 1369 = .ok (.iadd, 1) := dop_96 (lbg_21 (j := 25) (v := 0x60) (by decide +kernel))
theorem dL_law_1370 : decode cL_law 1370 = .ok (.iaload, 1) := dop_46 (lbg_21 (j := 26) (v := 0x2e) (by decide +kernel))
theorem dL_law_1371 : decode cL_law 1371 = .ok (.aload_n 3, 1) := dop_45 (lbg_21 (j := 27) (v := 0x2d) (by decide +kernel))
theorem dL_law_1372 : decode cL_law 1372 = .ok (.invokestatic 256, 3) := dop_184 (lbg_21 (j := 28) (v := 0xb8) (by decide +kernel)) (lbg_21 (j := 29) (v := 0x01) (by decide +kernel)) (lbg_21 (j := 30) (v := 0x00) (by decide +kernel))
theorem dL_law_1375 : decode cL_law 1375 = .ok (.istore 5, 2) := dop_54 (lbg_21 (j := 31) (v := 0x36) (by decide +kernel)) (lbg_21 (j := 32) (v := 0x05) (by decide +kernel))
theorem dL_law_1377 : decode cL_law 1377 = .ok (.aload_n 2, 1) := dop_44 (lbg_21 (j := 33) (v := 0x2c) (by decide +kernel))
theorem dL_law_1378 : decode cL_law 1378 = .ok (.aload_n 0, 1) := dop_42 (lbg_21 (j := 34) (v := 0x2a) (by decide +kernel))
theorem dL_law_1379 : decode cL_law 1379 = .ok (.iload 4, 2) := dop_21 (lbg_21 (j := 35) (v := 0x15) (by decide +kernel)) (lbg_21 (j := 36) (v := 0x04) (by decide +kernel))
theorem dL_law_1381 : decode cL_law 1381 = .ok (.iconst 1, 1) := dop_4 (lbg_21 (j := 37) (v := 0x04) (by decide +kernel))
theorem dL_law_1382 : decode cL_law 1382 = .ok (.iadd, 1) := dop_96 (lbg_21 (j := 38) (v := 0x60) (by decide +kernel))
theorem dL_law_1383 : decode cL_law 1383 = .ok (.iaload, 1) := dop_46 (lbg_21 (j := 39) (v := 0x2e) (by decide +kernel))
theorem dL_law_1384 : decode cL_law 1384 = .ok (.invokevirtual 258, 3) := dop_182 (lbg_21 (j := 40) (v := 0xb6) (by decide +kernel)) (lbg_21 (j := 41) (v := 0x01) (by decide +kernel)) (lbg_21 (j := 42) (v := 0x02) (by decide +kernel))
theorem dL_law_1387 : decode cL_law 1387 = .ok (.istore 6, 2) := dop_54 (lbg_21 (j := 43) (v := 0x36) (by decide +kernel)) (lbg_21 (j := 44) (v := 0x06) (by decide +kernel))
theorem dL_law_1389 : decode cL_law 1389 = .ok (.goto 614, 3) := dop_167 (lbg_21 (j := 45) (v := 0xa7) (by decide +kernel)) (lbg_21 (j := 46) (v := 0x02) (by decide +kernel)) (lbg_21 (j := 47) (v := 0x66) (by decide +kernel)) (by decide +kernel)
theorem dL_law_1392 : decode cL_law 1392 = .ok (.aload_n 1, 1) := dop_43 (lbg_21 (j := 48) (v := 0x2b) (by decide +kernel))
theorem dL_law_1393 : decode cL_law 1393 = .ok (.aload_n 0, 1) := dop_42 (lbg_21 (j := 49) (v := 0x2a) (by decide +kernel))
theorem dL_law_1394 : decode cL_law 1394 = .ok (.iload 4, 2) := dop_21 (lbg_21 (j := 50) (v := 0x15) (by decide +kernel)) (lbg_21 (j := 51) (v := 0x04) (by decide +kernel))
theorem dL_law_1396 : decode cL_law 1396 = .ok (.iconst 1, 1) := dop_4 (lbg_21 (j := 52) (v := 0x04) (by decide +kernel))
theorem dL_law_1397 : decode cL_law 1397 = .ok (.iadd, 1) := dop_96 (lbg_21 (j := 53) (v := 0x60) (by decide +kernel))
theorem dL_law_1398 : decode cL_law 1398 = .ok (.iaload, 1) := dop_46 (lbg_21 (j := 54) (v := 0x2e) (by decide +kernel))
theorem dL_law_1399 : decode cL_law 1399 = .ok (.aload_n 3, 1) := dop_45 (lbg_21 (j := 55) (v := 0x2d) (by decide +kernel))
theorem dL_law_1400 : decode cL_law 1400 = .ok (.invokestatic 259, 3) := dop_184 (lbg_21 (j := 56) (v := 0xb8) (by decide +kernel)) (lbg_21 (j := 57) (v := 0x01) (by decide +kernel)) (lbg_21 (j := 58) (v := 0x03) (by decide +kernel))
theorem dL_law_1403 : decode cL_law 1403 = .ok (.istore 5, 2) := dop_54 (lbg_21 (j := 59) (v := 0x36) (by decide +kernel)) (lbg_21 (j := 60) (v := 0x05) (by decide +kernel))
theorem dL_law_1405 : decode cL_law 1405 = .ok (.aload_n 2, 1) := dop_44 (lbg_21 (j := 61) (v := 0x2c) (by decide +kernel))
theorem dL_law_1406 : decode cL_law 1406 = .ok (.aload_n 0, 1) := dop_42 (lbg_21 (j := 62) (v := 0x2a) (by decide +kernel))
theorem dL_law_1407 : decode cL_law 1407 = .ok (.iload 4, 2) := dop_21 (lbg_21 (j := 63) (v := 0x15) (by decide +kernel)) (lbg_22 (j := 0) (v := 0x04) (by decide +kernel))
theorem dL_law_1409 : decode cL_law 1409 = .ok (.iconst 1, 1) := dop_4 (lbg_22 (j := 1) (v := 0x04) (by decide +kernel))
theorem dL_law_1410 : decode cL_law 1410 = .ok (.iadd, 1) := dop_96 (lbg_22 (j := 2) (v := 0x60) (by decide +kernel))
theorem dL_law_1411 : decode cL_law 1411 = .ok (.iaload, 1) := dop_46 (lbg_22 (j := 3) (v := 0x2e) (by decide +kernel))
theorem dL_law_1412 : decode cL_law 1412 = .ok (.invokevirtual 261, 3) := dop_182 (lbg_22 (j := 4) (v := 0xb6) (by decide +kernel)) (lbg_22 (j := 5) (v := 0x01) (by decide +kernel)) (lbg_22 (j := 6) (v := 0x05) (by decide +kernel))
theorem dL_law_1415 : decode cL_law 1415 = .ok (.istore 6, 2) := dop_54 (lbg_22 (j := 7) (v := 0x36) (by decide +kernel)) (lbg_22 (j := 8) (v := 0x06) (by decide +kernel))
theorem dL_law_1417 : decode cL_law 1417 = .ok (.goto 586, 3) := dop_167 (lbg_22 (j := 9) (v := 0xa7) (by decide +kernel)) (lbg_22 (j := 10) (v := 0x02) (by decide +kernel)) (lbg_22 (j := 11) (v := 0x4a) (by decide +kernel)) (by decide +kernel)
theorem dL_law_1420 : decode cL_law 1420 = .ok (.aload_n 1, 1) := dop_43 (lbg_22 (j := 12) (v := 0x2b) (by decide +kernel))
theorem dL_law_1421 : decode cL_law 1421 = .ok (.aload_n 0, 1) := dop_42 (lbg_22 (j := 13) (v := 0x2a) (by decide +kernel))
theorem dL_law_1422 : decode cL_law 1422 = .ok (.iload 4, 2) := dop_21 (lbg_22 (j := 14) (v := 0x15) (by decide +kernel)) (lbg_22 (j := 15) (v := 0x04) (by decide +kernel))
theorem dL_law_1424 : decode cL_law 1424 = .ok (.iconst 1, 1) := dop_4 (lbg_22 (j := 16) (v := 0x04) (by decide +kernel))
theorem dL_law_1425 : decode cL_law 1425 = .ok (.iadd, 1) := dop_96 (lbg_22 (j := 17) (v := 0x60) (by decide +kernel))
theorem dL_law_1426 : decode cL_law 1426 = .ok (.iaload, 1) := dop_46 (lbg_22 (j := 18) (v := 0x2e) (by decide +kernel))
theorem dL_law_1427 : decode cL_law 1427 = .ok (.aload_n 3, 1) := dop_45 (lbg_22 (j := 19) (v := 0x2d) (by decide +kernel))
theorem dL_law_1428 : decode cL_law 1428 = .ok (.invokestatic 262, 3) := dop_184 (lbg_22 (j := 20) (v := 0xb8) (by decide +kernel)) (lbg_22 (j := 21) (v := 0x01) (by decide +kernel)) (lbg_22 (j := 22) (v := 0x06) (by decide +kernel))
theorem dL_law_1431 : decode cL_law 1431 = .ok (.istore 5, 2) := dop_54 (lbg_22 (j := 23) (v := 0x36) (by decide +kernel)) (lbg_22 (j := 24) (v := 0x05) (by decide +kernel))
theorem dL_law_1433 : decode cL_law 1433 = .ok (.aload_n 2, 1) := dop_44 (lbg_22 (j := 25) (v := 0x2c) (by decide +kernel))
theorem dL_law_1434 : decode cL_law 1434 = .ok (.aload_n 0, 1) := dop_42 (lbg_22 (j := 26) (v := 0x2a) (by decide +kernel))
theorem dL_law_1435 : decode cL_law 1435 = .ok (.iload 4, 2) := dop_21 (lbg_22 (j := 27) (v := 0x15) (by decide +kernel)) (lbg_22 (j := 28) (v := 0x04) (by decide +kernel))
theorem dL_law_1437 : decode cL_law 1437 = .ok (.iconst 1, 1) := dop_4 (lbg_22 (j := 29) (v := 0x04) (by decide +kernel))
theorem dL_law_1438 : decode cL_law 1438 = .ok (.iadd, 1) := dop_96 (lbg_22 (j := 30) (v := 0x60) (by decide +kernel))
theorem dL_law_1439 : decode cL_law 1439 = .ok (.iaload, 1) := dop_46 (lbg_22 (j := 31) (v := 0x2e) (by decide +kernel))
theorem dL_law_1440 : decode cL_law 1440 = .ok (.invokevirtual 264, 3) := dop_182 (lbg_22 (j := 32) (v := 0xb6) (by decide +kernel)) (lbg_22 (j := 33) (v := 0x01) (by decide +kernel)) (lbg_22 (j := 34) (v := 0x08) (by decide +kernel))
theorem dL_law_1443 : decode cL_law 1443 = .ok (.istore 6, 2) := dop_54 (lbg_22 (j := 35) (v := 0x36) (by decide +kernel)) (lbg_22 (j := 36) (v := 0x06) (by decide +kernel))
theorem dL_law_1445 : decode cL_law 1445 = .ok (.goto 558, 3) := dop_167 (lbg_22 (j := 37) (v := 0xa7) (by decide +kernel)) (lbg_22 (j := 38) (v := 0x02) (by decide +kernel)) (lbg_22 (j := 39) (v := 0x2e) (by decide +kernel)) (by decide +kernel)
theorem dL_law_1448 : decode cL_law 1448 = .ok (.aload_n 1, 1) := dop_43 (lbg_22 (j := 40) (v := 0x2b) (by decide +kernel))
theorem dL_law_1449 : decode cL_law 1449 = .ok (.aload_n 0, 1) := dop_42 (lbg_22 (j := 41) (v := 0x2a) (by decide +kernel))
theorem dL_law_1450 : decode cL_law 1450 = .ok (.iload 4, 2) := dop_21 (lbg_22 (j := 42) (v := 0x15) (by decide +kernel)) (lbg_22 (j := 43) (v := 0x04) (by decide +kernel))
theorem dL_law_1452 : decode cL_law 1452 = .ok (.iconst 1, 1) := dop_4 (lbg_22 (j := 44) (v := 0x04) (by decide +kernel))
theorem dL_law_1453 : decode cL_law 1453 = .ok (.iadd, 1) := dop_96 (lbg_22 (j := 45) (v := 0x60) (by decide +kernel))
theorem dL_law_1454 : decode cL_law 1454 = .ok (.iaload, 1) := dop_46 (lbg_22 (j := 46) (v := 0x2e) (by decide +kernel))
theorem dL_law_1455 : decode cL_law 1455 = .ok (.aload_n 3, 1) := dop_45 (lbg_22 (j := 47) (v := 0x2d) (by decide +kernel))
theorem dL_law_1456 : decode cL_law 1456 = .ok (.invokestatic 265, 3) := dop_184 (lbg_22 (j := 48) (v := 0xb8) (by decide +kernel)) (lbg_22 (j := 49) (v := 0x01) (by decide +kernel)) (lbg_22 (j := 50) (v := 0x09) (by decide +kernel))
theorem dL_law_1459 : decode cL_law 1459 = .ok (.istore 5, 2) := dop_54 (lbg_22 (j := 51) (v := 0x36) (by decide +kernel)) (lbg_22 (j := 52) (v := 0x05) (by decide +kernel))
theorem dL_law_1461 : decode cL_law 1461 = .ok (.aload_n 2, 1) := dop_44 (lbg_22 (j := 53) (v := 0x2c) (by decide +kernel))
theorem dL_law_1462 : decode cL_law 1462 = .ok (.aload_n 0, 1) := dop_42 (lbg_22 (j := 54) (v := 0x2a) (by decide +kernel))
theorem dL_law_1463 : decode cL_law 1463 = .ok (.iload 4, 2) := dop_21 (lbg_22 (j := 55) (v := 0x15) (by decide +kernel)) (lbg_22 (j := 56) (v := 0x04) (by decide +kernel))
theorem dL_law_1465 : decode cL_law 1465 = .ok (.iconst 1, 1) := dop_4 (lbg_22 (j := 57) (v := 0x04) (by decide +kernel))
theorem dL_law_1466 : decode cL_law 1466 = .ok (.iadd, 1) := dop_96 (lbg_22 (j := 58) (v := 0x60) (by decide +kernel))
theorem dL_law_1467 : decode cL_law 1467 = .ok (.iaload, 1) := dop_46 (lbg_22 (j := 59) (v := 0x2e) (by decide +kernel))
theorem dL_law_1468 : decode cL_law 1468 = .ok (.invokevirtual 267, 3) := dop_182 (lbg_22 (j := 60) (v := 0xb6) (by decide +kernel)) (lbg_22 (j := 61) (v := 0x01) (by decide +kernel)) (lbg_22 (j := 62) (v := 0x0b) (by decide +kernel))
theorem dL_law_1471 : decode cL_law 1471 = .ok (.istore 6, 2) := dop_54 (lbg_22 (j := 63) (v := 0x36) (by decide +kernel)) (lbg_23 (j := 0) (v := 0x06) (by decide +kernel))
theorem dL_law_1473 : decode cL_law 1473 = .ok (.goto 530, 3) := dop_167 (lbg_23 (j := 1) (v := 0xa7) (by decide +kernel)) (lbg_23 (j := 2) (v := 0x02) (by decide +kernel)) (lbg_23 (j := 3) (v := 0x12) (by decide +kernel)) (by decide +kernel)
theorem dL_law_1476 : decode cL_law 1476 = .ok (.aload_n 1, 1) := dop_43 (lbg_23 (j := 4) (v := 0x2b) (by decide +kernel))
theorem dL_law_1477 : decode cL_law 1477 = .ok (.aload_n 0, 1) := dop_42 (lbg_23 (j := 5) (v := 0x2a) (by decide +kernel))
theorem dL_law_1478 : decode cL_law 1478 = .ok (.iload 4, 2) := dop_21 (lbg_23 (j := 6) (v := 0x15) (by decide +kernel)) (lbg_23 (j := 7) (v := 0x04) (by decide +kernel))
theorem dL_law_1480 : decode cL_law 1480 = .ok (.iconst 1, 1) := dop_4 (lbg_23 (j := 8) (v := 0x04) (by decide +kernel))
theorem dL_law_1481 : decode cL_law 1481 = .ok (.iadd, 1) := dop_96 (lbg_23 (j := 9) (v := 0x60) (by decide +kernel))
theorem dL_law_1482 : decode cL_law 1482 = .ok (.iaload, 1) := dop_46 (lbg_23 (j := 10) (v := 0x2e) (by decide +kernel))
theorem dL_law_1483 : decode cL_law 1483 = .ok (.aload_n 0, 1) := dop_42 (lbg_23 (j := 11) (v := 0x2a) (by decide +kernel))
theorem dL_law_1484 : decode cL_law 1484 = .ok (.iload 4, 2) := dop_21 (lbg_23 (j := 12) (v := 0x15) (by decide +kernel)) (lbg_23 (j := 13) (v := 0x04) (by decide +kernel))
theorem dL_law_1486 : decode cL_law 1486 = .ok (.iconst 2, 1) := dop_5 (lbg_23 (j := 14) (v := 0x05) (by decide +kernel))
theorem dL_law_1487 : decode cL_law 1487 = .ok (.iadd, 1) := dop_96 (lbg_23 (j := 15) (v := 0x60) (by decide +kernel))
theorem dL_law_1488 : decode cL_law 1488 = .ok (.iaload, 1) := dop_46 (lbg_23 (j := 16) (v := 0x2e) (by decide +kernel))
theorem dL_law_1489 : decode cL_law 1489 = .ok (.aload_n 3, 1) := dop_45 (lbg_23 (j := 17) (v := 0x2d) (by decide +kernel))
theorem dL_law_1490 : decode cL_law 1490 = .ok (.invokestatic 268, 3) := dop_184 (lbg_23 (j := 18) (v := 0xb8) (by decide +kernel)) (lbg_23 (j := 19) (v := 0x01) (by decide +kernel)) (lbg_23 (j := 20) (v := 0x0c) (by decide +kernel))
theorem dL_law_1493 : decode cL_law 1493 = .ok (.istore 5, 2) := dop_54 (lbg_23 (j := 21) (v := 0x36) (by decide +kernel)) (lbg_23 (j := 22) (v := 0x05) (by decide +kernel))
theorem dL_law_1495 : decode cL_law 1495 = .ok (.aload_n 2, 1) := dop_44 (lbg_23 (j := 23) (v := 0x2c) (by decide +kernel))
theorem dL_law_1496 : decode cL_law 1496 = .ok (.aload_n 0, 1) := dop_42 (lbg_23 (j := 24) (v := 0x2a) (by decide +kernel))
theorem dL_law_1497 : decode cL_law 1497 = .ok (.iload 4, 2) := dop_21 (lbg_23 (j := 25) (v := 0x15) (by decide +kernel)) (lbg_23 (j := 26) (v := 0x04) (by decide +kernel))
theorem dL_law_1499 : decode cL_law 1499 = .ok (.iconst 1, 1) := dop_4 (lbg_23 (j := 27) (v := 0x04) (by decide +kernel))
theorem dL_law_1500 : decode cL_law 1500 = .ok (.iadd, 1) := dop_96 (lbg_23 (j := 28) (v := 0x60) (by decide +kernel))
theorem dL_law_1501 : decode cL_law 1501 = .ok (.iaload, 1) := dop_46 (lbg_23 (j := 29) (v := 0x2e) (by decide +kernel))
theorem dL_law_1502 : decode cL_law 1502 = .ok (.aload_n 0, 1) := dop_42 (lbg_23 (j := 30) (v := 0x2a) (by decide +kernel))
theorem dL_law_1503 : decode cL_law 1503 = .ok (.iload 4, 2) := dop_21 (lbg_23 (j := 31) (v := 0x15) (by decide +kernel)) (lbg_23 (j := 32) (v := 0x04) (by decide +kernel))
theorem dL_law_1505 : decode cL_law 1505 = .ok (.iconst 2, 1) := dop_5 (lbg_23 (j := 33) (v := 0x05) (by decide +kernel))
theorem dL_law_1506 : decode cL_law 1506 = .ok (.iadd, 1) := dop_96 (lbg_23 (j := 34) (v := 0x60) (by decide +kernel))
theorem dL_law_1507 : decode cL_law 1507 = .ok (.iaload, 1) := dop_46 (lbg_23 (j := 35) (v := 0x2e) (by decide +kernel))
theorem dL_law_1508 : decode cL_law 1508 = .ok (.invokevirtual 270, 3) := dop_182 (lbg_23 (j := 36) (v := 0xb6) (by decide +kernel)) (lbg_23 (j := 37) (v := 0x01) (by decide +kernel)) (lbg_23 (j := 38) (v := 0x0e) (by decide +kernel))
theorem dL_law_1511 : decode cL_law 1511 = .ok (.istore 6, 2) := dop_54 (lbg_23 (j := 39) (v := 0x36) (by decide +kernel)) (lbg_23 (j := 40) (v := 0x06) (by decide +kernel))
theorem dL_law_1513 : decode cL_law 1513 = .ok (.goto 490, 3) := dop_167 (lbg_23 (j := 41) (v := 0xa7) (by decide +kernel)) (lbg_23 (j := 42) (v := 0x01) (by decide +kernel)) (lbg_23 (j := 43) (v := 0xea) (by decide +kernel)) (by decide +kernel)
theorem dL_law_1516 : decode cL_law 1516 = .ok (.aload_n 1, 1) := dop_43 (lbg_23 (j := 44) (v := 0x2b) (by decide +kernel))
theorem dL_law_1517 : decode cL_law 1517 = .ok (.aload_n 0, 1) := dop_42 (lbg_23 (j := 45) (v := 0x2a) (by decide +kernel))
theorem dL_law_1518 : decode cL_law 1518 = .ok (.iload 4, 2) := dop_21 (lbg_23 (j := 46) (v := 0x15) (by decide +kernel)) (lbg_23 (j := 47) (v := 0x04) (by decide +kernel))
theorem dL_law_1520 : decode cL_law 1520 = .ok (.iconst 1, 1) := dop_4 (lbg_23 (j := 48) (v := 0x04) (by decide +kernel))
theorem dL_law_1521 : decode cL_law 1521 = .ok (.iadd, 1) := dop_96 (lbg_23 (j := 49) (v := 0x60) (by decide +kernel))
theorem dL_law_1522 : decode cL_law 1522 = .ok (.iaload, 1) := dop_46 (lbg_23 (j := 50) (v := 0x2e) (by decide +kernel))
theorem dL_law_1523 : decode cL_law 1523 = .ok (.aload_n 0, 1) := dop_42 (lbg_23 (j := 51) (v := 0x2a) (by decide +kernel))
theorem dL_law_1524 : decode cL_law 1524 = .ok (.iload 4, 2) := dop_21 (lbg_23 (j := 52) (v := 0x15) (by decide +kernel)) (lbg_23 (j := 53) (v := 0x04) (by decide +kernel))
theorem dL_law_1526 : decode cL_law 1526 = .ok (.iconst 2, 1) := dop_5 (lbg_23 (j := 54) (v := 0x05) (by decide +kernel))
theorem dL_law_1527 : decode cL_law 1527 = .ok (.iadd, 1) := dop_96 (lbg_23 (j := 55) (v := 0x60) (by decide +kernel))
theorem dL_law_1528 : decode cL_law 1528 = .ok (.iaload, 1) := dop_46 (lbg_23 (j := 56) (v := 0x2e) (by decide +kernel))
theorem dL_law_1529 : decode cL_law 1529 = .ok (.aload_n 3, 1) := dop_45 (lbg_23 (j := 57) (v := 0x2d) (by decide +kernel))
theorem dL_law_1530 : decode cL_law 1530 = .ok (.invokestatic 271, 3) := dop_184 (lbg_23 (j := 58) (v := 0xb8) (by decide +kernel)) (lbg_23 (j := 59) (v := 0x01) (by decide +kernel)) (lbg_23 (j := 60) (v := 0x0f) (by decide +kernel))
theorem dL_law_1533 : decode cL_law 1533 = .ok (.istore 5, 2) := dop_54 (lbg_23 (j := 61) (v := 0x36) (by decide +kernel)) (lbg_23 (j := 62) (v := 0x05) (by decide +kernel))
theorem dL_law_1535 : decode cL_law 1535 = .ok (.aload_n 2, 1) := dop_44 (lbg_23 (j := 63) (v := 0x2c) (by decide +kernel))
theorem dL_law_1536 : decode cL_law 1536 = .ok (.aload_n 0, 1) := dop_42 (lbg_24 (j := 0) (v := 0x2a) (by decide +kernel))
theorem dL_law_1537 : decode cL_law 1537 = .ok (.iload 4, 2) := dop_21 (lbg_24 (j := 1) (v := 0x15) (by decide +kernel)) (lbg_24 (j := 2) (v := 0x04) (by decide +kernel))
theorem dL_law_1539 : decode cL_law 1539 = .ok (.iconst 1, 1) := dop_4 (lbg_24 (j := 3) (v := 0x04) (by decide +kernel))
theorem dL_law_1540 : decode cL_law 1540 = .ok (.iadd, 1) := dop_96 (lbg_24 (j := 4) (v := 0x60) (by decide +kernel))
theorem dL_law_1541 : decode cL_law 1541 = .ok (.iaload, 1) := dop_46 (lbg_24 (j := 5) (v := 0x2e) (by decide +kernel))
theorem dL_law_1542 : decode cL_law 1542 = .ok (.aload_n 0, 1) := dop_42 (lbg_24 (j := 6) (v := 0x2a) (by decide +kernel))
theorem dL_law_1543 : decode cL_law 1543 = .ok (.iload 4, 2) := dop_21 (lbg_24 (j := 7) (v := 0x15) (by decide +kernel)) (lbg_24 (j := 8) (v := 0x04) (by decide +kernel))
theorem dL_law_1545 : decode cL_law 1545 = .ok (.iconst 2, 1) := dop_5 (lbg_24 (j := 9) (v := 0x05) (by decide +kernel))
theorem dL_law_1546 : decode cL_law 1546 = .ok (.iadd, 1) := dop_96 (lbg_24 (j := 10) (v := 0x60) (by decide +kernel))
theorem dL_law_1547 : decode cL_law 1547 = .ok (.iaload, 1) := dop_46 (lbg_24 (j := 11) (v := 0x2e) (by decide +kernel))
theorem dL_law_1548 : decode cL_law 1548 = .ok (.invokevirtual 273, 3) := dop_182 (lbg_24 (j := 12) (v := 0xb6) (by decide +kernel)) (lbg_24 (j := 13) (v := 0x01) (by decide +kernel)) (lbg_24 (j := 14) (v := 0x11) (by decide +kernel))
theorem dL_law_1551 : decode cL_law 1551 = .ok (.istore 6, 2) := dop_54 (lbg_24 (j := 15) (v := 0x36) (by decide +kernel)) (lbg_24 (j := 16) (v := 0x06) (by decide +kernel))
theorem dL_law_1553 : decode cL_law 1553 = .ok (.goto 450, 3) := dop_167 (lbg_24 (j := 17) (v := 0xa7) (by decide +kernel)) (lbg_24 (j := 18) (v := 0x01) (by decide +kernel)) (lbg_24 (j := 19) (v := 0xc2) (by decide +kernel)) (by decide +kernel)
theorem dL_law_1556 : decode cL_law 1556 = .ok (.aload_n 1, 1) := dop_43 (lbg_24 (j := 20) (v := 0x2b) (by decide +kernel))
theorem dL_law_1557 : decode cL_law 1557 = .ok (.aload_n 0, 1) := dop_42 (lbg_24 (j := 21) (v := 0x2a) (by decide +kernel))
theorem dL_law_1558 : decode cL_law 1558 = .ok (.iload 4, 2) := dop_21 (lbg_24 (j := 22) (v := 0x15) (by decide +kernel)) (lbg_24 (j := 23) (v := 0x04) (by decide +kernel))
theorem dL_law_1560 : decode cL_law 1560 = .ok (.iconst 1, 1) := dop_4 (lbg_24 (j := 24) (v := 0x04) (by decide +kernel))
theorem dL_law_1561 : decode cL_law 1561 = .ok (.iadd, 1) := dop_96 (lbg_24 (j := 25) (v := 0x60) (by decide +kernel))
theorem dL_law_1562 : decode cL_law 1562 = .ok (.iaload, 1) := dop_46 (lbg_24 (j := 26) (v := 0x2e) (by decide +kernel))
theorem dL_law_1563 : decode cL_law 1563 = .ok (.aload_n 0, 1) := dop_42 (lbg_24 (j := 27) (v := 0x2a) (by decide +kernel))
theorem dL_law_1564 : decode cL_law 1564 = .ok (.iload 4, 2) := dop_21 (lbg_24 (j := 28) (v := 0x15) (by decide +kernel)) (lbg_24 (j := 29) (v := 0x04) (by decide +kernel))
theorem dL_law_1566 : decode cL_law 1566 = .ok (.iconst 2, 1) := dop_5 (lbg_24 (j := 30) (v := 0x05) (by decide +kernel))
theorem dL_law_1567 : decode cL_law 1567 = .ok (.iadd, 1) := dop_96 (lbg_24 (j := 31) (v := 0x60) (by decide +kernel))
theorem dL_law_1568 : decode cL_law 1568 = .ok (.iaload, 1) := dop_46 (lbg_24 (j := 32) (v := 0x2e) (by decide +kernel))
theorem dL_law_1569 : decode cL_law 1569 = .ok (.aload_n 0, 1) := dop_42 (lbg_24 (j := 33) (v := 0x2a) (by decide +kernel))
theorem dL_law_1570 : decode cL_law 1570 = .ok (.iload 4, 2) := dop_21 (lbg_24 (j := 34) (v := 0x15) (by decide +kernel)) (lbg_24 (j := 35) (v := 0x04) (by decide +kernel))
theorem dL_law_1572 : decode cL_law 1572 = .ok (.iconst 3, 1) := dop_6 (lbg_24 (j := 36) (v := 0x06) (by decide +kernel))
theorem dL_law_1573 : decode cL_law 1573 = .ok (.iadd, 1) := dop_96 (lbg_24 (j := 37) (v := 0x60) (by decide +kernel))
theorem dL_law_1574 : decode cL_law 1574 = .ok (.iaload, 1) := dop_46 (lbg_24 (j := 38) (v := 0x2e) (by decide +kernel))
theorem dop_153 {a : ByteArray} {pc : Nat} (h0 : a.data.toList[pc]? = some 153) {x y : UInt8} (h1 : a.data.toList[pc + 1]? = some x) (h2 : a.data.toList[pc + 1 + 1]? = some y) {z : Int} (hz : Reader.signed 16 (x.toNat * 256 + y.toNat) = z) : decode a pc = .ok (.ifCond .eq z, 3) := by
  subst hz
  refine (dec_step (q := pc + 3) ?_).trans (by rw [Nat.add_sub_cancel_left])
  unfold Decoder.instr
  rw [bind_ok (u1_of h0)]
  show (((Reader.s2 : Decoder Int) >>= fun y => (pure (.ifCond .eq y) : Decoder Instr)).run a).run (pc + 1) = _
  rw [bind_ok (s2_of h1 h2)]
  rfl
theorem dL_law_1575 : decode cL_law 1575 = .ok (.ifCond .eq 7, 3) := dop_153 (lbg_24 (j := 39) (v := 0x99) (by decide +kernel)) (lbg_24 (j := 40) (v := 0x00) (by decide +kernel)) (lbg_24 (j := 41) (v := 0x07) (by decide +kernel)) (by decide +kernel)
theorem dL_law_1578 : decode cL_law 1578 = .ok (.iconst 1, 1) := dop_4 (lbg_24 (j := 42) (v := 0x04) (by decide +kernel))
theorem dL_law_1579 : decode cL_law 1579 = .ok (.goto 4, 3) := dop_167 (lbg_24 (j := 43) (v := 0xa7) (by decide +kernel)) (lbg_24 (j := 44) (v := 0x00) (by decide +kernel)) (lbg_24 (j := 45) (v := 0x04) (by decide +kernel)) (by decide +kernel)
theorem dL_law_1582 : decode cL_law 1582 = .ok (.iconst 0, 1) := dop_3 (lbg_24 (j := 46) (v := 0x03) (by decide +kernel))
theorem dL_law_1583 : decode cL_law 1583 = .ok (.aload_n 3, 1) := dop_45 (lbg_24 (j := 47) (v := 0x2d) (by decide +kernel))
theorem dL_law_1584 : decode cL_law 1584 = .ok (.invokestatic 274, 3) := dop_184 (lbg_24 (j := 48) (v := 0xb8) (by decide +kernel)) (lbg_24 (j := 49) (v := 0x01) (by decide +kernel)) (lbg_24 (j := 50) (v := 0x12) (by decide +kernel))
theorem dL_law_1587 : decode cL_law 1587 = .ok (.istore 5, 2) := dop_54 (lbg_24 (j := 51) (v := 0x36) (by decide +kernel)) (lbg_24 (j := 52) (v := 0x05) (by decide +kernel))
theorem dL_law_1589 : decode cL_law 1589 = .ok (.aload_n 2, 1) := dop_44 (lbg_24 (j := 53) (v := 0x2c) (by decide +kernel))
theorem dL_law_1590 : decode cL_law 1590 = .ok (.aload_n 0, 1) := dop_42 (lbg_24 (j := 54) (v := 0x2a) (by decide +kernel))
theorem dL_law_1591 : decode cL_law 1591 = .ok (.iload 4, 2) := dop_21 (lbg_24 (j := 55) (v := 0x15) (by decide +kernel)) (lbg_24 (j := 56) (v := 0x04) (by decide +kernel))
theorem dL_law_1593 : decode cL_law 1593 = .ok (.iconst 1, 1) := dop_4 (lbg_24 (j := 57) (v := 0x04) (by decide +kernel))
theorem dL_law_1594 : decode cL_law 1594 = .ok (.iadd, 1) := dop_96 (lbg_24 (j := 58) (v := 0x60) (by decide +kernel))
theorem dL_law_1595 : decode cL_law 1595 = .ok (.iaload, 1) := dop_46 (lbg_24 (j := 59) (v := 0x2e) (by decide +kernel))
theorem dL_law_1596 : decode cL_law 1596 = .ok (.aload_n 0, 1) := dop_42 (lbg_24 (j := 60) (v := 0x2a) (by decide +kernel))
theorem dL_law_1597 : decode cL_law 1597 = .ok (.iload 4, 2) := dop_21 (lbg_24 (j := 61) (v := 0x15) (by decide +kernel)) (lbg_24 (j := 62) (v := 0x04) (by decide +kernel))
theorem dL_law_1599 : decode cL_law 1599 = .ok (.iconst 2, 1) := dop_5 (lbg_24 (j := 63) (v := 0x05) (by decide +kernel))
theorem dL_law_1600 : decode cL_law 1600 = .ok (.iadd, 1) := dop_96 (lbg_25 (j := 0) (v := 0x60) (by decide +kernel))
theorem dL_law_1601 : decode cL_law 1601 = .ok (.iaload, 1) := dop_46 (lbg_25 (j := 1) (v := 0x2e) (by decide +kernel))
theorem dL_law_1602 : decode cL_law 1602 = .ok (.aload_n 0, 1) := dop_42 (lbg_25 (j := 2) (v := 0x2a) (by decide +kernel))
theorem dL_law_1603 : decode cL_law 1603 = .ok (.iload 4, 2) := dop_21 (lbg_25 (j := 3) (v := 0x15) (by decide +kernel)) (lbg_25 (j := 4) (v := 0x04) (by decide +kernel))
theorem dL_law_1605 : decode cL_law 1605 = .ok (.iconst 3, 1) := dop_6 (lbg_25 (j := 5) (v := 0x06) (by decide +kernel))
theorem dL_law_1606 : decode cL_law 1606 = .ok (.iadd, 1) := dop_96 (lbg_25 (j := 6) (v := 0x60) (by decide +kernel))
theorem dL_law_1607 : decode cL_law 1607 = .ok (.iaload, 1) := dop_46 (lbg_25 (j := 7) (v := 0x2e) (by decide +kernel))
theorem dL_law_1608 : decode cL_law 1608 = .ok (.ifCond .eq 7, 3) := dop_153 (lbg_25 (j := 8) (v := 0x99) (by decide +kernel)) (lbg_25 (j := 9) (v := 0x00) (by decide +kernel)) (lbg_25 (j := 10) (v := 0x07) (by decide +kernel)) (by decide +kernel)
theorem dL_law_1611 : decode cL_law 1611 = .ok (.iconst 1, 1) := dop_4 (lbg_25 (j := 11) (v := 0x04) (by decide +kernel))
theorem dL_law_1612 : decode cL_law 1612 = .ok (.goto 4, 3) := dop_167 (lbg_25 (j := 12) (v := 0xa7) (by decide +kernel)) (lbg_25 (j := 13) (v := 0x00) (by decide +kernel)) (lbg_25 (j := 14) (v := 0x04) (by decide +kernel)) (by decide +kernel)
theorem dL_law_1615 : decode cL_law 1615 = .ok (.iconst 0, 1) := dop_3 (lbg_25 (j := 15) (v := 0x03) (by decide +kernel))
theorem dL_law_1616 : decode cL_law 1616 = .ok (.invokevirtual 277, 3) := dop_182 (lbg_25 (j := 16) (v := 0xb6) (by decide +kernel)) (lbg_25 (j := 17) (v := 0x01) (by decide +kernel)) (lbg_25 (j := 18) (v := 0x15) (by decide +kernel))
theorem dL_law_1619 : decode cL_law 1619 = .ok (.istore 6, 2) := dop_54 (lbg_25 (j := 19) (v := 0x36) (by decide +kernel)) (lbg_25 (j := 20) (v := 0x06) (by decide +kernel))
theorem dL_law_1621 : decode cL_law 1621 = .ok (.goto 382, 3) := dop_167 (lbg_25 (j := 21) (v := 0xa7) (by decide +kernel)) (lbg_25 (j := 22) (v := 0x01) (by decide +kernel)) (lbg_25 (j := 23) (v := 0x7e) (by decide +kernel)) (by decide +kernel)
theorem dL_law_1624 : decode cL_law 1624 = .ok (.aload_n 1, 1) := dop_43 (lbg_25 (j := 24) (v := 0x2b) (by decide +kernel))
theorem dL_law_1625 : decode cL_law 1625 = .ok (.aload_n 0, 1) := dop_42 (lbg_25 (j := 25) (v := 0x2a) (by decide +kernel))
theorem dL_law_1626 : decode cL_law 1626 = .ok (.iload 4, 2) := dop_21 (lbg_25 (j := 26) (v := 0x15) (by decide +kernel)) (lbg_25 (j := 27) (v := 0x04) (by decide +kernel))
theorem dL_law_1628 : decode cL_law 1628 = .ok (.iconst 1, 1) := dop_4 (lbg_25 (j := 28) (v := 0x04) (by decide +kernel))
theorem dL_law_1629 : decode cL_law 1629 = .ok (.iadd, 1) := dop_96 (lbg_25 (j := 29) (v := 0x60) (by decide +kernel))
theorem dL_law_1630 : decode cL_law 1630 = .ok (.iaload, 1) := dop_46 (lbg_25 (j := 30) (v := 0x2e) (by decide +kernel))
theorem dL_law_1631 : decode cL_law 1631 = .ok (.aload_n 0, 1) := dop_42 (lbg_25 (j := 31) (v := 0x2a) (by decide +kernel))
theorem dL_law_1632 : decode cL_law 1632 = .ok (.iload 4, 2) := dop_21 (lbg_25 (j := 32) (v := 0x15) (by decide +kernel)) (lbg_25 (j := 33) (v := 0x04) (by decide +kernel))
theorem dL_law_1634 : decode cL_law 1634 = .ok (.iconst 2, 1) := dop_5 (lbg_25 (j := 34) (v := 0x05) (by decide +kernel))
theorem dL_law_1635 : decode cL_law 1635 = .ok (.iadd, 1) := dop_96 (lbg_25 (j := 35) (v := 0x60) (by decide +kernel))
theorem dL_law_1636 : decode cL_law 1636 = .ok (.iaload, 1) := dop_46 (lbg_25 (j := 36) (v := 0x2e) (by decide +kernel))
theorem dL_law_1637 : decode cL_law 1637 = .ok (.ifCond .eq 7, 3) := dop_153 (lbg_25 (j := 37) (v := 0x99) (by decide +kernel)) (lbg_25 (j := 38) (v := 0x00) (by decide +kernel)) (lbg_25 (j := 39) (v := 0x07) (by decide +kernel)) (by decide +kernel)
theorem dL_law_1640 : decode cL_law 1640 = .ok (.iconst 1, 1) := dop_4 (lbg_25 (j := 40) (v := 0x04) (by decide +kernel))
theorem dL_law_1641 : decode cL_law 1641 = .ok (.goto 4, 3) := dop_167 (lbg_25 (j := 41) (v := 0xa7) (by decide +kernel)) (lbg_25 (j := 42) (v := 0x00) (by decide +kernel)) (lbg_25 (j := 43) (v := 0x04) (by decide +kernel)) (by decide +kernel)
theorem dL_law_1644 : decode cL_law 1644 = .ok (.iconst 0, 1) := dop_3 (lbg_25 (j := 44) (v := 0x03) (by decide +kernel))
theorem dL_law_1645 : decode cL_law 1645 = .ok (.aload_n 3, 1) := dop_45 (lbg_25 (j := 45) (v := 0x2d) (by decide +kernel))
theorem dL_law_1646 : decode cL_law 1646 = .ok (.invokestatic 278, 3) := dop_184 (lbg_25 (j := 46) (v := 0xb8) (by decide +kernel)) (lbg_25 (j := 47) (v := 0x01) (by decide +kernel)) (lbg_25 (j := 48) (v := 0x16) (by decide +kernel))
theorem dL_law_1649 : decode cL_law 1649 = .ok (.istore 5, 2) := dop_54 (lbg_25 (j := 49) (v := 0x36) (by decide +kernel)) (lbg_25 (j := 50) (v := 0x05) (by decide +kernel))
theorem dL_law_1651 : decode cL_law 1651 = .ok (.aload_n 2, 1) := dop_44 (lbg_25 (j := 51) (v := 0x2c) (by decide +kernel))
theorem dL_law_1652 : decode cL_law 1652 = .ok (.aload_n 0, 1) := dop_42 (lbg_25 (j := 52) (v := 0x2a) (by decide +kernel))
theorem dL_law_1653 : decode cL_law 1653 = .ok (.iload 4, 2) := dop_21 (lbg_25 (j := 53) (v := 0x15) (by decide +kernel)) (lbg_25 (j := 54) (v := 0x04) (by decide +kernel))
theorem dL_law_1655 : decode cL_law 1655 = .ok (.iconst 1, 1) := dop_4 (lbg_25 (j := 55) (v := 0x04) (by decide +kernel))
theorem dL_law_1656 : decode cL_law 1656 = .ok (.iadd, 1) := dop_96 (lbg_25 (j := 56) (v := 0x60) (by decide +kernel))
theorem dL_law_1657 : decode cL_law 1657 = .ok (.iaload, 1) := dop_46 (lbg_25 (j := 57) (v := 0x2e) (by decide +kernel))
theorem dL_law_1658 : decode cL_law 1658 = .ok (.aload_n 0, 1) := dop_42 (lbg_25 (j := 58) (v := 0x2a) (by decide +kernel))
theorem dL_law_1659 : decode cL_law 1659 = .ok (.iload 4, 2) := dop_21 (lbg_25 (j := 59) (v := 0x15) (by decide +kernel)) (lbg_25 (j := 60) (v := 0x04) (by decide +kernel))
theorem dL_law_1661 : decode cL_law 1661 = .ok (.iconst 2, 1) := dop_5 (lbg_25 (j := 61) (v := 0x05) (by decide +kernel))
theorem dL_law_1662 : decode cL_law 1662 = .ok (.iadd, 1) := dop_96 (lbg_25 (j := 62) (v := 0x60) (by decide +kernel))
theorem dL_law_1663 : decode cL_law 1663 = .ok (.iaload, 1) := dop_46 (lbg_25 (j := 63) (v := 0x2e) (by decide +kernel))
theorem dL_law_1664 : decode cL_law 1664 = .ok (.ifCond .eq 7, 3) := dop_153 (lbg_26 (j := 0) (v := 0x99) (by decide +kernel)) (lbg_26 (j := 1) (v := 0x00) (by decide +kernel)) (lbg_26 (j := 2) (v := 0x07) (by decide +kernel)) (by decide +kernel)
theorem dL_law_1667 : decode cL_law 1667 = .ok (.iconst 1, 1) := dop_4 (lbg_26 (j := 3) (v := 0x04) (by decide +kernel))
theorem dL_law_1668 : decode cL_law 1668 = .ok (.goto 4, 3) := dop_167 (lbg_26 (j := 4) (v := 0xa7) (by decide +kernel)) (lbg_26 (j := 5) (v := 0x00) (by decide +kernel)) (lbg_26 (j := 6) (v := 0x04) (by decide +kernel)) (by decide +kernel)
theorem dL_law_1671 : decode cL_law 1671 = .ok (.iconst 0, 1) := dop_3 (lbg_26 (j := 7) (v := 0x03) (by decide +kernel))
theorem dL_law_1672 : decode cL_law 1672 = .ok (.invokevirtual 281, 3) := dop_182 (lbg_26 (j := 8) (v := 0xb6) (by decide +kernel)) (lbg_26 (j := 9) (v := 0x01) (by decide +kernel)) (lbg_26 (j := 10) (v := 0x19) (by decide +kernel))
theorem dL_law_1675 : decode cL_law 1675 = .ok (.istore 6, 2) := dop_54 (lbg_26 (j := 11) (v := 0x36) (by decide +kernel)) (lbg_26 (j := 12) (v := 0x06) (by decide +kernel))
theorem dL_law_1677 : decode cL_law 1677 = .ok (.goto 326, 3) := dop_167 (lbg_26 (j := 13) (v := 0xa7) (by decide +kernel)) (lbg_26 (j := 14) (v := 0x01) (by decide +kernel)) (lbg_26 (j := 15) (v := 0x46) (by decide +kernel)) (by decide +kernel)
theorem dL_law_1680 : decode cL_law 1680 = .ok (.aload_n 1, 1) := dop_43 (lbg_26 (j := 16) (v := 0x2b) (by decide +kernel))
theorem dL_law_1681 : decode cL_law 1681 = .ok (.aload_n 0, 1) := dop_42 (lbg_26 (j := 17) (v := 0x2a) (by decide +kernel))
theorem dL_law_1682 : decode cL_law 1682 = .ok (.iload 4, 2) := dop_21 (lbg_26 (j := 18) (v := 0x15) (by decide +kernel)) (lbg_26 (j := 19) (v := 0x04) (by decide +kernel))
theorem dL_law_1684 : decode cL_law 1684 = .ok (.iconst 1, 1) := dop_4 (lbg_26 (j := 20) (v := 0x04) (by decide +kernel))
theorem dL_law_1685 : decode cL_law 1685 = .ok (.iadd, 1) := dop_96 (lbg_26 (j := 21) (v := 0x60) (by decide +kernel))
theorem dL_law_1686 : decode cL_law 1686 = .ok (.iaload, 1) := dop_46 (lbg_26 (j := 22) (v := 0x2e) (by decide +kernel))
theorem dL_law_1687 : decode cL_law 1687 = .ok (.aload_n 3, 1) := dop_45 (lbg_26 (j := 23) (v := 0x2d) (by decide +kernel))
theorem dL_law_1688 : decode cL_law 1688 = .ok (.invokestatic 282, 3) := dop_184 (lbg_26 (j := 24) (v := 0xb8) (by decide +kernel)) (lbg_26 (j := 25) (v := 0x01) (by decide +kernel)) (lbg_26 (j := 26) (v := 0x1a) (by decide +kernel))
theorem dL_law_1691 : decode cL_law 1691 = .ok (.istore 5, 2) := dop_54 (lbg_26 (j := 27) (v := 0x36) (by decide +kernel)) (lbg_26 (j := 28) (v := 0x05) (by decide +kernel))
theorem dL_law_1693 : decode cL_law 1693 = .ok (.aload_n 2, 1) := dop_44 (lbg_26 (j := 29) (v := 0x2c) (by decide +kernel))
theorem dL_law_1694 : decode cL_law 1694 = .ok (.aload_n 0, 1) := dop_42 (lbg_26 (j := 30) (v := 0x2a) (by decide +kernel))
theorem dL_law_1695 : decode cL_law 1695 = .ok (.iload 4, 2) := dop_21 (lbg_26 (j := 31) (v := 0x15) (by decide +kernel)) (lbg_26 (j := 32) (v := 0x04) (by decide +kernel))
theorem dL_law_1697 : decode cL_law 1697 = .ok (.iconst 1, 1) := dop_4 (lbg_26 (j := 33) (v := 0x04) (by decide +kernel))
theorem dL_law_1698 : decode cL_law 1698 = .ok (.iadd, 1) := dop_96 (lbg_26 (j := 34) (v := 0x60) (by decide +kernel))
theorem dL_law_1699 : decode cL_law 1699 = .ok (.iaload, 1) := dop_46 (lbg_26 (j := 35) (v := 0x2e) (by decide +kernel))
theorem dL_law_1700 : decode cL_law 1700 = .ok (.invokevirtual 284, 3) := dop_182 (lbg_26 (j := 36) (v := 0xb6) (by decide +kernel)) (lbg_26 (j := 37) (v := 0x01) (by decide +kernel)) (lbg_26 (j := 38) (v := 0x1c) (by decide +kernel))
theorem dL_law_1703 : decode cL_law 1703 = .ok (.istore 6, 2) := dop_54 (lbg_26 (j := 39) (v := 0x36) (by decide +kernel)) (lbg_26 (j := 40) (v := 0x06) (by decide +kernel))
theorem dL_law_1705 : decode cL_law 1705 = .ok (.goto 298, 3) := dop_167 (lbg_26 (j := 41) (v := 0xa7) (by decide +kernel)) (lbg_26 (j := 42) (v := 0x01) (by decide +kernel)) (lbg_26 (j := 43) (v := 0x2a) (by decide +kernel)) (by decide +kernel)
theorem dL_law_1708 : decode cL_law 1708 = .ok (.aload_n 1, 1) := dop_43 (lbg_26 (j := 44) (v := 0x2b) (by decide +kernel))
theorem dL_law_1709 : decode cL_law 1709 = .ok (.aload_n 0, 1) := dop_42 (lbg_26 (j := 45) (v := 0x2a) (by decide +kernel))
theorem dL_law_1710 : decode cL_law 1710 = .ok (.iload 4, 2) := dop_21 (lbg_26 (j := 46) (v := 0x15) (by decide +kernel)) (lbg_26 (j := 47) (v := 0x04) (by decide +kernel))
theorem dL_law_1712 : decode cL_law 1712 = .ok (.iconst 1, 1) := dop_4 (lbg_26 (j := 48) (v := 0x04) (by decide +kernel))
theorem dL_law_1713 : decode cL_law 1713 = .ok (.iadd, 1) := dop_96 (lbg_26 (j := 49) (v := 0x60) (by decide +kernel))
theorem dL_law_1714 : decode cL_law 1714 = .ok (.iaload, 1) := dop_46 (lbg_26 (j := 50) (v := 0x2e) (by decide +kernel))
theorem dL_law_1715 : decode cL_law 1715 = .ok (.aload_n 3, 1) := dop_45 (lbg_26 (j := 51) (v := 0x2d) (by decide +kernel))
theorem dL_law_1716 : decode cL_law 1716 = .ok (.invokestatic 285, 3) := dop_184 (lbg_26 (j := 52) (v := 0xb8) (by decide +kernel)) (lbg_26 (j := 53) (v := 0x01) (by decide +kernel)) (lbg_26 (j := 54) (v := 0x1d) (by decide +kernel))
theorem dL_law_1719 : decode cL_law 1719 = .ok (.istore 5, 2) := dop_54 (lbg_26 (j := 55) (v := 0x36) (by decide +kernel)) (lbg_26 (j := 56) (v := 0x05) (by decide +kernel))
theorem dL_law_1721 : decode cL_law 1721 = .ok (.aload_n 2, 1) := dop_44 (lbg_26 (j := 57) (v := 0x2c) (by decide +kernel))
theorem dL_law_1722 : decode cL_law 1722 = .ok (.aload_n 0, 1) := dop_42 (lbg_26 (j := 58) (v := 0x2a) (by decide +kernel))
theorem dL_law_1723 : decode cL_law 1723 = .ok (.iload 4, 2) := dop_21 (lbg_26 (j := 59) (v := 0x15) (by decide +kernel)) (lbg_26 (j := 60) (v := 0x04) (by decide +kernel))
theorem dL_law_1725 : decode cL_law 1725 = .ok (.iconst 1, 1) := dop_4 (lbg_26 (j := 61) (v := 0x04) (by decide +kernel))
theorem dL_law_1726 : decode cL_law 1726 = .ok (.iadd, 1) := dop_96 (lbg_26 (j := 62) (v := 0x60) (by decide +kernel))
theorem dL_law_1727 : decode cL_law 1727 = .ok (.iaload, 1) := dop_46 (lbg_26 (j := 63) (v := 0x2e) (by decide +kernel))
theorem dL_law_1728 : decode cL_law 1728 = .ok (.invokevirtual 287, 3) := dop_182 (lbg_27 (j := 0) (v := 0xb6) (by decide +kernel)) (lbg_27 (j := 1) (v := 0x01) (by decide +kernel)) (lbg_27 (j := 2) (v := 0x1f) (by decide +kernel))
theorem dL_law_1731 : decode cL_law 1731 = .ok (.istore 6, 2) := dop_54 (lbg_27 (j := 3) (v := 0x36) (by decide +kernel)) (lbg_27 (j := 4) (v := 0x06) (by decide +kernel))
theorem dL_law_1733 : decode cL_law 1733 = .ok (.goto 270, 3) := dop_167 (lbg_27 (j := 5) (v := 0xa7) (by decide +kernel)) (lbg_27 (j := 6) (v := 0x01) (by decide +kernel)) (lbg_27 (j := 7) (v := 0x0e) (by decide +kernel)) (by decide +kernel)
theorem dL_law_1736 : decode cL_law 1736 = .ok (.aload_n 1, 1) := dop_43 (lbg_27 (j := 8) (v := 0x2b) (by decide +kernel))
theorem dL_law_1737 : decode cL_law 1737 = .ok (.aload_n 0, 1) := dop_42 (lbg_27 (j := 9) (v := 0x2a) (by decide +kernel))
theorem dL_law_1738 : decode cL_law 1738 = .ok (.iload 4, 2) := dop_21 (lbg_27 (j := 10) (v := 0x15) (by decide +kernel)) (lbg_27 (j := 11) (v := 0x04) (by decide +kernel))
theorem dL_law_1740 : decode cL_law 1740 = .ok (.iconst 1, 1) := dop_4 (lbg_27 (j := 12) (v := 0x04) (by decide +kernel))
theorem dL_law_1741 : decode cL_law 1741 = .ok (.iadd, 1) := dop_96 (lbg_27 (j := 13) (v := 0x60) (by decide +kernel))
theorem dL_law_1742 : decode cL_law 1742 = .ok (.iaload, 1) := dop_46 (lbg_27 (j := 14) (v := 0x2e) (by decide +kernel))
theorem dL_law_1743 : decode cL_law 1743 = .ok (.aload_n 3, 1) := dop_45 (lbg_27 (j := 15) (v := 0x2d) (by decide +kernel))
theorem dL_law_1744 : decode cL_law 1744 = .ok (.invokestatic 288, 3) := dop_184 (lbg_27 (j := 16) (v := 0xb8) (by decide +kernel)) (lbg_27 (j := 17) (v := 0x01) (by decide +kernel)) (lbg_27 (j := 18) (v := 0x20) (by decide +kernel))
theorem dL_law_1747 : decode cL_law 1747 = .ok (.istore 5, 2) := dop_54 (lbg_27 (j := 19) (v := 0x36) (by decide +kernel)) (lbg_27 (j := 20) (v := 0x05) (by decide +kernel))
theorem dL_law_1749 : decode cL_law 1749 = .ok (.aload_n 2, 1) := dop_44 (lbg_27 (j := 21) (v := 0x2c) (by decide +kernel))
theorem dL_law_1750 : decode cL_law 1750 = .ok (.aload_n 0, 1) := dop_42 (lbg_27 (j := 22) (v := 0x2a) (by decide +kernel))
theorem dL_law_1751 : decode cL_law 1751 = .ok (.iload 4, 2) := dop_21 (lbg_27 (j := 23) (v := 0x15) (by decide +kernel)) (lbg_27 (j := 24) (v := 0x04) (by decide +kernel))
theorem dL_law_1753 : decode cL_law 1753 = .ok (.iconst 1, 1) := dop_4 (lbg_27 (j := 25) (v := 0x04) (by decide +kernel))
theorem dL_law_1754 : decode cL_law 1754 = .ok (.iadd, 1) := dop_96 (lbg_27 (j := 26) (v := 0x60) (by decide +kernel))
theorem dL_law_1755 : decode cL_law 1755 = .ok (.iaload, 1) := dop_46 (lbg_27 (j := 27) (v := 0x2e) (by decide +kernel))
theorem dL_law_1756 : decode cL_law 1756 = .ok (.invokevirtual 290, 3) := dop_182 (lbg_27 (j := 28) (v := 0xb6) (by decide +kernel)) (lbg_27 (j := 29) (v := 0x01) (by decide +kernel)) (lbg_27 (j := 30) (v := 0x22) (by decide +kernel))
theorem dL_law_1759 : decode cL_law 1759 = .ok (.istore 6, 2) := dop_54 (lbg_27 (j := 31) (v := 0x36) (by decide +kernel)) (lbg_27 (j := 32) (v := 0x06) (by decide +kernel))
theorem dL_law_1761 : decode cL_law 1761 = .ok (.goto 242, 3) := dop_167 (lbg_27 (j := 33) (v := 0xa7) (by decide +kernel)) (lbg_27 (j := 34) (v := 0x00) (by decide +kernel)) (lbg_27 (j := 35) (v := 0xf2) (by decide +kernel)) (by decide +kernel)
theorem dL_law_1764 : decode cL_law 1764 = .ok (.aload_n 1, 1) := dop_43 (lbg_27 (j := 36) (v := 0x2b) (by decide +kernel))
theorem dL_law_1765 : decode cL_law 1765 = .ok (.aload_n 0, 1) := dop_42 (lbg_27 (j := 37) (v := 0x2a) (by decide +kernel))
theorem dL_law_1766 : decode cL_law 1766 = .ok (.iload 4, 2) := dop_21 (lbg_27 (j := 38) (v := 0x15) (by decide +kernel)) (lbg_27 (j := 39) (v := 0x04) (by decide +kernel))
theorem dL_law_1768 : decode cL_law 1768 = .ok (.iconst 1, 1) := dop_4 (lbg_27 (j := 40) (v := 0x04) (by decide +kernel))
theorem dL_law_1769 : decode cL_law 1769 = .ok (.iadd, 1) := dop_96 (lbg_27 (j := 41) (v := 0x60) (by decide +kernel))
theorem dL_law_1770 : decode cL_law 1770 = .ok (.iaload, 1) := dop_46 (lbg_27 (j := 42) (v := 0x2e) (by decide +kernel))
theorem dL_law_1771 : decode cL_law 1771 = .ok (.aload_n 0, 1) := dop_42 (lbg_27 (j := 43) (v := 0x2a) (by decide +kernel))
theorem dL_law_1772 : decode cL_law 1772 = .ok (.iload 4, 2) := dop_21 (lbg_27 (j := 44) (v := 0x15) (by decide +kernel)) (lbg_27 (j := 45) (v := 0x04) (by decide +kernel))
theorem dL_law_1774 : decode cL_law 1774 = .ok (.iconst 2, 1) := dop_5 (lbg_27 (j := 46) (v := 0x05) (by decide +kernel))
theorem dL_law_1775 : decode cL_law 1775 = .ok (.iadd, 1) := dop_96 (lbg_27 (j := 47) (v := 0x60) (by decide +kernel))
theorem dL_law_1776 : decode cL_law 1776 = .ok (.iaload, 1) := dop_46 (lbg_27 (j := 48) (v := 0x2e) (by decide +kernel))
theorem dL_law_1777 : decode cL_law 1777 = .ok (.aload_n 3, 1) := dop_45 (lbg_27 (j := 49) (v := 0x2d) (by decide +kernel))
theorem dL_law_1778 : decode cL_law 1778 = .ok (.invokestatic 291, 3) := dop_184 (lbg_27 (j := 50) (v := 0xb8) (by decide +kernel)) (lbg_27 (j := 51) (v := 0x01) (by decide +kernel)) (lbg_27 (j := 52) (v := 0x23) (by decide +kernel))
theorem dL_law_1781 : decode cL_law 1781 = .ok (.istore 5, 2) := dop_54 (lbg_27 (j := 53) (v := 0x36) (by decide +kernel)) (lbg_27 (j := 54) (v := 0x05) (by decide +kernel))
theorem dL_law_1783 : decode cL_law 1783 = .ok (.aload_n 2, 1) := dop_44 (lbg_27 (j := 55) (v := 0x2c) (by decide +kernel))
theorem dL_law_1784 : decode cL_law 1784 = .ok (.aload_n 0, 1) := dop_42 (lbg_27 (j := 56) (v := 0x2a) (by decide +kernel))
theorem dL_law_1785 : decode cL_law 1785 = .ok (.iload 4, 2) := dop_21 (lbg_27 (j := 57) (v := 0x15) (by decide +kernel)) (lbg_27 (j := 58) (v := 0x04) (by decide +kernel))
theorem dL_law_1787 : decode cL_law 1787 = .ok (.iconst 1, 1) := dop_4 (lbg_27 (j := 59) (v := 0x04) (by decide +kernel))
theorem dL_law_1788 : decode cL_law 1788 = .ok (.iadd, 1) := dop_96 (lbg_27 (j := 60) (v := 0x60) (by decide +kernel))
theorem dL_law_1789 : decode cL_law 1789 = .ok (.iaload, 1) := dop_46 (lbg_27 (j := 61) (v := 0x2e) (by decide +kernel))
theorem dL_law_1790 : decode cL_law 1790 = .ok (.aload_n 0, 1) := dop_42 (lbg_27 (j := 62) (v := 0x2a) (by decide +kernel))
theorem dL_law_1791 : decode cL_law 1791 = .ok (.iload 4, 2) := dop_21 (lbg_27 (j := 63) (v := 0x15) (by decide +kernel)) (lbg_28 (j := 0) (v := 0x04) (by decide +kernel))
theorem dL_law_1793 : decode cL_law 1793 = .ok (.iconst 2, 1) := dop_5 (lbg_28 (j := 1) (v := 0x05) (by decide +kernel))
theorem dL_law_1794 : decode cL_law 1794 = .ok (.iadd, 1) := dop_96 (lbg_28 (j := 2) (v := 0x60) (by decide +kernel))
theorem dL_law_1795 : decode cL_law 1795 = .ok (.iaload, 1) := dop_46 (lbg_28 (j := 3) (v := 0x2e) (by decide +kernel))
theorem dL_law_1796 : decode cL_law 1796 = .ok (.invokevirtual 293, 3) := dop_182 (lbg_28 (j := 4) (v := 0xb6) (by decide +kernel)) (lbg_28 (j := 5) (v := 0x01) (by decide +kernel)) (lbg_28 (j := 6) (v := 0x25) (by decide +kernel))
theorem dL_law_1799 : decode cL_law 1799 = .ok (.istore 6, 2) := dop_54 (lbg_28 (j := 7) (v := 0x36) (by decide +kernel)) (lbg_28 (j := 8) (v := 0x06) (by decide +kernel))
theorem dL_law_1801 : decode cL_law 1801 = .ok (.goto 202, 3) := dop_167 (lbg_28 (j := 9) (v := 0xa7) (by decide +kernel)) (lbg_28 (j := 10) (v := 0x00) (by decide +kernel)) (lbg_28 (j := 11) (v := 0xca) (by decide +kernel)) (by decide +kernel)
theorem dL_law_1804 : decode cL_law 1804 = .ok (.aload_n 1, 1) := dop_43 (lbg_28 (j := 12) (v := 0x2b) (by decide +kernel))
theorem dL_law_1805 : decode cL_law 1805 = .ok (.aload_n 0, 1) := dop_42 (lbg_28 (j := 13) (v := 0x2a) (by decide +kernel))
theorem dL_law_1806 : decode cL_law 1806 = .ok (.iload 4, 2) := dop_21 (lbg_28 (j := 14) (v := 0x15) (by decide +kernel)) (lbg_28 (j := 15) (v := 0x04) (by decide +kernel))
theorem dL_law_1808 : decode cL_law 1808 = .ok (.iconst 1, 1) := dop_4 (lbg_28 (j := 16) (v := 0x04) (by decide +kernel))
theorem dL_law_1809 : decode cL_law 1809 = .ok (.iadd, 1) := dop_96 (lbg_28 (j := 17) (v := 0x60) (by decide +kernel))
theorem dL_law_1810 : decode cL_law 1810 = .ok (.iaload, 1) := dop_46 (lbg_28 (j := 18) (v := 0x2e) (by decide +kernel))
theorem dL_law_1811 : decode cL_law 1811 = .ok (.aload_n 0, 1) := dop_42 (lbg_28 (j := 19) (v := 0x2a) (by decide +kernel))
theorem dL_law_1812 : decode cL_law 1812 = .ok (.iload 4, 2) := dop_21 (lbg_28 (j := 20) (v := 0x15) (by decide +kernel)) (lbg_28 (j := 21) (v := 0x04) (by decide +kernel))
theorem dL_law_1814 : decode cL_law 1814 = .ok (.iconst 2, 1) := dop_5 (lbg_28 (j := 22) (v := 0x05) (by decide +kernel))
theorem dL_law_1815 : decode cL_law 1815 = .ok (.iadd, 1) := dop_96 (lbg_28 (j := 23) (v := 0x60) (by decide +kernel))
theorem dL_law_1816 : decode cL_law 1816 = .ok (.iaload, 1) := dop_46 (lbg_28 (j := 24) (v := 0x2e) (by decide +kernel))
theorem dL_law_1817 : decode cL_law 1817 = .ok (.aload_n 3, 1) := dop_45 (lbg_28 (j := 25) (v := 0x2d) (by decide +kernel))
theorem dL_law_1818 : decode cL_law 1818 = .ok (.invokestatic 294, 3) := dop_184 (lbg_28 (j := 26) (v := 0xb8) (by decide +kernel)) (lbg_28 (j := 27) (v := 0x01) (by decide +kernel)) (lbg_28 (j := 28) (v := 0x26) (by decide +kernel))
theorem dL_law_1821 : decode cL_law 1821 = .ok (.istore 5, 2) := dop_54 (lbg_28 (j := 29) (v := 0x36) (by decide +kernel)) (lbg_28 (j := 30) (v := 0x05) (by decide +kernel))
theorem dL_law_1823 : decode cL_law 1823 = .ok (.aload_n 2, 1) := dop_44 (lbg_28 (j := 31) (v := 0x2c) (by decide +kernel))
theorem dL_law_1824 : decode cL_law 1824 = .ok (.aload_n 0, 1) := dop_42 (lbg_28 (j := 32) (v := 0x2a) (by decide +kernel))
theorem dL_law_1825 : decode cL_law 1825 = .ok (.iload 4, 2) := dop_21 (lbg_28 (j := 33) (v := 0x15) (by decide +kernel)) (lbg_28 (j := 34) (v := 0x04) (by decide +kernel))
theorem dL_law_1827 : decode cL_law 1827 = .ok (.iconst 1, 1) := dop_4 (lbg_28 (j := 35) (v := 0x04) (by decide +kernel))
theorem dL_law_1828 : decode cL_law 1828 = .ok (.iadd, 1) := dop_96 (lbg_28 (j := 36) (v := 0x60) (by decide +kernel))
theorem dL_law_1829 : decode cL_law 1829 = .ok (.iaload, 1) := dop_46 (lbg_28 (j := 37) (v := 0x2e) (by decide +kernel))
theorem dL_law_1830 : decode cL_law 1830 = .ok (.aload_n 0, 1) := dop_42 (lbg_28 (j := 38) (v := 0x2a) (by decide +kernel))
theorem dL_law_1831 : decode cL_law 1831 = .ok (.iload 4, 2) := dop_21 (lbg_28 (j := 39) (v := 0x15) (by decide +kernel)) (lbg_28 (j := 40) (v := 0x04) (by decide +kernel))
theorem dL_law_1833 : decode cL_law 1833 = .ok (.iconst 2, 1) := dop_5 (lbg_28 (j := 41) (v := 0x05) (by decide +kernel))
theorem dL_law_1834 : decode cL_law 1834 = .ok (.iadd, 1) := dop_96 (lbg_28 (j := 42) (v := 0x60) (by decide +kernel))
theorem dL_law_1835 : decode cL_law 1835 = .ok (.iaload, 1) := dop_46 (lbg_28 (j := 43) (v := 0x2e) (by decide +kernel))
theorem dL_law_1836 : decode cL_law 1836 = .ok (.invokevirtual 296, 3) := dop_182 (lbg_28 (j := 44) (v := 0xb6) (by decide +kernel)) (lbg_28 (j := 45) (v := 0x01) (by decide +kernel)) (lbg_28 (j := 46) (v := 0x28) (by decide +kernel))
theorem dL_law_1839 : decode cL_law 1839 = .ok (.istore 6, 2) := dop_54 (lbg_28 (j := 47) (v := 0x36) (by decide +kernel)) (lbg_28 (j := 48) (v := 0x06) (by decide +kernel))
theorem dL_law_1841 : decode cL_law 1841 = .ok (.aload_n 2, 1) := dop_44 (lbg_28 (j := 49) (v := 0x2c) (by decide +kernel))
theorem dL_law_1842 : decode cL_law 1842 = .ok (.invokevirtual 297, 3) := dop_182 (lbg_28 (j := 50) (v := 0xb6) (by decide +kernel)) (lbg_28 (j := 51) (v := 0x01) (by decide +kernel)) (lbg_28 (j := 52) (v := 0x29) (by decide +kernel))
theorem dL_law_1845 : decode cL_law 1845 = .ok (.iload 5, 2) := dop_21 (lbg_28 (j := 53) (v := 0x15) (by decide +kernel)) (lbg_28 (j := 54) (v := 0x05) (by decide +kernel))
theorem dop_159 {a : ByteArray} {pc : Nat} (h0 : a.data.toList[pc]? = some 159) {x y : UInt8} (h1 : a.data.toList[pc + 1]? = some x) (h2 : a.data.toList[pc + 1 + 1]? = some y) {z : Int} (hz : Reader.signed 16 (x.toNat * 256 + y.toNat) = z) : decode a pc = .ok (.if_icmp .eq z, 3) := by
  subst hz
  refine (dec_step (q := pc + 3) ?_).trans (by rw [Nat.add_sub_cancel_left])
  unfold Decoder.instr
  rw [bind_ok (u1_of h0)]
  show (((Reader.s2 : Decoder Int) >>= fun y => (pure (.if_icmp .eq y) : Decoder Instr)).run a).run (pc + 1) = _
  rw [bind_ok (s2_of h1 h2)]
  rfl
theorem dL_law_1847 : decode cL_law 1847 = .ok (.if_icmp .eq 5, 3) := dop_159 (lbg_28 (j := 55) (v := 0x9f) (by decide +kernel)) (lbg_28 (j := 56) (v := 0x00) (by decide +kernel)) (lbg_28 (j := 57) (v := 0x05) (by decide +kernel)) (by decide +kernel)
theorem dL_law_1850 : decode cL_law 1850 = .ok (.iconst 0, 1) := dop_3 (lbg_28 (j := 58) (v := 0x03) (by decide +kernel))
theorem dop_172 {a : ByteArray} {pc : Nat} (h0 : a.data.toList[pc]? = some 172) : decode a pc = .ok (.ireturn, 1) := by
  refine (dec_step (q := pc + 1) ?_).trans (by rw [Nat.add_sub_cancel_left])
  unfold Decoder.instr
  rw [bind_ok (u1_of h0)]
  rfl
theorem dL_law_1851 : decode cL_law 1851 = .ok (.ireturn, 1) := dop_172 (lbg_28 (j := 59) (v := 0xac) (by decide +kernel))
theorem dL_law_1852 : decode cL_law 1852 = .ok (.iload 5, 2) := dop_21 (lbg_28 (j := 60) (v := 0x15) (by decide +kernel)) (lbg_28 (j := 61) (v := 0x05) (by decide +kernel))
theorem dop_154 {a : ByteArray} {pc : Nat} (h0 : a.data.toList[pc]? = some 154) {x y : UInt8} (h1 : a.data.toList[pc + 1]? = some x) (h2 : a.data.toList[pc + 1 + 1]? = some y) {z : Int} (hz : Reader.signed 16 (x.toNat * 256 + y.toNat) = z) : decode a pc = .ok (.ifCond .ne z, 3) := by
  subst hz
  refine (dec_step (q := pc + 3) ?_).trans (by rw [Nat.add_sub_cancel_left])
  unfold Decoder.instr
  rw [bind_ok (u1_of h0)]
  show (((Reader.s2 : Decoder Int) >>= fun y => (pure (.ifCond .ne y) : Decoder Instr)).run a).run (pc + 1) = _
  rw [bind_ok (s2_of h1 h2)]
  rfl
theorem dL_law_1854 : decode cL_law 1854 = .ok (.ifCond .ne 23, 3) := dop_154 (lbg_28 (j := 62) (v := 0x9a) (by decide +kernel)) (lbg_28 (j := 63) (v := 0x00) (by decide +kernel)) (lbg_29 (j := 0) (v := 0x17) (by decide +kernel)) (by decide +kernel)
theorem dL_law_1857 : decode cL_law 1857 = .ok (.aload_n 3, 1) := dop_45 (lbg_29 (j := 1) (v := 0x2d) (by decide +kernel))
theorem dop_180 {a : ByteArray} {pc : Nat} (h0 : a.data.toList[pc]? = some 180) {x y : UInt8} (h1 : a.data.toList[pc + 1]? = some x) (h2 : a.data.toList[pc + 1 + 1]? = some y) : decode a pc = .ok (.getfield (x.toNat * 256 + y.toNat), 3) := by
  refine (dec_step (q := pc + 3) ?_).trans (by rw [Nat.add_sub_cancel_left])
  unfold Decoder.instr
  rw [bind_ok (u1_of h0)]
  show (((Reader.u2 : Decoder Nat) >>= fun y => (pure (.getfield y) : Decoder Instr)).run a).run (pc + 1) = _
  rw [bind_ok (u2_of h1 h2)]
  rfl
theorem dL_law_1858 : decode cL_law 1858 = .ok (.getfield 13, 3) := dop_180 (lbg_29 (j := 2) (v := 0xb4) (by decide +kernel)) (lbg_29 (j := 3) (v := 0x00) (by decide +kernel)) (lbg_29 (j := 4) (v := 0x0d) (by decide +kernel))
theorem dL_law_1861 : decode cL_law 1861 = .ok (.iload 6, 2) := dop_21 (lbg_29 (j := 5) (v := 0x15) (by decide +kernel)) (lbg_29 (j := 6) (v := 0x06) (by decide +kernel))
theorem dL_law_1863 : decode cL_law 1863 = .ok (.ifCond .eq 7, 3) := dop_153 (lbg_29 (j := 7) (v := 0x99) (by decide +kernel)) (lbg_29 (j := 8) (v := 0x00) (by decide +kernel)) (lbg_29 (j := 9) (v := 0x07) (by decide +kernel)) (by decide +kernel)
theorem dop_10 {a : ByteArray} {pc : Nat} (h0 : a.data.toList[pc]? = some 10) : decode a pc = .ok (.lconst 1, 1) := by
  refine (dec_step (q := pc + 1) ?_).trans (by rw [Nat.add_sub_cancel_left])
  unfold Decoder.instr
  rw [bind_ok (u1_of h0)]
  rfl
theorem dL_law_1866 : decode cL_law 1866 = .ok (.lconst 1, 1) := dop_10 (lbg_29 (j := 10) (v := 0x0a) (by decide +kernel))
theorem dL_law_1867 : decode cL_law 1867 = .ok (.goto 4, 3) := dop_167 (lbg_29 (j := 11) (v := 0xa7) (by decide +kernel)) (lbg_29 (j := 12) (v := 0x00) (by decide +kernel)) (lbg_29 (j := 13) (v := 0x04) (by decide +kernel)) (by decide +kernel)
theorem dop_9 {a : ByteArray} {pc : Nat} (h0 : a.data.toList[pc]? = some 9) : decode a pc = .ok (.lconst 0, 1) := by
  refine (dec_step (q := pc + 1) ?_).trans (by rw [Nat.add_sub_cancel_left])
  unfold Decoder.instr
  rw [bind_ok (u1_of h0)]
  rfl
theorem dL_law_1870 : decode cL_law 1870 = .ok (.lconst 0, 1) := dop_9 (lbg_29 (j := 14) (v := 0x09) (by decide +kernel))
theorem dop_148 {a : ByteArray} {pc : Nat} (h0 : a.data.toList[pc]? = some 148) : decode a pc = .ok (.lcmp, 1) := by
  refine (dec_step (q := pc + 1) ?_).trans (by rw [Nat.add_sub_cancel_left])
  unfold Decoder.instr
  rw [bind_ok (u1_of h0)]
  rfl
theorem dL_law_1871 : decode cL_law 1871 = .ok (.lcmp, 1) := dop_148 (lbg_29 (j := 15) (v := 0x94) (by decide +kernel))
theorem dL_law_1872 : decode cL_law 1872 = .ok (.ifCond .eq 5, 3) := dop_153 (lbg_29 (j := 16) (v := 0x99) (by decide +kernel)) (lbg_29 (j := 17) (v := 0x00) (by decide +kernel)) (lbg_29 (j := 18) (v := 0x05) (by decide +kernel)) (by decide +kernel)
theorem dL_law_1875 : decode cL_law 1875 = .ok (.iconst 0, 1) := dop_3 (lbg_29 (j := 19) (v := 0x03) (by decide +kernel))
theorem dL_law_1876 : decode cL_law 1876 = .ok (.ireturn, 1) := dop_172 (lbg_29 (j := 20) (v := 0xac) (by decide +kernel))
theorem dL_law_1877 : decode cL_law 1877 = .ok (.goto 126, 3) := dop_167 (lbg_29 (j := 21) (v := 0xa7) (by decide +kernel)) (lbg_29 (j := 22) (v := 0x00) (by decide +kernel)) (lbg_29 (j := 23) (v := 0x7e) (by decide +kernel)) (by decide +kernel)
theorem dL_law_1880 : decode cL_law 1880 = .ok (.aload_n 1, 1) := dop_43 (lbg_29 (j := 24) (v := 0x2b) (by decide +kernel))
theorem dL_law_1881 : decode cL_law 1881 = .ok (.aload_n 0, 1) := dop_42 (lbg_29 (j := 25) (v := 0x2a) (by decide +kernel))
theorem dL_law_1882 : decode cL_law 1882 = .ok (.iload 4, 2) := dop_21 (lbg_29 (j := 26) (v := 0x15) (by decide +kernel)) (lbg_29 (j := 27) (v := 0x04) (by decide +kernel))
theorem dL_law_1884 : decode cL_law 1884 = .ok (.iconst 1, 1) := dop_4 (lbg_29 (j := 28) (v := 0x04) (by decide +kernel))
theorem dL_law_1885 : decode cL_law 1885 = .ok (.iadd, 1) := dop_96 (lbg_29 (j := 29) (v := 0x60) (by decide +kernel))
theorem dL_law_1886 : decode cL_law 1886 = .ok (.iaload, 1) := dop_46 (lbg_29 (j := 30) (v := 0x2e) (by decide +kernel))
theorem dL_law_1887 : decode cL_law 1887 = .ok (.aload_n 0, 1) := dop_42 (lbg_29 (j := 31) (v := 0x2a) (by decide +kernel))
theorem dL_law_1888 : decode cL_law 1888 = .ok (.iload 4, 2) := dop_21 (lbg_29 (j := 32) (v := 0x15) (by decide +kernel)) (lbg_29 (j := 33) (v := 0x04) (by decide +kernel))
theorem dL_law_1890 : decode cL_law 1890 = .ok (.iconst 2, 1) := dop_5 (lbg_29 (j := 34) (v := 0x05) (by decide +kernel))
theorem dL_law_1891 : decode cL_law 1891 = .ok (.iadd, 1) := dop_96 (lbg_29 (j := 35) (v := 0x60) (by decide +kernel))
theorem dL_law_1892 : decode cL_law 1892 = .ok (.iaload, 1) := dop_46 (lbg_29 (j := 36) (v := 0x2e) (by decide +kernel))
theorem dL_law_1893 : decode cL_law 1893 = .ok (.ifCond .eq 7, 3) := dop_153 (lbg_29 (j := 37) (v := 0x99) (by decide +kernel)) (lbg_29 (j := 38) (v := 0x00) (by decide +kernel)) (lbg_29 (j := 39) (v := 0x07) (by decide +kernel)) (by decide +kernel)
theorem dL_law_1896 : decode cL_law 1896 = .ok (.iconst 1, 1) := dop_4 (lbg_29 (j := 40) (v := 0x04) (by decide +kernel))
theorem dL_law_1897 : decode cL_law 1897 = .ok (.goto 4, 3) := dop_167 (lbg_29 (j := 41) (v := 0xa7) (by decide +kernel)) (lbg_29 (j := 42) (v := 0x00) (by decide +kernel)) (lbg_29 (j := 43) (v := 0x04) (by decide +kernel)) (by decide +kernel)
theorem dL_law_1900 : decode cL_law 1900 = .ok (.iconst 0, 1) := dop_3 (lbg_29 (j := 44) (v := 0x03) (by decide +kernel))
theorem dL_law_1901 : decode cL_law 1901 = .ok (.aload_n 3, 1) := dop_45 (lbg_29 (j := 45) (v := 0x2d) (by decide +kernel))
theorem dL_law_1902 : decode cL_law 1902 = .ok (.invokestatic 301, 3) := dop_184 (lbg_29 (j := 46) (v := 0xb8) (by decide +kernel)) (lbg_29 (j := 47) (v := 0x01) (by decide +kernel)) (lbg_29 (j := 48) (v := 0x2d) (by decide +kernel))
theorem dL_law_1905 : decode cL_law 1905 = .ok (.istore 5, 2) := dop_54 (lbg_29 (j := 49) (v := 0x36) (by decide +kernel)) (lbg_29 (j := 50) (v := 0x05) (by decide +kernel))
theorem dL_law_1907 : decode cL_law 1907 = .ok (.aload_n 2, 1) := dop_44 (lbg_29 (j := 51) (v := 0x2c) (by decide +kernel))
theorem dL_law_1908 : decode cL_law 1908 = .ok (.aload_n 0, 1) := dop_42 (lbg_29 (j := 52) (v := 0x2a) (by decide +kernel))
theorem dL_law_1909 : decode cL_law 1909 = .ok (.iload 4, 2) := dop_21 (lbg_29 (j := 53) (v := 0x15) (by decide +kernel)) (lbg_29 (j := 54) (v := 0x04) (by decide +kernel))
theorem dL_law_1911 : decode cL_law 1911 = .ok (.iconst 1, 1) := dop_4 (lbg_29 (j := 55) (v := 0x04) (by decide +kernel))
theorem dL_law_1912 : decode cL_law 1912 = .ok (.iadd, 1) := dop_96 (lbg_29 (j := 56) (v := 0x60) (by decide +kernel))
theorem dL_law_1913 : decode cL_law 1913 = .ok (.iaload, 1) := dop_46 (lbg_29 (j := 57) (v := 0x2e) (by decide +kernel))
theorem dL_law_1914 : decode cL_law 1914 = .ok (.aload_n 0, 1) := dop_42 (lbg_29 (j := 58) (v := 0x2a) (by decide +kernel))
theorem dL_law_1915 : decode cL_law 1915 = .ok (.iload 4, 2) := dop_21 (lbg_29 (j := 59) (v := 0x15) (by decide +kernel)) (lbg_29 (j := 60) (v := 0x04) (by decide +kernel))
theorem dL_law_1917 : decode cL_law 1917 = .ok (.iconst 2, 1) := dop_5 (lbg_29 (j := 61) (v := 0x05) (by decide +kernel))
theorem dL_law_1918 : decode cL_law 1918 = .ok (.iadd, 1) := dop_96 (lbg_29 (j := 62) (v := 0x60) (by decide +kernel))
theorem dL_law_1919 : decode cL_law 1919 = .ok (.iaload, 1) := dop_46 (lbg_29 (j := 63) (v := 0x2e) (by decide +kernel))
theorem dL_law_1920 : decode cL_law 1920 = .ok (.ifCond .eq 7, 3) := dop_153 (lbg_30 (j := 0) (v := 0x99) (by decide +kernel)) (lbg_30 (j := 1) (v := 0x00) (by decide +kernel)) (lbg_30 (j := 2) (v := 0x07) (by decide +kernel)) (by decide +kernel)
theorem dL_law_1923 : decode cL_law 1923 = .ok (.iconst 1, 1) := dop_4 (lbg_30 (j := 3) (v := 0x04) (by decide +kernel))
theorem dL_law_1924 : decode cL_law 1924 = .ok (.goto 4, 3) := dop_167 (lbg_30 (j := 4) (v := 0xa7) (by decide +kernel)) (lbg_30 (j := 5) (v := 0x00) (by decide +kernel)) (lbg_30 (j := 6) (v := 0x04) (by decide +kernel)) (by decide +kernel)
theorem dL_law_1927 : decode cL_law 1927 = .ok (.iconst 0, 1) := dop_3 (lbg_30 (j := 7) (v := 0x03) (by decide +kernel))
theorem dL_law_1928 : decode cL_law 1928 = .ok (.invokevirtual 303, 3) := dop_182 (lbg_30 (j := 8) (v := 0xb6) (by decide +kernel)) (lbg_30 (j := 9) (v := 0x01) (by decide +kernel)) (lbg_30 (j := 10) (v := 0x2f) (by decide +kernel))
theorem dL_law_1931 : decode cL_law 1931 = .ok (.istore 6, 2) := dop_54 (lbg_30 (j := 11) (v := 0x36) (by decide +kernel)) (lbg_30 (j := 12) (v := 0x06) (by decide +kernel))
theorem dL_law_1933 : decode cL_law 1933 = .ok (.goto 70, 3) := dop_167 (lbg_30 (j := 13) (v := 0xa7) (by decide +kernel)) (lbg_30 (j := 14) (v := 0x00) (by decide +kernel)) (lbg_30 (j := 15) (v := 0x46) (by decide +kernel)) (by decide +kernel)
theorem dL_law_1936 : decode cL_law 1936 = .ok (.aload_n 1, 1) := dop_43 (lbg_30 (j := 16) (v := 0x2b) (by decide +kernel))
theorem dL_law_1937 : decode cL_law 1937 = .ok (.aload_n 0, 1) := dop_42 (lbg_30 (j := 17) (v := 0x2a) (by decide +kernel))
theorem dL_law_1938 : decode cL_law 1938 = .ok (.iload 4, 2) := dop_21 (lbg_30 (j := 18) (v := 0x15) (by decide +kernel)) (lbg_30 (j := 19) (v := 0x04) (by decide +kernel))
theorem dL_law_1940 : decode cL_law 1940 = .ok (.iconst 1, 1) := dop_4 (lbg_30 (j := 20) (v := 0x04) (by decide +kernel))
theorem dL_law_1941 : decode cL_law 1941 = .ok (.iadd, 1) := dop_96 (lbg_30 (j := 21) (v := 0x60) (by decide +kernel))
theorem dL_law_1942 : decode cL_law 1942 = .ok (.iaload, 1) := dop_46 (lbg_30 (j := 22) (v := 0x2e) (by decide +kernel))
theorem dL_law_1943 : decode cL_law 1943 = .ok (.aload_n 3, 1) := dop_45 (lbg_30 (j := 23) (v := 0x2d) (by decide +kernel))
theorem dL_law_1944 : decode cL_law 1944 = .ok (.invokestatic 304, 3) := dop_184 (lbg_30 (j := 24) (v := 0xb8) (by decide +kernel)) (lbg_30 (j := 25) (v := 0x01) (by decide +kernel)) (lbg_30 (j := 26) (v := 0x30) (by decide +kernel))
theorem dL_law_1947 : decode cL_law 1947 = .ok (.istore 5, 2) := dop_54 (lbg_30 (j := 27) (v := 0x36) (by decide +kernel)) (lbg_30 (j := 28) (v := 0x05) (by decide +kernel))
theorem dL_law_1949 : decode cL_law 1949 = .ok (.aload_n 2, 1) := dop_44 (lbg_30 (j := 29) (v := 0x2c) (by decide +kernel))
theorem dL_law_1950 : decode cL_law 1950 = .ok (.aload_n 0, 1) := dop_42 (lbg_30 (j := 30) (v := 0x2a) (by decide +kernel))
theorem dL_law_1951 : decode cL_law 1951 = .ok (.iload 4, 2) := dop_21 (lbg_30 (j := 31) (v := 0x15) (by decide +kernel)) (lbg_30 (j := 32) (v := 0x04) (by decide +kernel))
theorem dL_law_1953 : decode cL_law 1953 = .ok (.iconst 1, 1) := dop_4 (lbg_30 (j := 33) (v := 0x04) (by decide +kernel))
theorem dL_law_1954 : decode cL_law 1954 = .ok (.iadd, 1) := dop_96 (lbg_30 (j := 34) (v := 0x60) (by decide +kernel))
theorem dL_law_1955 : decode cL_law 1955 = .ok (.iaload, 1) := dop_46 (lbg_30 (j := 35) (v := 0x2e) (by decide +kernel))
theorem dL_law_1956 : decode cL_law 1956 = .ok (.invokevirtual 306, 3) := dop_182 (lbg_30 (j := 36) (v := 0xb6) (by decide +kernel)) (lbg_30 (j := 37) (v := 0x01) (by decide +kernel)) (lbg_30 (j := 38) (v := 0x32) (by decide +kernel))
theorem dL_law_1959 : decode cL_law 1959 = .ok (.istore 6, 2) := dop_54 (lbg_30 (j := 39) (v := 0x36) (by decide +kernel)) (lbg_30 (j := 40) (v := 0x06) (by decide +kernel))
theorem dL_law_1961 : decode cL_law 1961 = .ok (.goto 42, 3) := dop_167 (lbg_30 (j := 41) (v := 0xa7) (by decide +kernel)) (lbg_30 (j := 42) (v := 0x00) (by decide +kernel)) (lbg_30 (j := 43) (v := 0x2a) (by decide +kernel)) (by decide +kernel)
theorem dL_law_1964 : decode cL_law 1964 = .ok (.aload_n 1, 1) := dop_43 (lbg_30 (j := 44) (v := 0x2b) (by decide +kernel))
theorem dL_law_1965 : decode cL_law 1965 = .ok (.invokevirtual 307, 3) := dop_182 (lbg_30 (j := 45) (v := 0xb6) (by decide +kernel)) (lbg_30 (j := 46) (v := 0x01) (by decide +kernel)) (lbg_30 (j := 47) (v := 0x33) (by decide +kernel))
theorem dop_87 {a : ByteArray} {pc : Nat} (h0 : a.data.toList[pc]? = some 87) : decode a pc = .ok (.pop, 1) := by
  refine (dec_step (q := pc + 1) ?_).trans (by rw [Nat.add_sub_cancel_left])
  unfold Decoder.instr
  rw [bind_ok (u1_of h0)]
  rfl
theorem dL_law_1968 : decode cL_law 1968 = .ok (.pop, 1) := dop_87 (lbg_30 (j := 48) (v := 0x57) (by decide +kernel))
theorem dL_law_1969 : decode cL_law 1969 = .ok (.aload_n 2, 1) := dop_44 (lbg_30 (j := 49) (v := 0x2c) (by decide +kernel))
theorem dL_law_1970 : decode cL_law 1970 = .ok (.invokevirtual 310, 3) := dop_182 (lbg_30 (j := 50) (v := 0xb6) (by decide +kernel)) (lbg_30 (j := 51) (v := 0x01) (by decide +kernel)) (lbg_30 (j := 52) (v := 0x36) (by decide +kernel))
theorem dL_law_1973 : decode cL_law 1973 = .ok (.pop, 1) := dop_87 (lbg_30 (j := 53) (v := 0x57) (by decide +kernel))
theorem dL_law_1974 : decode cL_law 1974 = .ok (.goto 29, 3) := dop_167 (lbg_30 (j := 54) (v := 0xa7) (by decide +kernel)) (lbg_30 (j := 55) (v := 0x00) (by decide +kernel)) (lbg_30 (j := 56) (v := 0x1d) (by decide +kernel)) (by decide +kernel)
theorem dL_law_1977 : decode cL_law 1977 = .ok (.aload_n 1, 1) := dop_43 (lbg_30 (j := 57) (v := 0x2b) (by decide +kernel))
theorem dL_law_1978 : decode cL_law 1978 = .ok (.invokevirtual 311, 3) := dop_182 (lbg_30 (j := 58) (v := 0xb6) (by decide +kernel)) (lbg_30 (j := 59) (v := 0x01) (by decide +kernel)) (lbg_30 (j := 60) (v := 0x37) (by decide +kernel))
theorem dL_law_1981 : decode cL_law 1981 = .ok (.pop, 1) := dop_87 (lbg_30 (j := 61) (v := 0x57) (by decide +kernel))
theorem dL_law_1982 : decode cL_law 1982 = .ok (.aload_n 2, 1) := dop_44 (lbg_30 (j := 62) (v := 0x2c) (by decide +kernel))
theorem dL_law_1983 : decode cL_law 1983 = .ok (.invokevirtual 315, 3) := dop_182 (lbg_30 (j := 63) (v := 0xb6) (by decide +kernel)) (lbg_31 (j := 0) (v := 0x01) (by decide +kernel)) (lbg_31 (j := 1) (v := 0x3b) (by decide +kernel))
theorem dL_law_1986 : decode cL_law 1986 = .ok (.pop, 1) := dop_87 (lbg_31 (j := 2) (v := 0x57) (by decide +kernel))
theorem dL_law_1987 : decode cL_law 1987 = .ok (.goto 16, 3) := dop_167 (lbg_31 (j := 3) (v := 0xa7) (by decide +kernel)) (lbg_31 (j := 4) (v := 0x00) (by decide +kernel)) (lbg_31 (j := 5) (v := 0x10) (by decide +kernel)) (by decide +kernel)
theorem dL_law_1990 : decode cL_law 1990 = .ok (.aload_n 1, 1) := dop_43 (lbg_31 (j := 6) (v := 0x2b) (by decide +kernel))
theorem dL_law_1991 : decode cL_law 1991 = .ok (.invokevirtual 316, 3) := dop_182 (lbg_31 (j := 7) (v := 0xb6) (by decide +kernel)) (lbg_31 (j := 8) (v := 0x01) (by decide +kernel)) (lbg_31 (j := 9) (v := 0x3c) (by decide +kernel))
theorem dop_88 {a : ByteArray} {pc : Nat} (h0 : a.data.toList[pc]? = some 88) : decode a pc = .ok (.pop2, 1) := by
  refine (dec_step (q := pc + 1) ?_).trans (by rw [Nat.add_sub_cancel_left])
  unfold Decoder.instr
  rw [bind_ok (u1_of h0)]
  rfl
theorem dL_law_1994 : decode cL_law 1994 = .ok (.pop2, 1) := dop_88 (lbg_31 (j := 10) (v := 0x58) (by decide +kernel))
theorem dL_law_1995 : decode cL_law 1995 = .ok (.aload_n 2, 1) := dop_44 (lbg_31 (j := 11) (v := 0x2c) (by decide +kernel))
theorem dL_law_1996 : decode cL_law 1996 = .ok (.invokevirtual 320, 3) := dop_182 (lbg_31 (j := 12) (v := 0xb6) (by decide +kernel)) (lbg_31 (j := 13) (v := 0x01) (by decide +kernel)) (lbg_31 (j := 14) (v := 0x40) (by decide +kernel))
theorem dL_law_1999 : decode cL_law 1999 = .ok (.pop2, 1) := dop_88 (lbg_31 (j := 15) (v := 0x58) (by decide +kernel))
theorem dL_law_2000 : decode cL_law 2000 = .ok (.goto 3, 3) := dop_167 (lbg_31 (j := 16) (v := 0xa7) (by decide +kernel)) (lbg_31 (j := 17) (v := 0x00) (by decide +kernel)) (lbg_31 (j := 18) (v := 0x03) (by decide +kernel)) (by decide +kernel)
theorem dop_132 {a : ByteArray} {pc : Nat} (h0 : a.data.toList[pc]? = some 132) {x y : UInt8} (h1 : a.data.toList[pc + 1]? = some x) (h2 : a.data.toList[pc + 1 + 1]? = some y) {z : Int} (hz : Reader.signed 8 y.toNat = z) : decode a pc = .ok (.iinc x.toNat z, 3) := by
  subst hz
  refine (dec_step (q := pc + 3) ?_).trans (by rw [Nat.add_sub_cancel_left])
  unfold Decoder.instr
  rw [bind_ok (u1_of h0)]
  show (((Reader.u1 : Decoder Nat) >>= fun u => (Reader.s1 : Decoder Int) >>= fun w => (pure (.iinc u w) : Decoder Instr)).run a).run (pc + 1) = _
  rw [bind_ok (u1_of h1), bind_ok (s1_of h2)]
  rfl
theorem dL_law_2003 : decode cL_law 2003 = .ok (.iinc 4 6, 3) := dop_132 (lbg_31 (j := 19) (v := 0x84) (by decide +kernel)) (lbg_31 (j := 20) (v := 0x04) (by decide +kernel)) (lbg_31 (j := 21) (v := 0x06) (by decide +kernel)) (by decide +kernel)
theorem dL_law_2006 : decode cL_law 2006 = .ok (.goto (-1979), 3) := dop_167 (lbg_31 (j := 22) (v := 0xa7) (by decide +kernel)) (lbg_31 (j := 23) (v := 0xf8) (by decide +kernel)) (lbg_31 (j := 24) (v := 0x45) (by decide +kernel)) (by decide +kernel)
theorem dL_law_2009 : decode cL_law 2009 = .ok (.iconst 1, 1) := dop_4 (lbg_31 (j := 25) (v := 0x04) (by decide +kernel))
theorem dL_law_2010 : decode cL_law 2010 = .ok (.ireturn, 1) := dop_172 (lbg_31 (j := 26) (v := 0xac) (by decide +kernel))
