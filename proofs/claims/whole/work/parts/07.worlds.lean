/-! MY WORLDS: what each object of the class and of the reference holds, as a value; its cells; its setters. -/
abbrev Mo : Type := (Nat → Int32) × (Nat → Int32) × (Nat → Int32) × (Nat → Int32) × Int32 × Int32 × Int32
abbrev Cl : Type := (Nat → Int32) × Int32 × Int32
abbrev Hi : Type := Int32 × Int32 × (Nat → Mo)
abbrev Tx : Type := (Nat → Int32) × Int32
abbrev Pc : Type := Mo × Mo × Cl × Hi × Tx
abbrev Md : Type := (Nat → Int32) × (Nat → Int32) × (Nat → Int32) × (Nat → Int32) × (Nat → Int32) × (Nat → Int32) × Int32 × Int32 × Int32 × Int32 × Int32 × Int32
/-- the row of the saved places -/
def hiF (ha : Nat → Nat) : Nat → Option Nat := fun j => some (ha (2 + 5 * j))
def AIW (g : JG) (a n : Nat) (f : Nat → Int32) : va_W := [(a, .inl (g.2 0, n, .inl f))]
def ALW (g : JG) (a n : Nat) (f : Nat → Int64) : va_W := [(a, .inl (g.2 2, n, .inr (.inl f)))]
def MoW (g : JG) (a0 a1 a2 a3 a4 : Nat) (w : Mo) : va_W := [(a0, .inr (2, [.ref a1, .ref a2, .ref a3, .ref a4, .int w.2.2.2.2.1, .int w.2.2.2.2.2.1, .int w.2.2.2.2.2.2])), (a1, .inl (g.2 0, 6, .inl w.1)), (a2, .inl (g.2 0, 6, .inl w.2.1)), (a3, .inl (g.2 0, 360, .inl w.2.2.1)), (a4, .inl (g.2 0, 7, .inl w.2.2.2.1))]
def ClW (g : JG) (a0 a1 : Nat) (w : Cl) : va_W := [(a0, .inr (0, [.ref a1, .int w.2.1, .int w.2.2])), (a1, .inl (g.2 0, 61, .inl w.1))]
def TxW (g : JG) (a0 a1 : Nat) (w : Tx) : va_W := [(a0, .inr (3, [.ref a1, .int w.2])), (a1, .inl (g.2 1, 60, .inl w.1))]
def MdW (g : JG) (a0 a1 a2 a3 a4 a5 a6 : Nat) (w : Md) : va_W := [(a0, .inr (5, [.ref a1, .ref a2, .ref a3, .int w.2.2.2.2.2.2.1, .ref a4, .int w.2.2.2.2.2.2.2.1, .int w.2.2.2.2.2.2.2.2.1, .int w.2.2.2.2.2.2.2.2.2.1, .int w.2.2.2.2.2.2.2.2.2.2.1, .ref a5, .int w.2.2.2.2.2.2.2.2.2.2.2, .ref a6])), (a1, .inl (g.2 0, 376, .inl w.1)), (a2, .inl (g.2 0, 376, .inl w.2.1)), (a3, .inl (g.2 0, 2256, .inl w.2.2.1)), (a4, .inl (g.2 0, 60, .inl w.2.2.2.1)), (a5, .inl (g.2 0, 180, .inl w.2.2.2.2.1)), (a6, .inl (g.2 0, 61, .inl w.2.2.2.2.2.1))]
def HiO (g : JG) (ha : Nat → Nat) (w : Hi) : va_W := [((ha 0), .inr (1, [.ref (ha 1), .int w.1, .int w.2.1])), ((ha 1), .inl (g.2 3, 6, .inr (.inr (.inr (.inr (hiF ha))))))]
def HiB (g : JG) (ha : Nat → Nat) (w : Hi) : List va_W := [HiO g ha w, MoW g (ha 2) (ha 3) (ha 4) (ha 5) (ha 6) (w.2.2 0), MoW g (ha 7) (ha 8) (ha 9) (ha 10) (ha 11) (w.2.2 1), MoW g (ha 12) (ha 13) (ha 14) (ha 15) (ha 16) (w.2.2 2), MoW g (ha 17) (ha 18) (ha 19) (ha 20) (ha 21) (w.2.2 3), MoW g (ha 22) (ha 23) (ha 24) (ha 25) (ha 26) (w.2.2 4), MoW g (ha 27) (ha 28) (ha 29) (ha 30) (ha 31) (w.2.2 5)]
def PcO (g : JG) (ad : Nat → Nat) : va_W := [(ad 0, .inr (4, [.ref (ad 1), .ref (ad 6), .ref (ad 11), .ref (ad 13), .ref (ad 45)]))]
def PcB (g : JG) (ad : Nat → Nat) (w : Pc) : List va_W := [PcO g ad, MoW g (ad 1) (ad 2) (ad 3) (ad 4) (ad 5) w.1, MoW g (ad 6) (ad 7) (ad 8) (ad 9) (ad 10) w.2.1, ClW g (ad 11) (ad 12) w.2.2.1] ++ HiB g (fun i => ad (13 + i)) w.2.2.2.1 ++ [TxW g (ad 45) (ad 46) w.2.2.2.2]
abbrev mo_c (w : Mo) (x : (Nat → Int32)) : Mo := (x, w.2)
abbrev mo_t (w : Mo) (x : (Nat → Int32)) : Mo := (w.1, x, w.2.2)
abbrev mo_b (w : Mo) (x : (Nat → Int32)) : Mo := (w.1, w.2.1, x, w.2.2.2)
abbrev mo_s (w : Mo) (x : (Nat → Int32)) : Mo := (w.1, w.2.1, w.2.2.1, x, w.2.2.2.2)
abbrev mo_r (w : Mo) (x : Int32) : Mo := (w.1, w.2.1, w.2.2.1, w.2.2.2.1, x, w.2.2.2.2.2)
abbrev mo_k (w : Mo) (x : Int32) : Mo := (w.1, w.2.1, w.2.2.1, w.2.2.2.1, w.2.2.2.2.1, x, w.2.2.2.2.2.2)
abbrev mo_w (w : Mo) (x : Int32) : Mo := (w.1, w.2.1, w.2.2.1, w.2.2.2.1, w.2.2.2.2.1, w.2.2.2.2.2.1, x)
abbrev cl_a (w : Cl) (x : (Nat → Int32)) : Cl := (x, w.2)
abbrev cl_f (w : Cl) (x : Int32) : Cl := (w.1, x, w.2.2)
abbrev cl_g (w : Cl) (x : Int32) : Cl := (w.1, w.2.1, x)
abbrev hi_n (w : Hi) (x : Int32) : Hi := (x, w.2)
abbrev hi_m (w : Hi) (x : Int32) : Hi := (w.1, x, w.2.2)
abbrev hi_s (w : Hi) (j : Nat) (x : Mo) : Hi := (w.1, w.2.1, fun i => if i = j then x else w.2.2 i)
abbrev tx_s (w : Tx) (x : (Nat → Int32)) : Tx := (x, w.2)
abbrev tx_l (w : Tx) (x : Int32) : Tx := (w.1, x)
abbrev pc_m (w : Pc) (x : Mo) : Pc := (x, w.2)
abbrev pc_t (w : Pc) (x : Mo) : Pc := (w.1, x, w.2.2)
abbrev pc_c (w : Pc) (x : Cl) : Pc := (w.1, w.2.1, x, w.2.2.2)
abbrev pc_h (w : Pc) (x : Hi) : Pc := (w.1, w.2.1, w.2.2.1, x, w.2.2.2.2)
abbrev pc_x (w : Pc) (x : Tx) : Pc := (w.1, w.2.1, w.2.2.1, w.2.2.2.1, x)
abbrev md_now (w : Md) (x : (Nat → Int32)) : Md := (x, w.2)
abbrev md_then (w : Md) (x : (Nat → Int32)) : Md := (w.1, x, w.2.2)
abbrev md_past (w : Md) (x : (Nat → Int32)) : Md := (w.1, w.2.1, x, w.2.2.2)
abbrev md_text (w : Md) (x : (Nat → Int32)) : Md := (w.1, w.2.1, w.2.2.1, x, w.2.2.2.2)
abbrev md_told (w : Md) (x : (Nat → Int32)) : Md := (w.1, w.2.1, w.2.2.1, w.2.2.2.1, x, w.2.2.2.2.2)
abbrev md_few (w : Md) (x : (Nat → Int32)) : Md := (w.1, w.2.1, w.2.2.1, w.2.2.2.1, w.2.2.2.2.1, x, w.2.2.2.2.2.2)
abbrev md_kept (w : Md) (x : Int32) : Md := (w.1, w.2.1, w.2.2.1, w.2.2.2.1, w.2.2.2.2.1, w.2.2.2.2.2.1, x, w.2.2.2.2.2.2.2)
abbrev md_typed (w : Md) (x : Int32) : Md := (w.1, w.2.1, w.2.2.1, w.2.2.2.1, w.2.2.2.2.1, w.2.2.2.2.2.1, w.2.2.2.2.2.2.1, x, w.2.2.2.2.2.2.2.2)
abbrev md_thrown (w : Md) (x : Int32) : Md := (w.1, w.2.1, w.2.2.1, w.2.2.2.1, w.2.2.2.2.1, w.2.2.2.2.2.1, w.2.2.2.2.2.2.1, w.2.2.2.2.2.2.2.1, x, w.2.2.2.2.2.2.2.2.2)
abbrev md_at (w : Md) (x : Int32) : Md := (w.1, w.2.1, w.2.2.1, w.2.2.2.1, w.2.2.2.2.1, w.2.2.2.2.2.1, w.2.2.2.2.2.2.1, w.2.2.2.2.2.2.2.1, w.2.2.2.2.2.2.2.2.1, x, w.2.2.2.2.2.2.2.2.2.2)
abbrev md_isFault (w : Md) (x : Int32) : Md := (w.1, w.2.1, w.2.2.1, w.2.2.2.1, w.2.2.2.2.1, w.2.2.2.2.2.1, w.2.2.2.2.2.2.1, w.2.2.2.2.2.2.2.1, w.2.2.2.2.2.2.2.2.1, w.2.2.2.2.2.2.2.2.2.1, x, w.2.2.2.2.2.2.2.2.2.2.2)
abbrev md_tolds (w : Md) (x : Int32) : Md := (w.1, w.2.1, w.2.2.1, w.2.2.2.1, w.2.2.2.2.1, w.2.2.2.2.2.1, w.2.2.2.2.2.2.1, w.2.2.2.2.2.2.2.1, w.2.2.2.2.2.2.2.2.1, w.2.2.2.2.2.2.2.2.2.1, w.2.2.2.2.2.2.2.2.2.2.1, x)
