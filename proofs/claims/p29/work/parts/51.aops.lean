def a_div (x y : Int) : Int := a_w (x.tdiv y)
def a_rem (x y : Int) : Int := a_w (x - a_w (a_w (x.tdiv y) * y))
def a_and (x y : Int) : Int := (Int32.ofInt x &&& Int32.ofInt y).toInt
def a_or (x y : Int) : Int := (Int32.ofInt x ||| Int32.ofInt y).toInt
def a_xor (x y : Int) : Int := (Int32.ofInt x ^^^ Int32.ofInt y).toInt
def a_shl (x y : Int) : Int := (Int32.ofInt x <<< (Int32.ofInt y &&& 31)).toInt
def a_shr (x y : Int) : Int := (Int32.ofInt x >>> (Int32.ofInt y &&& 31)).toInt
def a_ush (x y : Int) : Int := ((Int32.ofInt x).toUInt32 >>> ((Int32.ofInt y).toUInt32 &&& Int32.toUInt32 31)).toInt32.toInt
def a_ldv (x y : Int) : Int := a_wl (x.tdiv y)
def a_lrm (x y : Int) : Int := a_wl (x - a_wl (a_wl (x.tdiv y) * y))
def a_lan (x y : Int) : Int := (Int64.ofInt x &&& Int64.ofInt y).toInt
def a_lor (x y : Int) : Int := (Int64.ofInt x ||| Int64.ofInt y).toInt
def a_lsh (x y : Int) : Int := (Int64.ofInt x <<< ((Int32.ofInt y).toInt64 &&& 63)).toInt
def a_max (x y : Int) : Int := if x < y then y else x
def a_min (x y : Int) : Int := if y < x then y else x
def a_txt (x : Int) : List Int := match q_txs (x.toNat - 1000) with
  | some l => l
  | none => []
def a_tl (x : Int) : Int := ((a_txt x).length : Int)
def a_tg (x i : Int) : Int := (a_txt x).getD i.toNat 0
def a_i2b (x : Int) : Int := Int.bmod x 256
def a_i2s (x : Int) : Int := Int.bmod x 65536
def a_i2c (x : Int) : Int := ((Int32.ofInt x).toUInt32 % 65536).toInt32.toInt
def a_chr (x : Int) : Int := (vp_nar .char (Int32.ofInt x)).toInt
def a_abs (x : Int) : Int := if 0 ≤ x then x else a_w (0 - x)
def a_un (v : Nat) (x : Int) : a_V := match v with
  | 0 => (0, a_w (-x))
  | 1 => (0, a_i2b x)
  | 2 => (0, a_i2s x)
  | 3 => (0, a_i2c x)
  | 4 => (1, x)
  | 5 => (0, a_w x)
  | 6 => (0, a_chr x)
  | 7 => (0, a_abs x)
  | 8 => (2, x + 1000)
  | 9 => (0, 0)
  | 10 => (0, a_tl x)
  | _ => (9, 0)
def a_bin (v : Nat) (x y : Int) : a_V := match v with
  | 0 => (0, a_w (x + y))
  | 1 => (0, a_w (x - y))
  | 2 => (0, a_w (x * y))
  | 3 => (0, a_div x y)
  | 4 => (0, a_rem x y)
  | 5 => (0, a_and x y)
  | 6 => (0, a_or x y)
  | 7 => (0, a_xor x y)
  | 8 => (0, a_shl x y)
  | 9 => (0, a_shr x y)
  | 10 => (0, a_ush x y)
  | 11 => (1, a_wl (x + y))
  | 12 => (1, a_wl (x - y))
  | 13 => (1, a_wl (x * y))
  | 14 => (1, a_ldv x y)
  | 15 => (1, a_lrm x y)
  | 16 => (1, a_lan x y)
  | 17 => (1, a_lor x y)
  | 18 => (1, a_lsh x y)
  | 19 => (0, s_lc x y)
  | 20 => (0, a_max x y)
  | 21 => (0, a_min x y)
  | 22 => (0, a_tg x y)
  | _ => (9, 0)
theorem a_txs {n : Nat} {l : List Int} (h : q_txs n = some l) : n < 1000 ∧ l.length < 10 ∧ ∀ x ∈ l, 0 ≤ x ∧ x < 1000 := by
  unfold q_txs at h
  split at h
  · cases h; decide
  · cases h; decide
  · cases h; decide
  · cases h
theorem a_0lt (x : Int32) : (0 ≤ x) ↔ 0 ≤ x.toInt := by
  rw [Int32.le_iff_toInt_le]
  have e : (0 : Int32).toInt = 0 := by decide
  rw [e]
set_option maxRecDepth 20000 in
theorem a_un_ok {v ka : Nat} {a r : Value} {x : Int} (h : q_un v a = some r) (he : a_of a = (ka, x)) : a_of r = a_un v x := by
  have he2 : (a_of a).2 = x := congrArg Prod.snd he
  unfold q_un at h
  split at h
  · rename_i z; cases h; subst he2; exact congrArg (Prod.mk 0) (Int32.toInt_neg z)
  · rename_i z; cases h; subst he2; exact congrArg (Prod.mk 0) ((Int8.toInt_toInt32 _).trans (Int32.toInt_toInt8 z))
  · rename_i z; cases h; subst he2; exact congrArg (Prod.mk 0) ((Int16.toInt_toInt32 _).trans (Int32.toInt_toInt16 z))
  · rename_i z; cases h; subst he2; show (0, _) = (0, a_i2c z.toInt); unfold a_i2c; rw [Int32.ofInt_toInt]
  · rename_i z; cases h; subst he2; exact congrArg (Prod.mk 1) (Int32.toInt_toInt64 z)
  · rename_i z; cases h; subst he2; exact congrArg (Prod.mk 0) (Int64.toInt_toInt32 z)
  · rename_i z; cases h; subst he2; show (0, _) = (0, a_chr z.toInt); unfold a_chr; rw [Int32.ofInt_toInt]
  · rename_i z
    cases h
    subst he2
    show (0, (if 0 ≤ z then z else 0 - z).toInt) = (0, a_abs z.toInt)
    unfold a_abs
    by_cases c : 0 ≤ z
    · rw [if_pos c, if_pos ((a_0lt z).mp c)]
    · rw [if_neg c, if_neg (fun g => c ((a_0lt z).mpr g)), Int32.toInt_sub]
      rfl
  · rename_i z
    unfold q_tval at h
    split at h
    · rename_i l hl
      cases h
      subst he2
      have := (a_txs hl).1
      show ((2 : Nat), (((UInt32.ofNat (z.toNat + 1000)).toNat : Nat) : Int)) = (2, ((z.toNat : Nat) : Int) + 1000)
      rw [UInt32.toNat_ofNat_of_lt' (by show _ < 4294967296; omega)]
      rfl
    · cases h
  · rename_i z
    unfold q_tcod at h
    split at h
    · cases h; rfl
    · cases h
  · rename_i z
    unfold q_tlen at h
    subst he2
    show a_of r = (0, a_tl (z.toNat : Int))
    unfold a_tl a_txt
    rw [Int.toNat_natCast]
    split at h
    · rename_i l hl
      cases h
      rw [hl]
      have := (a_txs hl).2.1
      show (0, (Int32.ofNat l.length).toInt) = _
      rw [Int32.toInt_ofNat_of_lt (by omega)]
    · cases h
  · cases h
theorem a_lt32 (x y : Int32) : x < y ↔ x.toInt < y.toInt := Int32.lt_iff_toInt_lt
set_option maxRecDepth 20000 in
theorem a_bin_ok {v ka kb : Nat} {a b r : Value} {x y : Int} (h : q_bin v a b = some r) (he : a_of a = (ka, x)) (hf : a_of b = (kb, y)) : a_of r = a_bin v x y := by
  have he2 : (a_of a).2 = x := congrArg Prod.snd he
  have hf2 : (a_of b).2 = y := congrArg Prod.snd hf
  unfold q_bin at h
  split at h
  · rename_i p q; cases h; subst he2 hf2; exact congrArg (Prod.mk 0) (Int32.toInt_add p q)
  · rename_i p q; cases h; subst he2 hf2; exact congrArg (Prod.mk 0) (Int32.toInt_sub p q)
  · rename_i p q; cases h; subst he2 hf2; exact congrArg (Prod.mk 0) (Int32.toInt_mul p q)
  · rename_i p q
    split at h
    · cases h
    · cases h; subst he2 hf2; exact congrArg (Prod.mk 0) (Int32.toInt_div p q)
  · rename_i p q
    split at h
    · cases h
    · cases h; subst he2 hf2; show (0, (p - p / q * q).toInt) = (0, a_rem p.toInt q.toInt); unfold a_rem a_w; rw [Int32.toInt_sub, Int32.toInt_mul, Int32.toInt_div]
  · rename_i p q; cases h; subst he2 hf2; show (0, _) = (0, a_and p.toInt q.toInt); unfold a_and; rw [Int32.ofInt_toInt, Int32.ofInt_toInt]
  · rename_i p q; cases h; subst he2 hf2; show (0, _) = (0, a_or p.toInt q.toInt); unfold a_or; rw [Int32.ofInt_toInt, Int32.ofInt_toInt]
  · rename_i p q; cases h; subst he2 hf2; show (0, _) = (0, a_xor p.toInt q.toInt); unfold a_xor; rw [Int32.ofInt_toInt, Int32.ofInt_toInt]
  · rename_i p q; cases h; subst he2 hf2; show (0, _) = (0, a_shl p.toInt q.toInt); unfold a_shl; rw [Int32.ofInt_toInt, Int32.ofInt_toInt]
  · rename_i p q; cases h; subst he2 hf2; show (0, _) = (0, a_shr p.toInt q.toInt); unfold a_shr; rw [Int32.ofInt_toInt, Int32.ofInt_toInt]
  · rename_i p q; cases h; subst he2 hf2; show (0, _) = (0, a_ush p.toInt q.toInt); unfold a_ush; rw [Int32.ofInt_toInt, Int32.ofInt_toInt]
  · rename_i p q; cases h; subst he2 hf2; exact congrArg (Prod.mk 1) (Int64.toInt_add p q)
  · rename_i p q; cases h; subst he2 hf2; exact congrArg (Prod.mk 1) (Int64.toInt_sub p q)
  · rename_i p q; cases h; subst he2 hf2; exact congrArg (Prod.mk 1) (Int64.toInt_mul p q)
  · rename_i p q
    split at h
    · cases h
    · cases h; subst he2 hf2; exact congrArg (Prod.mk 1) (Int64.toInt_div p q)
  · rename_i p q
    split at h
    · cases h
    · cases h; subst he2 hf2; show (1, (p - p / q * q).toInt) = (1, a_lrm p.toInt q.toInt); unfold a_lrm a_wl; rw [Int64.toInt_sub, Int64.toInt_mul, Int64.toInt_div]
  · rename_i p q; cases h; subst he2 hf2; show (1, _) = (1, a_lan p.toInt q.toInt); unfold a_lan; rw [Int64.ofInt_toInt, Int64.ofInt_toInt]
  · rename_i p q; cases h; subst he2 hf2; show (1, _) = (1, a_lor p.toInt q.toInt); unfold a_lor; rw [Int64.ofInt_toInt, Int64.ofInt_toInt]
  · rename_i p q; cases h; subst he2 hf2; show (1, _) = (1, a_lsh p.toInt q.toInt); unfold a_lsh; rw [Int64.ofInt_toInt, Int32.ofInt_toInt]
  · rename_i p q; cases h; subst he2 hf2; exact congrArg (Prod.mk 0) (s_lc_ok p q)
  · rename_i p q
    cases h
    subst he2 hf2
    show (0, (if p < q then q else p).toInt) = (0, a_max p.toInt q.toInt)
    unfold a_max
    by_cases c : p < q
    · rw [if_pos c, if_pos ((a_lt32 p q).mp c)]
    · rw [if_neg c, if_neg (fun g => c ((a_lt32 p q).mpr g))]
  · rename_i p q
    cases h
    subst he2 hf2
    show (0, (if q < p then q else p).toInt) = (0, a_min p.toInt q.toInt)
    unfold a_min
    by_cases c : q < p
    · rw [if_pos c, if_pos ((a_lt32 q p).mp c)]
    · rw [if_neg c, if_neg (fun g => c ((a_lt32 q p).mpr g))]
  · rename_i p q
    unfold q_tget at h
    subst he2 hf2
    show a_of r = (0, a_tg (p.toNat : Int) q.toInt)
    unfold a_tg a_txt
    rw [Int.toNat_natCast]
    split at h
    · rename_i l hl
      rw [hl]
      split at h
      · cases h
      · split at h
        · rename_i c
          cases h
          show (0, (Int32.ofInt (l.getD q.toNatClampNeg 0)).toInt) = (0, l.getD q.toInt.toNat 0)
          have e : q.toNatClampNeg = q.toInt.toNat := rfl
          rw [← e]
          have g := (a_txs hl).2.2 (l.getD q.toNatClampNeg 0) (by rw [List.getD_eq_getElem?_getD, List.getElem?_eq_getElem c]; exact List.getElem_mem c)
          rw [Int32.toInt_ofInt]
          exact congrArg (Prod.mk 0) (q_bm (by omega) (by omega))
        · cases h
    · cases h
  · cases h
