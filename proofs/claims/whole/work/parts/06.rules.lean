-- ===== THE RULES (written by wip/mkrules.py) =====
def am_r_iconst  (k : am_K) (P : Nat → List Value → List Value → am_H → Prop) : Prop := ∀ (pc : Nat) (L S : List Value) (h : am_H) (n : Int) (v : Int32), decode k.2.1 pc = .ok (.iconst n, 1) → (Int32.ofInt n = v) → P (pc + 1) (L) (.int v :: S) h → P pc L (S) h
def am_r_bipush  (k : am_K) (P : Nat → List Value → List Value → am_H → Prop) : Prop := ∀ (pc : Nat) (L S : List Value) (h : am_H) (n : Int) (v : Int32), decode k.2.1 pc = .ok (.bipush n, 2) → ((Int8.ofInt n).toInt32 = v) → P (pc + 2) (L) (.int v :: S) h → P pc L (S) h
def am_r_sipush  (k : am_K) (P : Nat → List Value → List Value → am_H → Prop) : Prop := ∀ (pc : Nat) (L S : List Value) (h : am_H) (n : Int) (v : Int32), decode k.2.1 pc = .ok (.sipush n, 3) → ((Int16.ofInt n).toInt32 = v) → P (pc + 3) (L) (.int v :: S) h → P pc L (S) h
def am_r_lconst  (k : am_K) (P : Nat → List Value → List Value → am_H → Prop) : Prop := ∀ (pc : Nat) (L S : List Value) (h : am_H) (n : Fin 2) (v : Int64), decode k.2.1 pc = .ok (.lconst n, 1) → (Int64.ofNat (n : Nat) = v) → P (pc + 1) (L) (.long v :: S) h → P pc L (S) h
def am_r_iload_n  (k : am_K) (P : Nat → List Value → List Value → am_H → Prop) : Prop := ∀ (pc : Nat) (L S : List Value) (h : am_H) (q : Fin 4) (x : Int32), decode k.2.1 pc = .ok (.iload_n q, 1) → (L[(q : Nat)]? = some (.int x)) → P (pc + 1) (L) (.int x :: S) h → P pc L (S) h
def am_r_iload  (k : am_K) (P : Nat → List Value → List Value → am_H → Prop) : Prop := ∀ (pc : Nat) (L S : List Value) (h : am_H) (q : Nat) (x : Int32), decode k.2.1 pc = .ok (.iload q, 2) → (L[q]? = some (.int x)) → P (pc + 2) (L) (.int x :: S) h → P pc L (S) h
def am_r_istore_n  (k : am_K) (P : Nat → List Value → List Value → am_H → Prop) : Prop := ∀ (pc : Nat) (L S : List Value) (h : am_H) (q : Fin 4) (x : Int32), decode k.2.1 pc = .ok (.istore_n q, 1) → ((q : Nat) < k.2.2.1) → P (pc + 1) (am_st1 L q (.int x)) (S) h → P pc L (.int x :: S) h
def am_r_istore  (k : am_K) (P : Nat → List Value → List Value → am_H → Prop) : Prop := ∀ (pc : Nat) (L S : List Value) (h : am_H) (q : Nat) (x : Int32), decode k.2.1 pc = .ok (.istore q, 2) → (q < k.2.2.1) → P (pc + 2) (am_st1 L q (.int x)) (S) h → P pc L (.int x :: S) h
def am_r_lload_n  (k : am_K) (P : Nat → List Value → List Value → am_H → Prop) : Prop := ∀ (pc : Nat) (L S : List Value) (h : am_H) (q : Fin 4) (x : Int64), decode k.2.1 pc = .ok (.lload_n q, 1) → (L[(q : Nat)]? = some (.long x)) → P (pc + 1) (L) (.long x :: S) h → P pc L (S) h
def am_r_lload  (k : am_K) (P : Nat → List Value → List Value → am_H → Prop) : Prop := ∀ (pc : Nat) (L S : List Value) (h : am_H) (q : Nat) (x : Int64), decode k.2.1 pc = .ok (.lload q, 2) → (L[q]? = some (.long x)) → P (pc + 2) (L) (.long x :: S) h → P pc L (S) h
def am_r_lstore_n  (k : am_K) (P : Nat → List Value → List Value → am_H → Prop) : Prop := ∀ (pc : Nat) (L S : List Value) (h : am_H) (q : Fin 4) (x : Int64), decode k.2.1 pc = .ok (.lstore_n q, 1) → ((q : Nat) + 1 < k.2.2.1) → P (pc + 1) (am_st2 L q (.long x)) (S) h → P pc L (.long x :: S) h
def am_r_lstore  (k : am_K) (P : Nat → List Value → List Value → am_H → Prop) : Prop := ∀ (pc : Nat) (L S : List Value) (h : am_H) (q : Nat) (x : Int64), decode k.2.1 pc = .ok (.lstore q, 2) → (q + 1 < k.2.2.1) → P (pc + 2) (am_st2 L q (.long x)) (S) h → P pc L (.long x :: S) h
def am_r_aload_n  (k : am_K) (P : Nat → List Value → List Value → am_H → Prop) : Prop := ∀ (pc : Nat) (L S : List Value) (h : am_H) (q : Fin 4) (x : Nat), decode k.2.1 pc = .ok (.aload_n q, 1) → (L[(q : Nat)]? = some (.ref x)) → P (pc + 1) (L) (.ref x :: S) h → P pc L (S) h
def am_r_aload  (k : am_K) (P : Nat → List Value → List Value → am_H → Prop) : Prop := ∀ (pc : Nat) (L S : List Value) (h : am_H) (q : Nat) (x : Nat), decode k.2.1 pc = .ok (.aload q, 2) → (L[q]? = some (.ref x)) → P (pc + 2) (L) (.ref x :: S) h → P pc L (S) h
def am_r_astore_n  (k : am_K) (P : Nat → List Value → List Value → am_H → Prop) : Prop := ∀ (pc : Nat) (L S : List Value) (h : am_H) (q : Fin 4) (x : Nat), decode k.2.1 pc = .ok (.astore_n q, 1) → ((q : Nat) < k.2.2.1) → P (pc + 1) (am_st1 L q (.ref x)) (S) h → P pc L (.ref x :: S) h
def am_r_astore  (k : am_K) (P : Nat → List Value → List Value → am_H → Prop) : Prop := ∀ (pc : Nat) (L S : List Value) (h : am_H) (q : Nat) (x : Nat), decode k.2.1 pc = .ok (.astore q, 2) → (q < k.2.2.1) → P (pc + 2) (am_st1 L q (.ref x)) (S) h → P pc L (.ref x :: S) h
def am_r_iinc  (k : am_K) (P : Nat → List Value → List Value → am_H → Prop) : Prop := ∀ (pc : Nat) (L S : List Value) (h : am_H) (q : Nat) (n : Int) (x v : Int32), decode k.2.1 pc = .ok (.iinc q n, 3) → L[q]? = some (.int x) → x + Int32.ofInt n = v → q < k.2.2.1 → P (pc + 3) (am_st1 L q (.int v)) S h → P pc L S h
def am_r_iadd  (k : am_K) (P : Nat → List Value → List Value → am_H → Prop) : Prop := ∀ (pc : Nat) (L S : List Value) (h : am_H) (x y : Int32), decode k.2.1 pc = .ok (.iadd, 1) → P (pc + 1) (L) (.int (x + y) :: S) h → P pc L (.int y :: .int x :: S) h
def am_r_isub  (k : am_K) (P : Nat → List Value → List Value → am_H → Prop) : Prop := ∀ (pc : Nat) (L S : List Value) (h : am_H) (x y : Int32), decode k.2.1 pc = .ok (.isub, 1) → P (pc + 1) (L) (.int (x - y) :: S) h → P pc L (.int y :: .int x :: S) h
def am_r_imul  (k : am_K) (P : Nat → List Value → List Value → am_H → Prop) : Prop := ∀ (pc : Nat) (L S : List Value) (h : am_H) (x y : Int32), decode k.2.1 pc = .ok (.imul, 1) → P (pc + 1) (L) (.int (x * y) :: S) h → P pc L (.int y :: .int x :: S) h
def am_r_iand  (k : am_K) (P : Nat → List Value → List Value → am_H → Prop) : Prop := ∀ (pc : Nat) (L S : List Value) (h : am_H) (x y : Int32), decode k.2.1 pc = .ok (.iand, 1) → P (pc + 1) (L) (.int (x &&& y) :: S) h → P pc L (.int y :: .int x :: S) h
def am_r_ior  (k : am_K) (P : Nat → List Value → List Value → am_H → Prop) : Prop := ∀ (pc : Nat) (L S : List Value) (h : am_H) (x y : Int32), decode k.2.1 pc = .ok (.ior, 1) → P (pc + 1) (L) (.int (x ||| y) :: S) h → P pc L (.int y :: .int x :: S) h
def am_r_ixor  (k : am_K) (P : Nat → List Value → List Value → am_H → Prop) : Prop := ∀ (pc : Nat) (L S : List Value) (h : am_H) (x y : Int32), decode k.2.1 pc = .ok (.ixor, 1) → P (pc + 1) (L) (.int (x ^^^ y) :: S) h → P pc L (.int y :: .int x :: S) h
def am_r_ishl  (k : am_K) (P : Nat → List Value → List Value → am_H → Prop) : Prop := ∀ (pc : Nat) (L S : List Value) (h : am_H) (x y : Int32), decode k.2.1 pc = .ok (.ishl, 1) → P (pc + 1) (L) (.int (x <<< (y &&& 31)) :: S) h → P pc L (.int y :: .int x :: S) h
def am_r_ishr  (k : am_K) (P : Nat → List Value → List Value → am_H → Prop) : Prop := ∀ (pc : Nat) (L S : List Value) (h : am_H) (x y : Int32), decode k.2.1 pc = .ok (.ishr, 1) → P (pc + 1) (L) (.int (x >>> (y &&& 31)) :: S) h → P pc L (.int y :: .int x :: S) h
def am_r_iushr  (k : am_K) (P : Nat → List Value → List Value → am_H → Prop) : Prop := ∀ (pc : Nat) (L S : List Value) (h : am_H) (x y : Int32), decode k.2.1 pc = .ok (.iushr, 1) → P (pc + 1) (L) (.int (x.toUInt32 >>> (y.toUInt32 &&& Int32.toUInt32 31)).toInt32 :: S) h → P pc L (.int y :: .int x :: S) h
def am_r_idiv  (k : am_K) (P : Nat → List Value → List Value → am_H → Prop) : Prop := ∀ (pc : Nat) (L S : List Value) (h : am_H) (x y : Int32), decode k.2.1 pc = .ok (.idiv, 1) → (¬ y = 0) → P (pc + 1) (L) (.int (x / y) :: S) h → P pc L (.int y :: .int x :: S) h
def am_r_irem  (k : am_K) (P : Nat → List Value → List Value → am_H → Prop) : Prop := ∀ (pc : Nat) (L S : List Value) (h : am_H) (x y : Int32), decode k.2.1 pc = .ok (.irem, 1) → (¬ y = 0) → P (pc + 1) (L) (.int (x - x / y * y) :: S) h → P pc L (.int y :: .int x :: S) h
def am_r_ladd  (k : am_K) (P : Nat → List Value → List Value → am_H → Prop) : Prop := ∀ (pc : Nat) (L S : List Value) (h : am_H) (x y : Int64), decode k.2.1 pc = .ok (.ladd, 1) → P (pc + 1) (L) (.long (x + y) :: S) h → P pc L (.long y :: .long x :: S) h
def am_r_lsub  (k : am_K) (P : Nat → List Value → List Value → am_H → Prop) : Prop := ∀ (pc : Nat) (L S : List Value) (h : am_H) (x y : Int64), decode k.2.1 pc = .ok (.lsub, 1) → P (pc + 1) (L) (.long (x - y) :: S) h → P pc L (.long y :: .long x :: S) h
def am_r_lmul  (k : am_K) (P : Nat → List Value → List Value → am_H → Prop) : Prop := ∀ (pc : Nat) (L S : List Value) (h : am_H) (x y : Int64), decode k.2.1 pc = .ok (.lmul, 1) → P (pc + 1) (L) (.long (x * y) :: S) h → P pc L (.long y :: .long x :: S) h
def am_r_ldiv  (k : am_K) (P : Nat → List Value → List Value → am_H → Prop) : Prop := ∀ (pc : Nat) (L S : List Value) (h : am_H) (x y : Int64), decode k.2.1 pc = .ok (.ldiv, 1) → (¬ y = 0) → P (pc + 1) (L) (.long (x / y) :: S) h → P pc L (.long y :: .long x :: S) h
def am_r_lrem  (k : am_K) (P : Nat → List Value → List Value → am_H → Prop) : Prop := ∀ (pc : Nat) (L S : List Value) (h : am_H) (x y : Int64), decode k.2.1 pc = .ok (.lrem, 1) → (¬ y = 0) → P (pc + 1) (L) (.long (x - x / y * y) :: S) h → P pc L (.long y :: .long x :: S) h
def am_r_i2l  (k : am_K) (P : Nat → List Value → List Value → am_H → Prop) : Prop := ∀ (pc : Nat) (L S : List Value) (h : am_H) (x : Int32), decode k.2.1 pc = .ok (.i2l, 1) → P (pc + 1) (L) (.long x.toInt64 :: S) h → P pc L (.int x :: S) h
def am_r_l2i  (k : am_K) (P : Nat → List Value → List Value → am_H → Prop) : Prop := ∀ (pc : Nat) (L S : List Value) (h : am_H) (x : Int64), decode k.2.1 pc = .ok (.l2i, 1) → P (pc + 1) (L) (.int x.toInt32 :: S) h → P pc L (.long x :: S) h
def am_r_i2b  (k : am_K) (P : Nat → List Value → List Value → am_H → Prop) : Prop := ∀ (pc : Nat) (L S : List Value) (h : am_H) (x : Int32), decode k.2.1 pc = .ok (.i2b, 1) → P (pc + 1) (L) (.int x.toInt8.toInt32 :: S) h → P pc L (.int x :: S) h
def am_r_lcmp  (k : am_K) (P : Nat → List Value → List Value → am_H → Prop) : Prop := ∀ (pc : Nat) (L S : List Value) (h : am_H) (x y : Int64), decode k.2.1 pc = .ok (.lcmp, 1) → P (pc + 1) (L) (.int (lg_cmp x y) :: S) h → P pc L (.long y :: .long x :: S) h
def am_r_dup  (k : am_K) (P : Nat → List Value → List Value → am_H → Prop) : Prop := ∀ (pc : Nat) (L S : List Value) (h : am_H) (v : Value), decode k.2.1 pc = .ok (.dup, 1) → (v.category = 1) → P (pc + 1) (L) (v :: v :: S) h → P pc L (v :: S) h
def am_r_pop  (k : am_K) (P : Nat → List Value → List Value → am_H → Prop) : Prop := ∀ (pc : Nat) (L S : List Value) (h : am_H) (v : Value), decode k.2.1 pc = .ok (.pop, 1) → (v.category = 1) → P (pc + 1) (L) (S) h → P pc L (v :: S) h
def am_r_dup2  (k : am_K) (P : Nat → List Value → List Value → am_H → Prop) : Prop := ∀ (pc : Nat) (L S : List Value) (h : am_H) (v w : Value), decode k.2.1 pc = .ok (.dup2, 1) → (v.category = 1) → (w.category = 1) → P (pc + 1) (L) (v :: w :: v :: w :: S) h → P pc L (v :: w :: S) h
def am_r_if_eq  (k : am_K) (P : Nat → List Value → List Value → am_H → Prop) : Prop := ∀ (pc : Nat) (L S : List Value) (h : am_H) (x : Int32) (off : Int) (tgt : Nat), decode k.2.1 pc = .ok (.ifCond .eq off, 3) → (pc : Int) + off = (tgt : Int) → (x = 0 → P tgt L S h) → (¬ x = 0 → P (pc + 3) L S h) → P pc L (.int x :: S) h
def am_r_icmp_eq  (k : am_K) (P : Nat → List Value → List Value → am_H → Prop) : Prop := ∀ (pc : Nat) (L S : List Value) (h : am_H) (x y : Int32) (off : Int) (tgt : Nat), decode k.2.1 pc = .ok (.if_icmp .eq off, 3) → (pc : Int) + off = (tgt : Int) → (x = y → P tgt L S h) → (¬ x = y → P (pc + 3) L S h) → P pc L (.int y :: .int x :: S) h
def am_r_if_ne  (k : am_K) (P : Nat → List Value → List Value → am_H → Prop) : Prop := ∀ (pc : Nat) (L S : List Value) (h : am_H) (x : Int32) (off : Int) (tgt : Nat), decode k.2.1 pc = .ok (.ifCond .ne off, 3) → (pc : Int) + off = (tgt : Int) → (¬ x = 0 → P tgt L S h) → (x = 0 → P (pc + 3) L S h) → P pc L (.int x :: S) h
def am_r_icmp_ne  (k : am_K) (P : Nat → List Value → List Value → am_H → Prop) : Prop := ∀ (pc : Nat) (L S : List Value) (h : am_H) (x y : Int32) (off : Int) (tgt : Nat), decode k.2.1 pc = .ok (.if_icmp .ne off, 3) → (pc : Int) + off = (tgt : Int) → (¬ x = y → P tgt L S h) → (x = y → P (pc + 3) L S h) → P pc L (.int y :: .int x :: S) h
def am_r_if_lt  (k : am_K) (P : Nat → List Value → List Value → am_H → Prop) : Prop := ∀ (pc : Nat) (L S : List Value) (h : am_H) (x : Int32) (off : Int) (tgt : Nat), decode k.2.1 pc = .ok (.ifCond .lt off, 3) → (pc : Int) + off = (tgt : Int) → (x < 0 → P tgt L S h) → (¬ x < 0 → P (pc + 3) L S h) → P pc L (.int x :: S) h
def am_r_icmp_lt  (k : am_K) (P : Nat → List Value → List Value → am_H → Prop) : Prop := ∀ (pc : Nat) (L S : List Value) (h : am_H) (x y : Int32) (off : Int) (tgt : Nat), decode k.2.1 pc = .ok (.if_icmp .lt off, 3) → (pc : Int) + off = (tgt : Int) → (x < y → P tgt L S h) → (¬ x < y → P (pc + 3) L S h) → P pc L (.int y :: .int x :: S) h
def am_r_if_ge  (k : am_K) (P : Nat → List Value → List Value → am_H → Prop) : Prop := ∀ (pc : Nat) (L S : List Value) (h : am_H) (x : Int32) (off : Int) (tgt : Nat), decode k.2.1 pc = .ok (.ifCond .ge off, 3) → (pc : Int) + off = (tgt : Int) → (0 ≤ x → P tgt L S h) → (¬ 0 ≤ x → P (pc + 3) L S h) → P pc L (.int x :: S) h
def am_r_icmp_ge  (k : am_K) (P : Nat → List Value → List Value → am_H → Prop) : Prop := ∀ (pc : Nat) (L S : List Value) (h : am_H) (x y : Int32) (off : Int) (tgt : Nat), decode k.2.1 pc = .ok (.if_icmp .ge off, 3) → (pc : Int) + off = (tgt : Int) → (y ≤ x → P tgt L S h) → (¬ y ≤ x → P (pc + 3) L S h) → P pc L (.int y :: .int x :: S) h
def am_r_if_gt  (k : am_K) (P : Nat → List Value → List Value → am_H → Prop) : Prop := ∀ (pc : Nat) (L S : List Value) (h : am_H) (x : Int32) (off : Int) (tgt : Nat), decode k.2.1 pc = .ok (.ifCond .gt off, 3) → (pc : Int) + off = (tgt : Int) → (0 < x → P tgt L S h) → (¬ 0 < x → P (pc + 3) L S h) → P pc L (.int x :: S) h
def am_r_icmp_gt  (k : am_K) (P : Nat → List Value → List Value → am_H → Prop) : Prop := ∀ (pc : Nat) (L S : List Value) (h : am_H) (x y : Int32) (off : Int) (tgt : Nat), decode k.2.1 pc = .ok (.if_icmp .gt off, 3) → (pc : Int) + off = (tgt : Int) → (y < x → P tgt L S h) → (¬ y < x → P (pc + 3) L S h) → P pc L (.int y :: .int x :: S) h
def am_r_if_le  (k : am_K) (P : Nat → List Value → List Value → am_H → Prop) : Prop := ∀ (pc : Nat) (L S : List Value) (h : am_H) (x : Int32) (off : Int) (tgt : Nat), decode k.2.1 pc = .ok (.ifCond .le off, 3) → (pc : Int) + off = (tgt : Int) → (x ≤ 0 → P tgt L S h) → (¬ x ≤ 0 → P (pc + 3) L S h) → P pc L (.int x :: S) h
def am_r_icmp_le  (k : am_K) (P : Nat → List Value → List Value → am_H → Prop) : Prop := ∀ (pc : Nat) (L S : List Value) (h : am_H) (x y : Int32) (off : Int) (tgt : Nat), decode k.2.1 pc = .ok (.if_icmp .le off, 3) → (pc : Int) + off = (tgt : Int) → (x ≤ y → P tgt L S h) → (¬ x ≤ y → P (pc + 3) L S h) → P pc L (.int y :: .int x :: S) h
def am_r_goto  (k : am_K) (P : Nat → List Value → List Value → am_H → Prop) : Prop := ∀ (pc : Nat) (L S : List Value) (h : am_H) (off : Int) (tgt : Nat), decode k.2.1 pc = .ok (.goto off, 3) → (pc : Int) + off = (tgt : Int) → P tgt L S h → P pc L S h
def am_r_tableIn  (k : am_K) (P : Nat → List Value → List Value → am_H → Prop) : Prop := ∀ (pc : Nat) (L S : List Value) (h : am_H) (x : Int32) (dflt lo hi : Int) (offs : Array Int) (len : Nat) (off : Int) (tgt : Nat), decode k.2.1 pc = .ok (.tableswitch dflt lo hi offs, len) → ¬ x.toInt < lo → ¬ hi < x.toInt → offs[(x.toInt - lo).toNat]? = some off → (pc : Int) + off = (tgt : Int) → P tgt L S h → P pc L (.int x :: S) h
def am_r_tableOut  (k : am_K) (P : Nat → List Value → List Value → am_H → Prop) : Prop := ∀ (pc : Nat) (L S : List Value) (h : am_H) (x : Int32) (dflt lo hi : Int) (offs : Array Int) (len : Nat) (tgt : Nat), decode k.2.1 pc = .ok (.tableswitch dflt lo hi offs, len) → (x.toInt < lo ∨ hi < x.toInt) → (pc : Int) + dflt = (tgt : Int) → P tgt L S h → P pc L (.int x :: S) h
def am_r_ldc  (k : am_K) (P : Nat → List Value → List Value → am_H → Prop) : Prop := ∀ (pc : Nat) (L S : List Value) (h : am_H) (idx : Nat) (v : Int32), decode k.2.1 pc = .ok (.ldc idx, 2) → (Cond.constant k.1.cls idx v ∈ am_tb) → P (pc + 2) (L) (.int v :: S) h → P pc L (S) h
def am_r_ldc_w  (k : am_K) (P : Nat → List Value → List Value → am_H → Prop) : Prop := ∀ (pc : Nat) (L S : List Value) (h : am_H) (idx : Nat) (v : Int32), decode k.2.1 pc = .ok (.ldc_w idx, 3) → (Cond.constant k.1.cls idx v ∈ am_tb) → P (pc + 3) (L) (.int v :: S) h → P pc L (S) h
def am_r_ldc2  (k : am_K) (P : Nat → List Value → List Value → am_H → Prop) : Prop := ∀ (pc : Nat) (L S : List Value) (h : am_H) (idx : Nat) (v : Int64), decode k.2.1 pc = .ok (.ldc2_w idx, 3) → (Cond.constantLong k.1.cls idx v ∈ am_tb) → P (pc + 3) (L) (.long v :: S) h → P pc L (S) h
def am_r_getLet  (k : am_K) (P : Nat → List Value → List Value → am_H → Prop) : Prop := ∀ (pc : Nat) (L S : List Value) (h : am_H) (idx : Nat) (host : String), decode k.2.1 pc = .ok (.getstatic idx, 3) → (Cond.fieldLinkNest k.1.cls idx "FlapBoard" "LETTERS" "[I" host ∈ am_nw) → P (pc + 3) (L) (.ref 1 :: S) h → P pc L (S) h
def am_r_getf  (k : am_K) (P : Nat → List Value → List Value → am_H → Prop) : Prop := ∀ (pc : Nat) (L S : List Value) (h : am_H) (idx ci j a : Nat) (fs : List Value) (v : Value), decode k.2.1 pc = .ok (.getfield idx, 3) → am_okF k.1.cls idx ci j → h[a]? = some (.inr (ci, fs)) → fs[j]? = some v → P (pc + 3) L (v :: S) h → P pc L (.ref (a + 2) :: S) h
def am_r_putI  (k : am_K) (P : Nat → List Value → List Value → am_H → Prop) : Prop := ∀ (pc : Nat) (L S : List Value) (h : am_H) (idx ci j a : Nat) (fs : List Value) (x : Int32), decode k.2.1 pc = .ok (.putfield idx, 3) → am_okP k.1.cls idx ci j .int → h[a]? = some (.inr (ci, fs)) → j < fs.length → P (pc + 3) L S (h.set a (.inr (ci, fs.set j (.int x)))) → P pc L (.int x :: .ref (a + 2) :: S) h
def am_r_putJ  (k : am_K) (P : Nat → List Value → List Value → am_H → Prop) : Prop := ∀ (pc : Nat) (L S : List Value) (h : am_H) (idx ci j a : Nat) (fs : List Value) (x : Int64), decode k.2.1 pc = .ok (.putfield idx, 3) → am_okP k.1.cls idx ci j .long → h[a]? = some (.inr (ci, fs)) → j < fs.length → P (pc + 3) L S (h.set a (.inr (ci, fs.set j (.long x)))) → P pc L (.long x :: .ref (a + 2) :: S) h
def am_r_putF  (k : am_K) (P : Nat → List Value → List Value → am_H → Prop) : Prop := ∀ (pc : Nat) (L S : List Value) (h : am_H) (idx ci j a : Nat) (ft : FieldType) (fs : List Value) (v : Value), decode k.2.1 pc = .ok (.putfield idx, 3) → am_okPF k.1.cls idx ci j ft → k.1.name = "<init>" → h[a]? = some (.inr (ci, fs)) → j < fs.length → (∀ f, narrow ft (am_cv f v) = am_cv f v) → (∀ f, fits ft (am_cv f v) = true) → P (pc + 3) L S (h.set a (.inr (ci, fs.set j v))) → P pc L (v :: .ref (a + 2) :: S) h
def am_r_iald  (k : am_K) (P : Nat → List Value → List Value → am_H → Prop) : Prop := ∀ (pc : Nat) (L S : List Value) (h : am_H) (a n : Nat) (f : Nat → Int32) (i : Int32), decode k.2.1 pc = .ok (.iaload, 1) → h[a]? = some (.inl (0, (n, .inl f))) → vp_in i n → P (pc + 1) L (.int (f i.toNatClampNeg) :: S) h → P pc L (.int i :: .ref (a + 2) :: S) h
def am_r_sald (X : Nat × (Nat → Int32)) (k : am_K) (P : Nat → List Value → List Value → am_H → Prop) : Prop := ∀ (pc : Nat) (L S : List Value) (h : am_H) (i : Int32), decode k.2.1 pc = .ok (.iaload, 1) → vp_in i X.1 → P (pc + 1) L (.int (X.2 i.toNatClampNeg) :: S) h → P pc L (.int i :: .ref 0 :: S) h
def am_r_slen (X : Nat × (Nat → Int32)) (k : am_K) (P : Nat → List Value → List Value → am_H → Prop) : Prop := ∀ (pc : Nat) (L S : List Value) (h : am_H), decode k.2.1 pc = .ok (.arraylength, 1) → P (pc + 1) L (.int (Int32.ofNat X.1) :: S) h → P pc L (.ref 0 :: S) h
def am_r_letld  (k : am_K) (P : Nat → List Value → List Value → am_H → Prop) : Prop := ∀ (pc : Nat) (L S : List Value) (h : am_H) (i : Int32), decode k.2.1 pc = .ok (.iaload, 1) → vp_in i 6 → P (pc + 1) L (.int (am_let i.toNatClampNeg) :: S) h → P pc L (.int i :: .ref 1 :: S) h
def am_r_bald  (k : am_K) (P : Nat → List Value → List Value → am_H → Prop) : Prop := ∀ (pc : Nat) (L S : List Value) (h : am_H) (a n : Nat) (f : Nat → Int32) (i : Int32), decode k.2.1 pc = .ok (.baload, 1) → h[a]? = some (.inl (1, (n, .inl f))) → vp_in i n → P (pc + 1) L (.int (f i.toNatClampNeg) :: S) h → P pc L (.int i :: .ref (a + 2) :: S) h
def am_r_lald  (k : am_K) (P : Nat → List Value → List Value → am_H → Prop) : Prop := ∀ (pc : Nat) (L S : List Value) (h : am_H) (a n : Nat) (f : Nat → Int64) (i : Int32), decode k.2.1 pc = .ok (.laload, 1) → h[a]? = some (.inl (2, (n, .inr (.inl f)))) → vp_in i n → P (pc + 1) L (.long (f i.toNatClampNeg) :: S) h → P pc L (.int i :: .ref (a + 2) :: S) h
def am_r_aald  (k : am_K) (P : Nat → List Value → List Value → am_H → Prop) : Prop := ∀ (pc : Nat) (L S : List Value) (h : am_H) (a t n q : Nat) (f : Nat → Option Nat) (i : Int32), decode k.2.1 pc = .ok (.aaload, 1) → h[a]? = some (.inl (t, (n, .inr (.inr (.inr (.inr f)))))) → (3 ≤ t ∧ t < 8) → vp_in i n → f i.toNatClampNeg = some q → P (pc + 1) L (.ref q :: S) h → P pc L (.int i :: .ref (a + 2) :: S) h
def am_r_iast  (k : am_K) (P : Nat → List Value → List Value → am_H → Prop) : Prop := ∀ (pc : Nat) (L S : List Value) (h : am_H) (a n : Nat) (f : Nat → Int32) (i x : Int32), decode k.2.1 pc = .ok (.iastore, 1) → h[a]? = some (.inl (0, (n, .inl f))) → vp_in i n → P (pc + 1) L S (h.set a (.inl (0, (n, .inl (upd f i.toNatClampNeg x))))) → P pc L (.int x :: .int i :: .ref (a + 2) :: S) h
def am_r_bast  (k : am_K) (P : Nat → List Value → List Value → am_H → Prop) : Prop := ∀ (pc : Nat) (L S : List Value) (h : am_H) (a n : Nat) (f : Nat → Int32) (i x : Int32), decode k.2.1 pc = .ok (.bastore, 1) → h[a]? = some (.inl (1, (n, .inl f))) → vp_in i n → P (pc + 1) L S (h.set a (.inl (1, (n, .inl (upd f i.toNatClampNeg (vp_nar .byte x)))))) → P pc L (.int x :: .int i :: .ref (a + 2) :: S) h
def am_r_last  (k : am_K) (P : Nat → List Value → List Value → am_H → Prop) : Prop := ∀ (pc : Nat) (L S : List Value) (h : am_H) (a n : Nat) (f : Nat → Int64) (i : Int32) (x : Int64), decode k.2.1 pc = .ok (.lastore, 1) → h[a]? = some (.inl (2, (n, .inr (.inl f)))) → vp_in i n → P (pc + 1) L S (h.set a (.inl (2, (n, .inr (.inl (vp_updL f i.toNatClampNeg x)))))) → P pc L (.long x :: .int i :: .ref (a + 2) :: S) h
def am_r_aast  (k : am_K) (P : Nat → List Value → List Value → am_H → Prop) : Prop := ∀ (pc : Nat) (L S : List Value) (h : am_H) (a t n b ci : Nat) (vs : List Value) (f : Nat → Option Nat) (i : Int32), decode k.2.1 pc = .ok (.aastore, 1) → h[a]? = some (.inl (t, (n, .inr (.inr (.inr (.inr f)))))) → t < 8 → h[b]? = some (.inr (ci, vs)) → (∃ C T N ty, am_cls ci C T N ty ∧ am_ty t = .object C) → vp_in i n → P (pc + 1) L S (h.set a (.inl (t, (n, .inr (.inr (.inr (.inr (va_up f i.toNatClampNeg (some (b + 2)))))))))) → P pc L (.ref (b + 2) :: .int i :: .ref (a + 2) :: S) h
def am_r_alen  (k : am_K) (P : Nat → List Value → List Value → am_H → Prop) : Prop := ∀ (pc : Nat) (L S : List Value) (h : am_H) (a t : Nat) (x : vp_A), decode k.2.1 pc = .ok (.arraylength, 1) → h[a]? = some (.inl (t, x)) → t < 8 → P (pc + 1) L (.int (Int32.ofNat x.1) :: S) h → P pc L (.ref (a + 2) :: S) h
def am_r_new  (k : am_K) (P : Nat → List Value → List Value → am_H → Prop) : Prop := ∀ (pc : Nat) (L S : List Value) (h : am_H) (idx ci : Nat) (fs : List Value), decode k.2.1 pc = .ok (.new idx, 3) → am_okN k.1.cls idx ci fs → P (pc + 3) L (.ref (h.length + 2) :: S) (h ++ [.inr (ci, fs)]) → P pc L S h
def am_r_newa  (k : am_K) (P : Nat → List Value → List Value → am_H → Prop) : Prop := ∀ (pc : Nat) (L S : List Value) (h : am_H) (at_ : ArrayType) (t N : Nat) (x0 : vp_A) (n : Int32), decode k.2.1 pc = .ok (.newarray at_, 2) → newarray.typeOf at_ = am_ty t → t < 3 → Cond.arrayClass (am_ty t) ∈ am_tb → ¬ n < 0 → n.toNatClampNeg = N → N * 8 ≤ 536870912 → x0 = (if t = 2 then (N, .inr (.inl (fun _ => 0))) else (N, .inl (fun _ => 0))) → P (pc + 2) L (.ref (h.length + 2) :: S) (h ++ [.inl (t, x0)]) → P pc L (.int n :: S) h
def am_r_anew  (k : am_K) (P : Nat → List Value → List Value → am_H → Prop) : Prop := ∀ (pc : Nat) (L S : List Value) (h : am_H) (idx t N : Nat) (C : String) (n : Int32), decode k.2.1 pc = .ok (.anewarray idx, 3) → am_ty t = .object C → (3 ≤ t ∧ t < 7) → Cond.classLink k.1.cls idx C ∈ am_tb → ¬ n < 0 → n.toNatClampNeg = N → N * 8 ≤ 536870912 → P (pc + 3) L (.ref (h.length + 2) :: S) (h ++ [.inl (t, (N, .inr (.inr (.inr (.inr (fun _ => none))))))]) → P pc L (.int n :: S) h
def am_r_objI  (k : am_K) (P : Nat → List Value → List Value → am_H → Prop) : Prop := ∀ (pc : Nat) (L S : List Value) (h : am_H) (idx a : Nat), decode k.2.1 pc = .ok (.invokespecial idx, 3) → am_okO k.1.cls idx → am_cat S ≤ 8 → P (pc + 3) L S h → P pc L (.ref a :: S) h
def am_r_callV (Cr : am_R) (k : am_K) (P : Nat → List Value → List Value → am_H → Prop) : Prop := ∀ (pc : Nat) (L S : List Value) (h : am_H) (idx : Nat) (y : am_K) (n ci a : Nat) (As : List Value) (fs : List Value) (r1 : Option Value) (h1 : am_H) (S0 : List Value), decode k.2.1 pc = .ok (.invokevirtual idx, 3) → am_okV k.1.cls idx y n ci → As.length = n → S0 = As.reverse ++ .ref (a + 2) :: S → h[a]? = some (.inr (ci, fs)) → am_cat S ≤ 8 → Cr y (.ref (a + 2) :: As) h r1 h1 → P (pc + 3) L (r1.toList ++ S) h1 → P pc L S0 h
def am_r_callS (Cr : am_R) (k : am_K) (P : Nat → List Value → List Value → am_H → Prop) : Prop := ∀ (pc : Nat) (L S : List Value) (h : am_H) (idx : Nat) (y : am_K) (n : Nat) (As : List Value) (r1 : Option Value) (h1 : am_H) (S0 : List Value), decode k.2.1 pc = .ok (.invokestatic idx, 3) → am_okS k.1.cls idx y n → As.length = n → S0 = As.reverse ++ S → am_cat S ≤ 8 → Cr y (As) h r1 h1 → P (pc + 3) L (r1.toList ++ S) h1 → P pc L S0 h
def am_r_callSN (Cr : am_R) (k : am_K) (P : Nat → List Value → List Value → am_H → Prop) : Prop := ∀ (pc : Nat) (L S : List Value) (h : am_H) (idx : Nat) (y : am_K) (n : Nat) (As : List Value) (r1 : Option Value) (h1 : am_H) (S0 : List Value), decode k.2.1 pc = .ok (.invokestatic idx, 3) → am_okSN k.1.cls idx y n → As.length = n → S0 = As.reverse ++ S → am_cat S ≤ 8 → Cr y (As) h r1 h1 → P (pc + 3) L (r1.toList ++ S) h1 → P pc L S0 h
def am_r_callI (Cr : am_R) (k : am_K) (P : Nat → List Value → List Value → am_H → Prop) : Prop := ∀ (pc : Nat) (L S : List Value) (h : am_H) (idx : Nat) (y : am_K) (n a : Nat) (As : List Value) (r1 : Option Value) (h1 : am_H) (S0 : List Value), decode k.2.1 pc = .ok (.invokespecial idx, 3) → am_okI k.1.cls idx y n → As.length = n → S0 = As.reverse ++ .ref (a + 2) :: S → am_cat S ≤ 8 → Cr y (.ref (a + 2) :: As) h r1 h1 → P (pc + 3) L (r1.toList ++ S) h1 → P pc L S0 h
def am_r_callIN (Cr : am_R) (k : am_K) (P : Nat → List Value → List Value → am_H → Prop) : Prop := ∀ (pc : Nat) (L S : List Value) (h : am_H) (idx : Nat) (y : am_K) (n a : Nat) (As : List Value) (r1 : Option Value) (h1 : am_H) (S0 : List Value), decode k.2.1 pc = .ok (.invokespecial idx, 3) → am_okIN k.1.cls idx y n → As.length = n → S0 = As.reverse ++ .ref (a + 2) :: S → am_cat S ≤ 8 → Cr y (.ref (a + 2) :: As) h r1 h1 → P (pc + 3) L (r1.toList ++ S) h1 → P pc L S0 h
def am_r_acopy  (k : am_K) (P : Nat → List Value → List Value → am_H → Prop) : Prop := ∀ (pc : Nat) (L S : List Value) (h : am_H) (idx a0 a1 n0 n1 : Nat) (f g : Nat → Int32) (sp dp n : Int32), decode k.2.1 pc = .ok (.invokestatic idx, 3) → am_okA k.1.cls idx → h[a0]? = some (.inl (0, (n0, .inl f))) → h[a1]? = some (.inl (0, (n1, .inl g))) → ¬ sp < 0 → ¬ dp < 0 → ¬ n < 0 → sp.toNatClampNeg + n.toNatClampNeg ≤ n0 → dp.toNatClampNeg + n.toNatClampNeg ≤ n1 → am_cat S ≤ 8 → P (pc + 3) L S (h.set a1 (.inl (0, (n1, .inl (va_cpy f g sp.toNatClampNeg dp.toNatClampNeg n.toNatClampNeg))))) → P pc L (.int n :: .int dp :: .ref (a1 + 2) :: .int sp :: .ref (a0 + 2) :: S) h
def am_r_ret (r : Option Value) (h' : am_H) (k : am_K) (P : Nat → List Value → List Value → am_H → Prop) : Prop := ∀ (pc : Nat) (L : List Value), am_fin k.2.1 pc r → am_okr k.2.2.2 r → P pc L r.toList h'
def am_r_mna  (k : am_K) (P : Nat → List Value → List Value → am_H → Prop) : Prop := ∀ (pc : Nat) (L S : List Value) (h : am_H) (idx N M : Nat) (n q : Int32), decode k.2.1 pc = .ok (.multianewarray idx 2, 4) → Cond.classLink k.1.cls idx "[[I" ∈ am_tb → Cond.arrayClass .int ∈ am_tb → ¬ n < 0 → ¬ q < 0 → n.toNatClampNeg = N → q.toNatClampNeg = M → N * 8 ≤ 536870912 → M * 8 ≤ 536870912 → P (pc + 4) L (.ref (h.length + 2) :: S) (h ++ (.inl (7, (N, .inr (.inr (.inr (.inr (fun i => if i < N then some (h.length + 3 + i) else none)))))) :: List.replicate N (.inl (0, (M, .inl (fun _ => 0)))))) → P pc L (.int q :: .int n :: S) h
def am_RS (X : Nat × (Nat → Int32)) (Cr : am_R) (k : am_K) (r : Option Value) (h' : am_H) (P : Nat → List Value → List Value → am_H → Prop) (i : Nat) : Prop := match i with
  | 0 => am_r_iconst  k P
  | 1 => am_r_bipush  k P
  | 2 => am_r_sipush  k P
  | 3 => am_r_lconst  k P
  | 4 => am_r_iload_n  k P
  | 5 => am_r_iload  k P
  | 6 => am_r_istore_n  k P
  | 7 => am_r_istore  k P
  | 8 => am_r_lload_n  k P
  | 9 => am_r_lload  k P
  | 10 => am_r_lstore_n  k P
  | 11 => am_r_lstore  k P
  | 12 => am_r_aload_n  k P
  | 13 => am_r_aload  k P
  | 14 => am_r_astore_n  k P
  | 15 => am_r_astore  k P
  | 16 => am_r_iinc  k P
  | 17 => am_r_iadd  k P
  | 18 => am_r_isub  k P
  | 19 => am_r_imul  k P
  | 20 => am_r_iand  k P
  | 21 => am_r_ior  k P
  | 22 => am_r_ixor  k P
  | 23 => am_r_ishl  k P
  | 24 => am_r_ishr  k P
  | 25 => am_r_iushr  k P
  | 26 => am_r_idiv  k P
  | 27 => am_r_irem  k P
  | 28 => am_r_ladd  k P
  | 29 => am_r_lsub  k P
  | 30 => am_r_lmul  k P
  | 31 => am_r_ldiv  k P
  | 32 => am_r_lrem  k P
  | 33 => am_r_i2l  k P
  | 34 => am_r_l2i  k P
  | 35 => am_r_i2b  k P
  | 36 => am_r_lcmp  k P
  | 37 => am_r_dup  k P
  | 38 => am_r_pop  k P
  | 39 => am_r_dup2  k P
  | 40 => am_r_if_eq  k P
  | 41 => am_r_icmp_eq  k P
  | 42 => am_r_if_ne  k P
  | 43 => am_r_icmp_ne  k P
  | 44 => am_r_if_lt  k P
  | 45 => am_r_icmp_lt  k P
  | 46 => am_r_if_ge  k P
  | 47 => am_r_icmp_ge  k P
  | 48 => am_r_if_gt  k P
  | 49 => am_r_icmp_gt  k P
  | 50 => am_r_if_le  k P
  | 51 => am_r_icmp_le  k P
  | 52 => am_r_goto  k P
  | 53 => am_r_tableIn  k P
  | 54 => am_r_tableOut  k P
  | 55 => am_r_ldc  k P
  | 56 => am_r_ldc_w  k P
  | 57 => am_r_ldc2  k P
  | 58 => am_r_getLet  k P
  | 59 => am_r_getf  k P
  | 60 => am_r_putI  k P
  | 61 => am_r_putJ  k P
  | 62 => am_r_putF  k P
  | 63 => am_r_iald  k P
  | 64 => am_r_sald X k P
  | 65 => am_r_slen X k P
  | 66 => am_r_letld  k P
  | 67 => am_r_bald  k P
  | 68 => am_r_lald  k P
  | 69 => am_r_aald  k P
  | 70 => am_r_iast  k P
  | 71 => am_r_bast  k P
  | 72 => am_r_last  k P
  | 73 => am_r_aast  k P
  | 74 => am_r_alen  k P
  | 75 => am_r_new  k P
  | 76 => am_r_newa  k P
  | 77 => am_r_anew  k P
  | 78 => am_r_objI  k P
  | 79 => am_r_callV Cr k P
  | 80 => am_r_callS Cr k P
  | 81 => am_r_callSN Cr k P
  | 82 => am_r_callI Cr k P
  | 83 => am_r_callIN Cr k P
  | 84 => am_r_acopy  k P
  | 85 => am_r_ret r h' k P
  | 86 => am_r_mna  k P
  | _ => True
def am_run (X : Nat × (Nat → Int32)) (Cr : am_R) (k : am_K) (r : Option Value) (h' : am_H) (pc : Nat) (L S : List Value) (h : am_H) : Prop := ∀ P : Nat → List Value → List Value → am_H → Prop, (∀ i, am_RS X Cr k r h' P i) → P pc L S h
