section EQS
variable {K K1 K2 : Kn} {ls st r : List Value} {w : Mem} {x y : Int32} {p q : Int64} {k d ci f : Nat} {C : MD}
theorem e_iconst  : (o_iconst x K ls st w) = (K ls (.int x :: st) w) := rfl
theorem e_lconst  : (o_lconst p K ls st w) = (K ls (.long p :: st) w) := rfl
theorem e_ldcS  : (o_ldcS k K ls st w) = (K ls (.ref (1000 + k) :: st) w) := rfl
theorem e_iload0  : (o_iload 0 K (.int x :: ls) st w) = (K (.int x :: ls) (.int x :: st) w) := rfl
theorem e_lload0  : (o_lload 0 K (.long p :: ls) st w) = (K (.long p :: ls) (.long p :: st) w) := rfl
theorem e_aload0  : (o_aload 0 K (.ref k :: ls) st w) = (K (.ref k :: ls) (.ref k :: st) w) := rfl
theorem e_istore0  {o : Value} : (o_istore 0 K (o :: ls) (.int x :: st) w) = (K (.int x :: ls) st w) := rfl
theorem e_lstore0  {o o2 : Value} : (o_lstore 0 K (o :: o2 :: ls) (.long p :: st) w) = (K (.long p :: .null :: ls) st w) := rfl
theorem e_iinc0  : (o_iinc 0 y K (.int x :: ls) st w) = (K (.int (x + y) :: ls) st w) := rfl
theorem e_iload1 {a0 : Value} : (o_iload 1 K (a0 :: .int x :: ls) st w) = (K (a0 :: .int x :: ls) (.int x :: st) w) := rfl
theorem e_lload1 {a0 : Value} : (o_lload 1 K (a0 :: .long p :: ls) st w) = (K (a0 :: .long p :: ls) (.long p :: st) w) := rfl
theorem e_aload1 {a0 : Value} : (o_aload 1 K (a0 :: .ref k :: ls) st w) = (K (a0 :: .ref k :: ls) (.ref k :: st) w) := rfl
theorem e_istore1i {z : Int32} {o : Value} : (o_istore 1 K (.int z :: o :: ls) (.int x :: st) w) = (K (.int z :: .int x :: ls) st w) := rfl
theorem e_lstore1i {z : Int32} {o o2 : Value} : (o_lstore 1 K (.int z :: o :: o2 :: ls) (.long p :: st) w) = (K (.int z :: .long p :: .null :: ls) st w) := rfl
theorem e_iinc1i {z : Int32} : (o_iinc 1 y K (.int z :: .int x :: ls) st w) = (K (.int z :: .int (x + y) :: ls) st w) := rfl
theorem e_istore1r {z : Nat} {o : Value} : (o_istore 1 K (.ref z :: o :: ls) (.int x :: st) w) = (K (.ref z :: .int x :: ls) st w) := rfl
theorem e_lstore1r {z : Nat} {o o2 : Value} : (o_lstore 1 K (.ref z :: o :: o2 :: ls) (.long p :: st) w) = (K (.ref z :: .long p :: .null :: ls) st w) := rfl
theorem e_iinc1r {z : Nat} : (o_iinc 1 y K (.ref z :: .int x :: ls) st w) = (K (.ref z :: .int (x + y) :: ls) st w) := rfl
theorem e_istore1n  {o : Value} : (o_istore 1 K (.null :: o :: ls) (.int x :: st) w) = (K (.null :: .int x :: ls) st w) := rfl
theorem e_lstore1n  {o o2 : Value} : (o_lstore 1 K (.null :: o :: o2 :: ls) (.long p :: st) w) = (K (.null :: .long p :: .null :: ls) st w) := rfl
theorem e_iinc1n  : (o_iinc 1 y K (.null :: .int x :: ls) st w) = (K (.null :: .int (x + y) :: ls) st w) := rfl
theorem e_iload2 {a0 a1 : Value} : (o_iload 2 K (a0 :: a1 :: .int x :: ls) st w) = (K (a0 :: a1 :: .int x :: ls) (.int x :: st) w) := rfl
theorem e_lload2 {a0 a1 : Value} : (o_lload 2 K (a0 :: a1 :: .long p :: ls) st w) = (K (a0 :: a1 :: .long p :: ls) (.long p :: st) w) := rfl
theorem e_aload2 {a0 a1 : Value} : (o_aload 2 K (a0 :: a1 :: .ref k :: ls) st w) = (K (a0 :: a1 :: .ref k :: ls) (.ref k :: st) w) := rfl
theorem e_istore2i {a0 : Value} {z : Int32} {o : Value} : (o_istore 2 K (a0 :: .int z :: o :: ls) (.int x :: st) w) = (K (a0 :: .int z :: .int x :: ls) st w) := rfl
theorem e_lstore2i {a0 : Value} {z : Int32} {o o2 : Value} : (o_lstore 2 K (a0 :: .int z :: o :: o2 :: ls) (.long p :: st) w) = (K (a0 :: .int z :: .long p :: .null :: ls) st w) := rfl
theorem e_iinc2i {a0 : Value} {z : Int32} : (o_iinc 2 y K (a0 :: .int z :: .int x :: ls) st w) = (K (a0 :: .int z :: .int (x + y) :: ls) st w) := rfl
theorem e_istore2r {a0 : Value} {z : Nat} {o : Value} : (o_istore 2 K (a0 :: .ref z :: o :: ls) (.int x :: st) w) = (K (a0 :: .ref z :: .int x :: ls) st w) := rfl
theorem e_lstore2r {a0 : Value} {z : Nat} {o o2 : Value} : (o_lstore 2 K (a0 :: .ref z :: o :: o2 :: ls) (.long p :: st) w) = (K (a0 :: .ref z :: .long p :: .null :: ls) st w) := rfl
theorem e_iinc2r {a0 : Value} {z : Nat} : (o_iinc 2 y K (a0 :: .ref z :: .int x :: ls) st w) = (K (a0 :: .ref z :: .int (x + y) :: ls) st w) := rfl
theorem e_istore2n {a0 : Value}  {o : Value} : (o_istore 2 K (a0 :: .null :: o :: ls) (.int x :: st) w) = (K (a0 :: .null :: .int x :: ls) st w) := rfl
theorem e_lstore2n {a0 : Value}  {o o2 : Value} : (o_lstore 2 K (a0 :: .null :: o :: o2 :: ls) (.long p :: st) w) = (K (a0 :: .null :: .long p :: .null :: ls) st w) := rfl
theorem e_iinc2n {a0 : Value}  : (o_iinc 2 y K (a0 :: .null :: .int x :: ls) st w) = (K (a0 :: .null :: .int (x + y) :: ls) st w) := rfl
theorem e_iload3 {a0 a1 a2 : Value} : (o_iload 3 K (a0 :: a1 :: a2 :: .int x :: ls) st w) = (K (a0 :: a1 :: a2 :: .int x :: ls) (.int x :: st) w) := rfl
theorem e_lload3 {a0 a1 a2 : Value} : (o_lload 3 K (a0 :: a1 :: a2 :: .long p :: ls) st w) = (K (a0 :: a1 :: a2 :: .long p :: ls) (.long p :: st) w) := rfl
theorem e_aload3 {a0 a1 a2 : Value} : (o_aload 3 K (a0 :: a1 :: a2 :: .ref k :: ls) st w) = (K (a0 :: a1 :: a2 :: .ref k :: ls) (.ref k :: st) w) := rfl
theorem e_istore3i {a0 a1 : Value} {z : Int32} {o : Value} : (o_istore 3 K (a0 :: a1 :: .int z :: o :: ls) (.int x :: st) w) = (K (a0 :: a1 :: .int z :: .int x :: ls) st w) := rfl
theorem e_lstore3i {a0 a1 : Value} {z : Int32} {o o2 : Value} : (o_lstore 3 K (a0 :: a1 :: .int z :: o :: o2 :: ls) (.long p :: st) w) = (K (a0 :: a1 :: .int z :: .long p :: .null :: ls) st w) := rfl
theorem e_iinc3i {a0 a1 : Value} {z : Int32} : (o_iinc 3 y K (a0 :: a1 :: .int z :: .int x :: ls) st w) = (K (a0 :: a1 :: .int z :: .int (x + y) :: ls) st w) := rfl
theorem e_istore3r {a0 a1 : Value} {z : Nat} {o : Value} : (o_istore 3 K (a0 :: a1 :: .ref z :: o :: ls) (.int x :: st) w) = (K (a0 :: a1 :: .ref z :: .int x :: ls) st w) := rfl
theorem e_lstore3r {a0 a1 : Value} {z : Nat} {o o2 : Value} : (o_lstore 3 K (a0 :: a1 :: .ref z :: o :: o2 :: ls) (.long p :: st) w) = (K (a0 :: a1 :: .ref z :: .long p :: .null :: ls) st w) := rfl
theorem e_iinc3r {a0 a1 : Value} {z : Nat} : (o_iinc 3 y K (a0 :: a1 :: .ref z :: .int x :: ls) st w) = (K (a0 :: a1 :: .ref z :: .int (x + y) :: ls) st w) := rfl
theorem e_istore3n {a0 a1 : Value}  {o : Value} : (o_istore 3 K (a0 :: a1 :: .null :: o :: ls) (.int x :: st) w) = (K (a0 :: a1 :: .null :: .int x :: ls) st w) := rfl
theorem e_lstore3n {a0 a1 : Value}  {o o2 : Value} : (o_lstore 3 K (a0 :: a1 :: .null :: o :: o2 :: ls) (.long p :: st) w) = (K (a0 :: a1 :: .null :: .long p :: .null :: ls) st w) := rfl
theorem e_iinc3n {a0 a1 : Value}  : (o_iinc 3 y K (a0 :: a1 :: .null :: .int x :: ls) st w) = (K (a0 :: a1 :: .null :: .int (x + y) :: ls) st w) := rfl
theorem e_iload4 {a0 a1 a2 a3 : Value} : (o_iload 4 K (a0 :: a1 :: a2 :: a3 :: .int x :: ls) st w) = (K (a0 :: a1 :: a2 :: a3 :: .int x :: ls) (.int x :: st) w) := rfl
theorem e_lload4 {a0 a1 a2 a3 : Value} : (o_lload 4 K (a0 :: a1 :: a2 :: a3 :: .long p :: ls) st w) = (K (a0 :: a1 :: a2 :: a3 :: .long p :: ls) (.long p :: st) w) := rfl
theorem e_aload4 {a0 a1 a2 a3 : Value} : (o_aload 4 K (a0 :: a1 :: a2 :: a3 :: .ref k :: ls) st w) = (K (a0 :: a1 :: a2 :: a3 :: .ref k :: ls) (.ref k :: st) w) := rfl
theorem e_istore4i {a0 a1 a2 : Value} {z : Int32} {o : Value} : (o_istore 4 K (a0 :: a1 :: a2 :: .int z :: o :: ls) (.int x :: st) w) = (K (a0 :: a1 :: a2 :: .int z :: .int x :: ls) st w) := rfl
theorem e_lstore4i {a0 a1 a2 : Value} {z : Int32} {o o2 : Value} : (o_lstore 4 K (a0 :: a1 :: a2 :: .int z :: o :: o2 :: ls) (.long p :: st) w) = (K (a0 :: a1 :: a2 :: .int z :: .long p :: .null :: ls) st w) := rfl
theorem e_iinc4i {a0 a1 a2 : Value} {z : Int32} : (o_iinc 4 y K (a0 :: a1 :: a2 :: .int z :: .int x :: ls) st w) = (K (a0 :: a1 :: a2 :: .int z :: .int (x + y) :: ls) st w) := rfl
theorem e_istore4r {a0 a1 a2 : Value} {z : Nat} {o : Value} : (o_istore 4 K (a0 :: a1 :: a2 :: .ref z :: o :: ls) (.int x :: st) w) = (K (a0 :: a1 :: a2 :: .ref z :: .int x :: ls) st w) := rfl
theorem e_lstore4r {a0 a1 a2 : Value} {z : Nat} {o o2 : Value} : (o_lstore 4 K (a0 :: a1 :: a2 :: .ref z :: o :: o2 :: ls) (.long p :: st) w) = (K (a0 :: a1 :: a2 :: .ref z :: .long p :: .null :: ls) st w) := rfl
theorem e_iinc4r {a0 a1 a2 : Value} {z : Nat} : (o_iinc 4 y K (a0 :: a1 :: a2 :: .ref z :: .int x :: ls) st w) = (K (a0 :: a1 :: a2 :: .ref z :: .int (x + y) :: ls) st w) := rfl
theorem e_istore4n {a0 a1 a2 : Value}  {o : Value} : (o_istore 4 K (a0 :: a1 :: a2 :: .null :: o :: ls) (.int x :: st) w) = (K (a0 :: a1 :: a2 :: .null :: .int x :: ls) st w) := rfl
theorem e_lstore4n {a0 a1 a2 : Value}  {o o2 : Value} : (o_lstore 4 K (a0 :: a1 :: a2 :: .null :: o :: o2 :: ls) (.long p :: st) w) = (K (a0 :: a1 :: a2 :: .null :: .long p :: .null :: ls) st w) := rfl
theorem e_iinc4n {a0 a1 a2 : Value}  : (o_iinc 4 y K (a0 :: a1 :: a2 :: .null :: .int x :: ls) st w) = (K (a0 :: a1 :: a2 :: .null :: .int (x + y) :: ls) st w) := rfl
theorem e_iload5 {a0 a1 a2 a3 a4 : Value} : (o_iload 5 K (a0 :: a1 :: a2 :: a3 :: a4 :: .int x :: ls) st w) = (K (a0 :: a1 :: a2 :: a3 :: a4 :: .int x :: ls) (.int x :: st) w) := rfl
theorem e_lload5 {a0 a1 a2 a3 a4 : Value} : (o_lload 5 K (a0 :: a1 :: a2 :: a3 :: a4 :: .long p :: ls) st w) = (K (a0 :: a1 :: a2 :: a3 :: a4 :: .long p :: ls) (.long p :: st) w) := rfl
theorem e_aload5 {a0 a1 a2 a3 a4 : Value} : (o_aload 5 K (a0 :: a1 :: a2 :: a3 :: a4 :: .ref k :: ls) st w) = (K (a0 :: a1 :: a2 :: a3 :: a4 :: .ref k :: ls) (.ref k :: st) w) := rfl
theorem e_istore5i {a0 a1 a2 a3 : Value} {z : Int32} {o : Value} : (o_istore 5 K (a0 :: a1 :: a2 :: a3 :: .int z :: o :: ls) (.int x :: st) w) = (K (a0 :: a1 :: a2 :: a3 :: .int z :: .int x :: ls) st w) := rfl
theorem e_lstore5i {a0 a1 a2 a3 : Value} {z : Int32} {o o2 : Value} : (o_lstore 5 K (a0 :: a1 :: a2 :: a3 :: .int z :: o :: o2 :: ls) (.long p :: st) w) = (K (a0 :: a1 :: a2 :: a3 :: .int z :: .long p :: .null :: ls) st w) := rfl
theorem e_iinc5i {a0 a1 a2 a3 : Value} {z : Int32} : (o_iinc 5 y K (a0 :: a1 :: a2 :: a3 :: .int z :: .int x :: ls) st w) = (K (a0 :: a1 :: a2 :: a3 :: .int z :: .int (x + y) :: ls) st w) := rfl
theorem e_istore5r {a0 a1 a2 a3 : Value} {z : Nat} {o : Value} : (o_istore 5 K (a0 :: a1 :: a2 :: a3 :: .ref z :: o :: ls) (.int x :: st) w) = (K (a0 :: a1 :: a2 :: a3 :: .ref z :: .int x :: ls) st w) := rfl
theorem e_lstore5r {a0 a1 a2 a3 : Value} {z : Nat} {o o2 : Value} : (o_lstore 5 K (a0 :: a1 :: a2 :: a3 :: .ref z :: o :: o2 :: ls) (.long p :: st) w) = (K (a0 :: a1 :: a2 :: a3 :: .ref z :: .long p :: .null :: ls) st w) := rfl
theorem e_iinc5r {a0 a1 a2 a3 : Value} {z : Nat} : (o_iinc 5 y K (a0 :: a1 :: a2 :: a3 :: .ref z :: .int x :: ls) st w) = (K (a0 :: a1 :: a2 :: a3 :: .ref z :: .int (x + y) :: ls) st w) := rfl
theorem e_istore5n {a0 a1 a2 a3 : Value}  {o : Value} : (o_istore 5 K (a0 :: a1 :: a2 :: a3 :: .null :: o :: ls) (.int x :: st) w) = (K (a0 :: a1 :: a2 :: a3 :: .null :: .int x :: ls) st w) := rfl
theorem e_lstore5n {a0 a1 a2 a3 : Value}  {o o2 : Value} : (o_lstore 5 K (a0 :: a1 :: a2 :: a3 :: .null :: o :: o2 :: ls) (.long p :: st) w) = (K (a0 :: a1 :: a2 :: a3 :: .null :: .long p :: .null :: ls) st w) := rfl
theorem e_iinc5n {a0 a1 a2 a3 : Value}  : (o_iinc 5 y K (a0 :: a1 :: a2 :: a3 :: .null :: .int x :: ls) st w) = (K (a0 :: a1 :: a2 :: a3 :: .null :: .int (x + y) :: ls) st w) := rfl
theorem e_iload6 {a0 a1 a2 a3 a4 a5 : Value} : (o_iload 6 K (a0 :: a1 :: a2 :: a3 :: a4 :: a5 :: .int x :: ls) st w) = (K (a0 :: a1 :: a2 :: a3 :: a4 :: a5 :: .int x :: ls) (.int x :: st) w) := rfl
theorem e_lload6 {a0 a1 a2 a3 a4 a5 : Value} : (o_lload 6 K (a0 :: a1 :: a2 :: a3 :: a4 :: a5 :: .long p :: ls) st w) = (K (a0 :: a1 :: a2 :: a3 :: a4 :: a5 :: .long p :: ls) (.long p :: st) w) := rfl
theorem e_aload6 {a0 a1 a2 a3 a4 a5 : Value} : (o_aload 6 K (a0 :: a1 :: a2 :: a3 :: a4 :: a5 :: .ref k :: ls) st w) = (K (a0 :: a1 :: a2 :: a3 :: a4 :: a5 :: .ref k :: ls) (.ref k :: st) w) := rfl
theorem e_istore6i {a0 a1 a2 a3 a4 : Value} {z : Int32} {o : Value} : (o_istore 6 K (a0 :: a1 :: a2 :: a3 :: a4 :: .int z :: o :: ls) (.int x :: st) w) = (K (a0 :: a1 :: a2 :: a3 :: a4 :: .int z :: .int x :: ls) st w) := rfl
theorem e_lstore6i {a0 a1 a2 a3 a4 : Value} {z : Int32} {o o2 : Value} : (o_lstore 6 K (a0 :: a1 :: a2 :: a3 :: a4 :: .int z :: o :: o2 :: ls) (.long p :: st) w) = (K (a0 :: a1 :: a2 :: a3 :: a4 :: .int z :: .long p :: .null :: ls) st w) := rfl
theorem e_iinc6i {a0 a1 a2 a3 a4 : Value} {z : Int32} : (o_iinc 6 y K (a0 :: a1 :: a2 :: a3 :: a4 :: .int z :: .int x :: ls) st w) = (K (a0 :: a1 :: a2 :: a3 :: a4 :: .int z :: .int (x + y) :: ls) st w) := rfl
theorem e_istore6r {a0 a1 a2 a3 a4 : Value} {z : Nat} {o : Value} : (o_istore 6 K (a0 :: a1 :: a2 :: a3 :: a4 :: .ref z :: o :: ls) (.int x :: st) w) = (K (a0 :: a1 :: a2 :: a3 :: a4 :: .ref z :: .int x :: ls) st w) := rfl
theorem e_lstore6r {a0 a1 a2 a3 a4 : Value} {z : Nat} {o o2 : Value} : (o_lstore 6 K (a0 :: a1 :: a2 :: a3 :: a4 :: .ref z :: o :: o2 :: ls) (.long p :: st) w) = (K (a0 :: a1 :: a2 :: a3 :: a4 :: .ref z :: .long p :: .null :: ls) st w) := rfl
theorem e_iinc6r {a0 a1 a2 a3 a4 : Value} {z : Nat} : (o_iinc 6 y K (a0 :: a1 :: a2 :: a3 :: a4 :: .ref z :: .int x :: ls) st w) = (K (a0 :: a1 :: a2 :: a3 :: a4 :: .ref z :: .int (x + y) :: ls) st w) := rfl
theorem e_istore6n {a0 a1 a2 a3 a4 : Value}  {o : Value} : (o_istore 6 K (a0 :: a1 :: a2 :: a3 :: a4 :: .null :: o :: ls) (.int x :: st) w) = (K (a0 :: a1 :: a2 :: a3 :: a4 :: .null :: .int x :: ls) st w) := rfl
theorem e_lstore6n {a0 a1 a2 a3 a4 : Value}  {o o2 : Value} : (o_lstore 6 K (a0 :: a1 :: a2 :: a3 :: a4 :: .null :: o :: o2 :: ls) (.long p :: st) w) = (K (a0 :: a1 :: a2 :: a3 :: a4 :: .null :: .long p :: .null :: ls) st w) := rfl
theorem e_iinc6n {a0 a1 a2 a3 a4 : Value}  : (o_iinc 6 y K (a0 :: a1 :: a2 :: a3 :: a4 :: .null :: .int x :: ls) st w) = (K (a0 :: a1 :: a2 :: a3 :: a4 :: .null :: .int (x + y) :: ls) st w) := rfl
theorem e_iload7 {a0 a1 a2 a3 a4 a5 a6 : Value} : (o_iload 7 K (a0 :: a1 :: a2 :: a3 :: a4 :: a5 :: a6 :: .int x :: ls) st w) = (K (a0 :: a1 :: a2 :: a3 :: a4 :: a5 :: a6 :: .int x :: ls) (.int x :: st) w) := rfl
theorem e_lload7 {a0 a1 a2 a3 a4 a5 a6 : Value} : (o_lload 7 K (a0 :: a1 :: a2 :: a3 :: a4 :: a5 :: a6 :: .long p :: ls) st w) = (K (a0 :: a1 :: a2 :: a3 :: a4 :: a5 :: a6 :: .long p :: ls) (.long p :: st) w) := rfl
theorem e_aload7 {a0 a1 a2 a3 a4 a5 a6 : Value} : (o_aload 7 K (a0 :: a1 :: a2 :: a3 :: a4 :: a5 :: a6 :: .ref k :: ls) st w) = (K (a0 :: a1 :: a2 :: a3 :: a4 :: a5 :: a6 :: .ref k :: ls) (.ref k :: st) w) := rfl
theorem e_istore7i {a0 a1 a2 a3 a4 a5 : Value} {z : Int32} {o : Value} : (o_istore 7 K (a0 :: a1 :: a2 :: a3 :: a4 :: a5 :: .int z :: o :: ls) (.int x :: st) w) = (K (a0 :: a1 :: a2 :: a3 :: a4 :: a5 :: .int z :: .int x :: ls) st w) := rfl
theorem e_lstore7i {a0 a1 a2 a3 a4 a5 : Value} {z : Int32} {o o2 : Value} : (o_lstore 7 K (a0 :: a1 :: a2 :: a3 :: a4 :: a5 :: .int z :: o :: o2 :: ls) (.long p :: st) w) = (K (a0 :: a1 :: a2 :: a3 :: a4 :: a5 :: .int z :: .long p :: .null :: ls) st w) := rfl
theorem e_iinc7i {a0 a1 a2 a3 a4 a5 : Value} {z : Int32} : (o_iinc 7 y K (a0 :: a1 :: a2 :: a3 :: a4 :: a5 :: .int z :: .int x :: ls) st w) = (K (a0 :: a1 :: a2 :: a3 :: a4 :: a5 :: .int z :: .int (x + y) :: ls) st w) := rfl
theorem e_istore7r {a0 a1 a2 a3 a4 a5 : Value} {z : Nat} {o : Value} : (o_istore 7 K (a0 :: a1 :: a2 :: a3 :: a4 :: a5 :: .ref z :: o :: ls) (.int x :: st) w) = (K (a0 :: a1 :: a2 :: a3 :: a4 :: a5 :: .ref z :: .int x :: ls) st w) := rfl
theorem e_lstore7r {a0 a1 a2 a3 a4 a5 : Value} {z : Nat} {o o2 : Value} : (o_lstore 7 K (a0 :: a1 :: a2 :: a3 :: a4 :: a5 :: .ref z :: o :: o2 :: ls) (.long p :: st) w) = (K (a0 :: a1 :: a2 :: a3 :: a4 :: a5 :: .ref z :: .long p :: .null :: ls) st w) := rfl
theorem e_iinc7r {a0 a1 a2 a3 a4 a5 : Value} {z : Nat} : (o_iinc 7 y K (a0 :: a1 :: a2 :: a3 :: a4 :: a5 :: .ref z :: .int x :: ls) st w) = (K (a0 :: a1 :: a2 :: a3 :: a4 :: a5 :: .ref z :: .int (x + y) :: ls) st w) := rfl
theorem e_istore7n {a0 a1 a2 a3 a4 a5 : Value}  {o : Value} : (o_istore 7 K (a0 :: a1 :: a2 :: a3 :: a4 :: a5 :: .null :: o :: ls) (.int x :: st) w) = (K (a0 :: a1 :: a2 :: a3 :: a4 :: a5 :: .null :: .int x :: ls) st w) := rfl
theorem e_lstore7n {a0 a1 a2 a3 a4 a5 : Value}  {o o2 : Value} : (o_lstore 7 K (a0 :: a1 :: a2 :: a3 :: a4 :: a5 :: .null :: o :: o2 :: ls) (.long p :: st) w) = (K (a0 :: a1 :: a2 :: a3 :: a4 :: a5 :: .null :: .long p :: .null :: ls) st w) := rfl
theorem e_iinc7n {a0 a1 a2 a3 a4 a5 : Value}  : (o_iinc 7 y K (a0 :: a1 :: a2 :: a3 :: a4 :: a5 :: .null :: .int x :: ls) st w) = (K (a0 :: a1 :: a2 :: a3 :: a4 :: a5 :: .null :: .int (x + y) :: ls) st w) := rfl
theorem e_iload8 {a0 a1 a2 a3 a4 a5 a6 a7 : Value} : (o_iload 8 K (a0 :: a1 :: a2 :: a3 :: a4 :: a5 :: a6 :: a7 :: .int x :: ls) st w) = (K (a0 :: a1 :: a2 :: a3 :: a4 :: a5 :: a6 :: a7 :: .int x :: ls) (.int x :: st) w) := rfl
theorem e_lload8 {a0 a1 a2 a3 a4 a5 a6 a7 : Value} : (o_lload 8 K (a0 :: a1 :: a2 :: a3 :: a4 :: a5 :: a6 :: a7 :: .long p :: ls) st w) = (K (a0 :: a1 :: a2 :: a3 :: a4 :: a5 :: a6 :: a7 :: .long p :: ls) (.long p :: st) w) := rfl
theorem e_aload8 {a0 a1 a2 a3 a4 a5 a6 a7 : Value} : (o_aload 8 K (a0 :: a1 :: a2 :: a3 :: a4 :: a5 :: a6 :: a7 :: .ref k :: ls) st w) = (K (a0 :: a1 :: a2 :: a3 :: a4 :: a5 :: a6 :: a7 :: .ref k :: ls) (.ref k :: st) w) := rfl
theorem e_istore8i {a0 a1 a2 a3 a4 a5 a6 : Value} {z : Int32} {o : Value} : (o_istore 8 K (a0 :: a1 :: a2 :: a3 :: a4 :: a5 :: a6 :: .int z :: o :: ls) (.int x :: st) w) = (K (a0 :: a1 :: a2 :: a3 :: a4 :: a5 :: a6 :: .int z :: .int x :: ls) st w) := rfl
theorem e_lstore8i {a0 a1 a2 a3 a4 a5 a6 : Value} {z : Int32} {o o2 : Value} : (o_lstore 8 K (a0 :: a1 :: a2 :: a3 :: a4 :: a5 :: a6 :: .int z :: o :: o2 :: ls) (.long p :: st) w) = (K (a0 :: a1 :: a2 :: a3 :: a4 :: a5 :: a6 :: .int z :: .long p :: .null :: ls) st w) := rfl
theorem e_iinc8i {a0 a1 a2 a3 a4 a5 a6 : Value} {z : Int32} : (o_iinc 8 y K (a0 :: a1 :: a2 :: a3 :: a4 :: a5 :: a6 :: .int z :: .int x :: ls) st w) = (K (a0 :: a1 :: a2 :: a3 :: a4 :: a5 :: a6 :: .int z :: .int (x + y) :: ls) st w) := rfl
theorem e_istore8r {a0 a1 a2 a3 a4 a5 a6 : Value} {z : Nat} {o : Value} : (o_istore 8 K (a0 :: a1 :: a2 :: a3 :: a4 :: a5 :: a6 :: .ref z :: o :: ls) (.int x :: st) w) = (K (a0 :: a1 :: a2 :: a3 :: a4 :: a5 :: a6 :: .ref z :: .int x :: ls) st w) := rfl
theorem e_lstore8r {a0 a1 a2 a3 a4 a5 a6 : Value} {z : Nat} {o o2 : Value} : (o_lstore 8 K (a0 :: a1 :: a2 :: a3 :: a4 :: a5 :: a6 :: .ref z :: o :: o2 :: ls) (.long p :: st) w) = (K (a0 :: a1 :: a2 :: a3 :: a4 :: a5 :: a6 :: .ref z :: .long p :: .null :: ls) st w) := rfl
theorem e_iinc8r {a0 a1 a2 a3 a4 a5 a6 : Value} {z : Nat} : (o_iinc 8 y K (a0 :: a1 :: a2 :: a3 :: a4 :: a5 :: a6 :: .ref z :: .int x :: ls) st w) = (K (a0 :: a1 :: a2 :: a3 :: a4 :: a5 :: a6 :: .ref z :: .int (x + y) :: ls) st w) := rfl
theorem e_istore8n {a0 a1 a2 a3 a4 a5 a6 : Value}  {o : Value} : (o_istore 8 K (a0 :: a1 :: a2 :: a3 :: a4 :: a5 :: a6 :: .null :: o :: ls) (.int x :: st) w) = (K (a0 :: a1 :: a2 :: a3 :: a4 :: a5 :: a6 :: .null :: .int x :: ls) st w) := rfl
theorem e_lstore8n {a0 a1 a2 a3 a4 a5 a6 : Value}  {o o2 : Value} : (o_lstore 8 K (a0 :: a1 :: a2 :: a3 :: a4 :: a5 :: a6 :: .null :: o :: o2 :: ls) (.long p :: st) w) = (K (a0 :: a1 :: a2 :: a3 :: a4 :: a5 :: a6 :: .null :: .long p :: .null :: ls) st w) := rfl
theorem e_iinc8n {a0 a1 a2 a3 a4 a5 a6 : Value}  : (o_iinc 8 y K (a0 :: a1 :: a2 :: a3 :: a4 :: a5 :: a6 :: .null :: .int x :: ls) st w) = (K (a0 :: a1 :: a2 :: a3 :: a4 :: a5 :: a6 :: .null :: .int (x + y) :: ls) st w) := rfl
theorem e_iload9 {a0 a1 a2 a3 a4 a5 a6 a7 a8 : Value} : (o_iload 9 K (a0 :: a1 :: a2 :: a3 :: a4 :: a5 :: a6 :: a7 :: a8 :: .int x :: ls) st w) = (K (a0 :: a1 :: a2 :: a3 :: a4 :: a5 :: a6 :: a7 :: a8 :: .int x :: ls) (.int x :: st) w) := rfl
theorem e_lload9 {a0 a1 a2 a3 a4 a5 a6 a7 a8 : Value} : (o_lload 9 K (a0 :: a1 :: a2 :: a3 :: a4 :: a5 :: a6 :: a7 :: a8 :: .long p :: ls) st w) = (K (a0 :: a1 :: a2 :: a3 :: a4 :: a5 :: a6 :: a7 :: a8 :: .long p :: ls) (.long p :: st) w) := rfl
theorem e_aload9 {a0 a1 a2 a3 a4 a5 a6 a7 a8 : Value} : (o_aload 9 K (a0 :: a1 :: a2 :: a3 :: a4 :: a5 :: a6 :: a7 :: a8 :: .ref k :: ls) st w) = (K (a0 :: a1 :: a2 :: a3 :: a4 :: a5 :: a6 :: a7 :: a8 :: .ref k :: ls) (.ref k :: st) w) := rfl
theorem e_istore9i {a0 a1 a2 a3 a4 a5 a6 a7 : Value} {z : Int32} {o : Value} : (o_istore 9 K (a0 :: a1 :: a2 :: a3 :: a4 :: a5 :: a6 :: a7 :: .int z :: o :: ls) (.int x :: st) w) = (K (a0 :: a1 :: a2 :: a3 :: a4 :: a5 :: a6 :: a7 :: .int z :: .int x :: ls) st w) := rfl
theorem e_lstore9i {a0 a1 a2 a3 a4 a5 a6 a7 : Value} {z : Int32} {o o2 : Value} : (o_lstore 9 K (a0 :: a1 :: a2 :: a3 :: a4 :: a5 :: a6 :: a7 :: .int z :: o :: o2 :: ls) (.long p :: st) w) = (K (a0 :: a1 :: a2 :: a3 :: a4 :: a5 :: a6 :: a7 :: .int z :: .long p :: .null :: ls) st w) := rfl
theorem e_iinc9i {a0 a1 a2 a3 a4 a5 a6 a7 : Value} {z : Int32} : (o_iinc 9 y K (a0 :: a1 :: a2 :: a3 :: a4 :: a5 :: a6 :: a7 :: .int z :: .int x :: ls) st w) = (K (a0 :: a1 :: a2 :: a3 :: a4 :: a5 :: a6 :: a7 :: .int z :: .int (x + y) :: ls) st w) := rfl
theorem e_istore9r {a0 a1 a2 a3 a4 a5 a6 a7 : Value} {z : Nat} {o : Value} : (o_istore 9 K (a0 :: a1 :: a2 :: a3 :: a4 :: a5 :: a6 :: a7 :: .ref z :: o :: ls) (.int x :: st) w) = (K (a0 :: a1 :: a2 :: a3 :: a4 :: a5 :: a6 :: a7 :: .ref z :: .int x :: ls) st w) := rfl
theorem e_lstore9r {a0 a1 a2 a3 a4 a5 a6 a7 : Value} {z : Nat} {o o2 : Value} : (o_lstore 9 K (a0 :: a1 :: a2 :: a3 :: a4 :: a5 :: a6 :: a7 :: .ref z :: o :: o2 :: ls) (.long p :: st) w) = (K (a0 :: a1 :: a2 :: a3 :: a4 :: a5 :: a6 :: a7 :: .ref z :: .long p :: .null :: ls) st w) := rfl
theorem e_iinc9r {a0 a1 a2 a3 a4 a5 a6 a7 : Value} {z : Nat} : (o_iinc 9 y K (a0 :: a1 :: a2 :: a3 :: a4 :: a5 :: a6 :: a7 :: .ref z :: .int x :: ls) st w) = (K (a0 :: a1 :: a2 :: a3 :: a4 :: a5 :: a6 :: a7 :: .ref z :: .int (x + y) :: ls) st w) := rfl
theorem e_istore9n {a0 a1 a2 a3 a4 a5 a6 a7 : Value}  {o : Value} : (o_istore 9 K (a0 :: a1 :: a2 :: a3 :: a4 :: a5 :: a6 :: a7 :: .null :: o :: ls) (.int x :: st) w) = (K (a0 :: a1 :: a2 :: a3 :: a4 :: a5 :: a6 :: a7 :: .null :: .int x :: ls) st w) := rfl
theorem e_lstore9n {a0 a1 a2 a3 a4 a5 a6 a7 : Value}  {o o2 : Value} : (o_lstore 9 K (a0 :: a1 :: a2 :: a3 :: a4 :: a5 :: a6 :: a7 :: .null :: o :: o2 :: ls) (.long p :: st) w) = (K (a0 :: a1 :: a2 :: a3 :: a4 :: a5 :: a6 :: a7 :: .null :: .long p :: .null :: ls) st w) := rfl
theorem e_iinc9n {a0 a1 a2 a3 a4 a5 a6 a7 : Value}  : (o_iinc 9 y K (a0 :: a1 :: a2 :: a3 :: a4 :: a5 :: a6 :: a7 :: .null :: .int x :: ls) st w) = (K (a0 :: a1 :: a2 :: a3 :: a4 :: a5 :: a6 :: a7 :: .null :: .int (x + y) :: ls) st w) := rfl
theorem e_iload10 {a0 a1 a2 a3 a4 a5 a6 a7 a8 a9 : Value} : (o_iload 10 K (a0 :: a1 :: a2 :: a3 :: a4 :: a5 :: a6 :: a7 :: a8 :: a9 :: .int x :: ls) st w) = (K (a0 :: a1 :: a2 :: a3 :: a4 :: a5 :: a6 :: a7 :: a8 :: a9 :: .int x :: ls) (.int x :: st) w) := rfl
theorem e_lload10 {a0 a1 a2 a3 a4 a5 a6 a7 a8 a9 : Value} : (o_lload 10 K (a0 :: a1 :: a2 :: a3 :: a4 :: a5 :: a6 :: a7 :: a8 :: a9 :: .long p :: ls) st w) = (K (a0 :: a1 :: a2 :: a3 :: a4 :: a5 :: a6 :: a7 :: a8 :: a9 :: .long p :: ls) (.long p :: st) w) := rfl
theorem e_aload10 {a0 a1 a2 a3 a4 a5 a6 a7 a8 a9 : Value} : (o_aload 10 K (a0 :: a1 :: a2 :: a3 :: a4 :: a5 :: a6 :: a7 :: a8 :: a9 :: .ref k :: ls) st w) = (K (a0 :: a1 :: a2 :: a3 :: a4 :: a5 :: a6 :: a7 :: a8 :: a9 :: .ref k :: ls) (.ref k :: st) w) := rfl
theorem e_istore10i {a0 a1 a2 a3 a4 a5 a6 a7 a8 : Value} {z : Int32} {o : Value} : (o_istore 10 K (a0 :: a1 :: a2 :: a3 :: a4 :: a5 :: a6 :: a7 :: a8 :: .int z :: o :: ls) (.int x :: st) w) = (K (a0 :: a1 :: a2 :: a3 :: a4 :: a5 :: a6 :: a7 :: a8 :: .int z :: .int x :: ls) st w) := rfl
theorem e_lstore10i {a0 a1 a2 a3 a4 a5 a6 a7 a8 : Value} {z : Int32} {o o2 : Value} : (o_lstore 10 K (a0 :: a1 :: a2 :: a3 :: a4 :: a5 :: a6 :: a7 :: a8 :: .int z :: o :: o2 :: ls) (.long p :: st) w) = (K (a0 :: a1 :: a2 :: a3 :: a4 :: a5 :: a6 :: a7 :: a8 :: .int z :: .long p :: .null :: ls) st w) := rfl
theorem e_iinc10i {a0 a1 a2 a3 a4 a5 a6 a7 a8 : Value} {z : Int32} : (o_iinc 10 y K (a0 :: a1 :: a2 :: a3 :: a4 :: a5 :: a6 :: a7 :: a8 :: .int z :: .int x :: ls) st w) = (K (a0 :: a1 :: a2 :: a3 :: a4 :: a5 :: a6 :: a7 :: a8 :: .int z :: .int (x + y) :: ls) st w) := rfl
theorem e_istore10r {a0 a1 a2 a3 a4 a5 a6 a7 a8 : Value} {z : Nat} {o : Value} : (o_istore 10 K (a0 :: a1 :: a2 :: a3 :: a4 :: a5 :: a6 :: a7 :: a8 :: .ref z :: o :: ls) (.int x :: st) w) = (K (a0 :: a1 :: a2 :: a3 :: a4 :: a5 :: a6 :: a7 :: a8 :: .ref z :: .int x :: ls) st w) := rfl
theorem e_lstore10r {a0 a1 a2 a3 a4 a5 a6 a7 a8 : Value} {z : Nat} {o o2 : Value} : (o_lstore 10 K (a0 :: a1 :: a2 :: a3 :: a4 :: a5 :: a6 :: a7 :: a8 :: .ref z :: o :: o2 :: ls) (.long p :: st) w) = (K (a0 :: a1 :: a2 :: a3 :: a4 :: a5 :: a6 :: a7 :: a8 :: .ref z :: .long p :: .null :: ls) st w) := rfl
theorem e_iinc10r {a0 a1 a2 a3 a4 a5 a6 a7 a8 : Value} {z : Nat} : (o_iinc 10 y K (a0 :: a1 :: a2 :: a3 :: a4 :: a5 :: a6 :: a7 :: a8 :: .ref z :: .int x :: ls) st w) = (K (a0 :: a1 :: a2 :: a3 :: a4 :: a5 :: a6 :: a7 :: a8 :: .ref z :: .int (x + y) :: ls) st w) := rfl
theorem e_istore10n {a0 a1 a2 a3 a4 a5 a6 a7 a8 : Value}  {o : Value} : (o_istore 10 K (a0 :: a1 :: a2 :: a3 :: a4 :: a5 :: a6 :: a7 :: a8 :: .null :: o :: ls) (.int x :: st) w) = (K (a0 :: a1 :: a2 :: a3 :: a4 :: a5 :: a6 :: a7 :: a8 :: .null :: .int x :: ls) st w) := rfl
theorem e_lstore10n {a0 a1 a2 a3 a4 a5 a6 a7 a8 : Value}  {o o2 : Value} : (o_lstore 10 K (a0 :: a1 :: a2 :: a3 :: a4 :: a5 :: a6 :: a7 :: a8 :: .null :: o :: o2 :: ls) (.long p :: st) w) = (K (a0 :: a1 :: a2 :: a3 :: a4 :: a5 :: a6 :: a7 :: a8 :: .null :: .long p :: .null :: ls) st w) := rfl
theorem e_iinc10n {a0 a1 a2 a3 a4 a5 a6 a7 a8 : Value}  : (o_iinc 10 y K (a0 :: a1 :: a2 :: a3 :: a4 :: a5 :: a6 :: a7 :: a8 :: .null :: .int x :: ls) st w) = (K (a0 :: a1 :: a2 :: a3 :: a4 :: a5 :: a6 :: a7 :: a8 :: .null :: .int (x + y) :: ls) st w) := rfl
theorem e_iload11 {a0 a1 a2 a3 a4 a5 a6 a7 a8 a9 a10 : Value} : (o_iload 11 K (a0 :: a1 :: a2 :: a3 :: a4 :: a5 :: a6 :: a7 :: a8 :: a9 :: a10 :: .int x :: ls) st w) = (K (a0 :: a1 :: a2 :: a3 :: a4 :: a5 :: a6 :: a7 :: a8 :: a9 :: a10 :: .int x :: ls) (.int x :: st) w) := rfl
theorem e_lload11 {a0 a1 a2 a3 a4 a5 a6 a7 a8 a9 a10 : Value} : (o_lload 11 K (a0 :: a1 :: a2 :: a3 :: a4 :: a5 :: a6 :: a7 :: a8 :: a9 :: a10 :: .long p :: ls) st w) = (K (a0 :: a1 :: a2 :: a3 :: a4 :: a5 :: a6 :: a7 :: a8 :: a9 :: a10 :: .long p :: ls) (.long p :: st) w) := rfl
theorem e_aload11 {a0 a1 a2 a3 a4 a5 a6 a7 a8 a9 a10 : Value} : (o_aload 11 K (a0 :: a1 :: a2 :: a3 :: a4 :: a5 :: a6 :: a7 :: a8 :: a9 :: a10 :: .ref k :: ls) st w) = (K (a0 :: a1 :: a2 :: a3 :: a4 :: a5 :: a6 :: a7 :: a8 :: a9 :: a10 :: .ref k :: ls) (.ref k :: st) w) := rfl
theorem e_istore11i {a0 a1 a2 a3 a4 a5 a6 a7 a8 a9 : Value} {z : Int32} {o : Value} : (o_istore 11 K (a0 :: a1 :: a2 :: a3 :: a4 :: a5 :: a6 :: a7 :: a8 :: a9 :: .int z :: o :: ls) (.int x :: st) w) = (K (a0 :: a1 :: a2 :: a3 :: a4 :: a5 :: a6 :: a7 :: a8 :: a9 :: .int z :: .int x :: ls) st w) := rfl
theorem e_lstore11i {a0 a1 a2 a3 a4 a5 a6 a7 a8 a9 : Value} {z : Int32} {o o2 : Value} : (o_lstore 11 K (a0 :: a1 :: a2 :: a3 :: a4 :: a5 :: a6 :: a7 :: a8 :: a9 :: .int z :: o :: o2 :: ls) (.long p :: st) w) = (K (a0 :: a1 :: a2 :: a3 :: a4 :: a5 :: a6 :: a7 :: a8 :: a9 :: .int z :: .long p :: .null :: ls) st w) := rfl
theorem e_iinc11i {a0 a1 a2 a3 a4 a5 a6 a7 a8 a9 : Value} {z : Int32} : (o_iinc 11 y K (a0 :: a1 :: a2 :: a3 :: a4 :: a5 :: a6 :: a7 :: a8 :: a9 :: .int z :: .int x :: ls) st w) = (K (a0 :: a1 :: a2 :: a3 :: a4 :: a5 :: a6 :: a7 :: a8 :: a9 :: .int z :: .int (x + y) :: ls) st w) := rfl
theorem e_istore11r {a0 a1 a2 a3 a4 a5 a6 a7 a8 a9 : Value} {z : Nat} {o : Value} : (o_istore 11 K (a0 :: a1 :: a2 :: a3 :: a4 :: a5 :: a6 :: a7 :: a8 :: a9 :: .ref z :: o :: ls) (.int x :: st) w) = (K (a0 :: a1 :: a2 :: a3 :: a4 :: a5 :: a6 :: a7 :: a8 :: a9 :: .ref z :: .int x :: ls) st w) := rfl
theorem e_lstore11r {a0 a1 a2 a3 a4 a5 a6 a7 a8 a9 : Value} {z : Nat} {o o2 : Value} : (o_lstore 11 K (a0 :: a1 :: a2 :: a3 :: a4 :: a5 :: a6 :: a7 :: a8 :: a9 :: .ref z :: o :: o2 :: ls) (.long p :: st) w) = (K (a0 :: a1 :: a2 :: a3 :: a4 :: a5 :: a6 :: a7 :: a8 :: a9 :: .ref z :: .long p :: .null :: ls) st w) := rfl
theorem e_iinc11r {a0 a1 a2 a3 a4 a5 a6 a7 a8 a9 : Value} {z : Nat} : (o_iinc 11 y K (a0 :: a1 :: a2 :: a3 :: a4 :: a5 :: a6 :: a7 :: a8 :: a9 :: .ref z :: .int x :: ls) st w) = (K (a0 :: a1 :: a2 :: a3 :: a4 :: a5 :: a6 :: a7 :: a8 :: a9 :: .ref z :: .int (x + y) :: ls) st w) := rfl
theorem e_istore11n {a0 a1 a2 a3 a4 a5 a6 a7 a8 a9 : Value}  {o : Value} : (o_istore 11 K (a0 :: a1 :: a2 :: a3 :: a4 :: a5 :: a6 :: a7 :: a8 :: a9 :: .null :: o :: ls) (.int x :: st) w) = (K (a0 :: a1 :: a2 :: a3 :: a4 :: a5 :: a6 :: a7 :: a8 :: a9 :: .null :: .int x :: ls) st w) := rfl
theorem e_lstore11n {a0 a1 a2 a3 a4 a5 a6 a7 a8 a9 : Value}  {o o2 : Value} : (o_lstore 11 K (a0 :: a1 :: a2 :: a3 :: a4 :: a5 :: a6 :: a7 :: a8 :: a9 :: .null :: o :: o2 :: ls) (.long p :: st) w) = (K (a0 :: a1 :: a2 :: a3 :: a4 :: a5 :: a6 :: a7 :: a8 :: a9 :: .null :: .long p :: .null :: ls) st w) := rfl
theorem e_iinc11n {a0 a1 a2 a3 a4 a5 a6 a7 a8 a9 : Value}  : (o_iinc 11 y K (a0 :: a1 :: a2 :: a3 :: a4 :: a5 :: a6 :: a7 :: a8 :: a9 :: .null :: .int x :: ls) st w) = (K (a0 :: a1 :: a2 :: a3 :: a4 :: a5 :: a6 :: a7 :: a8 :: a9 :: .null :: .int (x + y) :: ls) st w) := rfl
theorem e_iload12 {a0 a1 a2 a3 a4 a5 a6 a7 a8 a9 a10 a11 : Value} : (o_iload 12 K (a0 :: a1 :: a2 :: a3 :: a4 :: a5 :: a6 :: a7 :: a8 :: a9 :: a10 :: a11 :: .int x :: ls) st w) = (K (a0 :: a1 :: a2 :: a3 :: a4 :: a5 :: a6 :: a7 :: a8 :: a9 :: a10 :: a11 :: .int x :: ls) (.int x :: st) w) := rfl
theorem e_lload12 {a0 a1 a2 a3 a4 a5 a6 a7 a8 a9 a10 a11 : Value} : (o_lload 12 K (a0 :: a1 :: a2 :: a3 :: a4 :: a5 :: a6 :: a7 :: a8 :: a9 :: a10 :: a11 :: .long p :: ls) st w) = (K (a0 :: a1 :: a2 :: a3 :: a4 :: a5 :: a6 :: a7 :: a8 :: a9 :: a10 :: a11 :: .long p :: ls) (.long p :: st) w) := rfl
theorem e_aload12 {a0 a1 a2 a3 a4 a5 a6 a7 a8 a9 a10 a11 : Value} : (o_aload 12 K (a0 :: a1 :: a2 :: a3 :: a4 :: a5 :: a6 :: a7 :: a8 :: a9 :: a10 :: a11 :: .ref k :: ls) st w) = (K (a0 :: a1 :: a2 :: a3 :: a4 :: a5 :: a6 :: a7 :: a8 :: a9 :: a10 :: a11 :: .ref k :: ls) (.ref k :: st) w) := rfl
theorem e_istore12i {a0 a1 a2 a3 a4 a5 a6 a7 a8 a9 a10 : Value} {z : Int32} {o : Value} : (o_istore 12 K (a0 :: a1 :: a2 :: a3 :: a4 :: a5 :: a6 :: a7 :: a8 :: a9 :: a10 :: .int z :: o :: ls) (.int x :: st) w) = (K (a0 :: a1 :: a2 :: a3 :: a4 :: a5 :: a6 :: a7 :: a8 :: a9 :: a10 :: .int z :: .int x :: ls) st w) := rfl
theorem e_lstore12i {a0 a1 a2 a3 a4 a5 a6 a7 a8 a9 a10 : Value} {z : Int32} {o o2 : Value} : (o_lstore 12 K (a0 :: a1 :: a2 :: a3 :: a4 :: a5 :: a6 :: a7 :: a8 :: a9 :: a10 :: .int z :: o :: o2 :: ls) (.long p :: st) w) = (K (a0 :: a1 :: a2 :: a3 :: a4 :: a5 :: a6 :: a7 :: a8 :: a9 :: a10 :: .int z :: .long p :: .null :: ls) st w) := rfl
theorem e_iinc12i {a0 a1 a2 a3 a4 a5 a6 a7 a8 a9 a10 : Value} {z : Int32} : (o_iinc 12 y K (a0 :: a1 :: a2 :: a3 :: a4 :: a5 :: a6 :: a7 :: a8 :: a9 :: a10 :: .int z :: .int x :: ls) st w) = (K (a0 :: a1 :: a2 :: a3 :: a4 :: a5 :: a6 :: a7 :: a8 :: a9 :: a10 :: .int z :: .int (x + y) :: ls) st w) := rfl
theorem e_istore12r {a0 a1 a2 a3 a4 a5 a6 a7 a8 a9 a10 : Value} {z : Nat} {o : Value} : (o_istore 12 K (a0 :: a1 :: a2 :: a3 :: a4 :: a5 :: a6 :: a7 :: a8 :: a9 :: a10 :: .ref z :: o :: ls) (.int x :: st) w) = (K (a0 :: a1 :: a2 :: a3 :: a4 :: a5 :: a6 :: a7 :: a8 :: a9 :: a10 :: .ref z :: .int x :: ls) st w) := rfl
theorem e_lstore12r {a0 a1 a2 a3 a4 a5 a6 a7 a8 a9 a10 : Value} {z : Nat} {o o2 : Value} : (o_lstore 12 K (a0 :: a1 :: a2 :: a3 :: a4 :: a5 :: a6 :: a7 :: a8 :: a9 :: a10 :: .ref z :: o :: o2 :: ls) (.long p :: st) w) = (K (a0 :: a1 :: a2 :: a3 :: a4 :: a5 :: a6 :: a7 :: a8 :: a9 :: a10 :: .ref z :: .long p :: .null :: ls) st w) := rfl
theorem e_iinc12r {a0 a1 a2 a3 a4 a5 a6 a7 a8 a9 a10 : Value} {z : Nat} : (o_iinc 12 y K (a0 :: a1 :: a2 :: a3 :: a4 :: a5 :: a6 :: a7 :: a8 :: a9 :: a10 :: .ref z :: .int x :: ls) st w) = (K (a0 :: a1 :: a2 :: a3 :: a4 :: a5 :: a6 :: a7 :: a8 :: a9 :: a10 :: .ref z :: .int (x + y) :: ls) st w) := rfl
theorem e_istore12n {a0 a1 a2 a3 a4 a5 a6 a7 a8 a9 a10 : Value}  {o : Value} : (o_istore 12 K (a0 :: a1 :: a2 :: a3 :: a4 :: a5 :: a6 :: a7 :: a8 :: a9 :: a10 :: .null :: o :: ls) (.int x :: st) w) = (K (a0 :: a1 :: a2 :: a3 :: a4 :: a5 :: a6 :: a7 :: a8 :: a9 :: a10 :: .null :: .int x :: ls) st w) := rfl
theorem e_lstore12n {a0 a1 a2 a3 a4 a5 a6 a7 a8 a9 a10 : Value}  {o o2 : Value} : (o_lstore 12 K (a0 :: a1 :: a2 :: a3 :: a4 :: a5 :: a6 :: a7 :: a8 :: a9 :: a10 :: .null :: o :: o2 :: ls) (.long p :: st) w) = (K (a0 :: a1 :: a2 :: a3 :: a4 :: a5 :: a6 :: a7 :: a8 :: a9 :: a10 :: .null :: .long p :: .null :: ls) st w) := rfl
theorem e_iinc12n {a0 a1 a2 a3 a4 a5 a6 a7 a8 a9 a10 : Value}  : (o_iinc 12 y K (a0 :: a1 :: a2 :: a3 :: a4 :: a5 :: a6 :: a7 :: a8 :: a9 :: a10 :: .null :: .int x :: ls) st w) = (K (a0 :: a1 :: a2 :: a3 :: a4 :: a5 :: a6 :: a7 :: a8 :: a9 :: a10 :: .null :: .int (x + y) :: ls) st w) := rfl
theorem e_iload13 {a0 a1 a2 a3 a4 a5 a6 a7 a8 a9 a10 a11 a12 : Value} : (o_iload 13 K (a0 :: a1 :: a2 :: a3 :: a4 :: a5 :: a6 :: a7 :: a8 :: a9 :: a10 :: a11 :: a12 :: .int x :: ls) st w) = (K (a0 :: a1 :: a2 :: a3 :: a4 :: a5 :: a6 :: a7 :: a8 :: a9 :: a10 :: a11 :: a12 :: .int x :: ls) (.int x :: st) w) := rfl
theorem e_lload13 {a0 a1 a2 a3 a4 a5 a6 a7 a8 a9 a10 a11 a12 : Value} : (o_lload 13 K (a0 :: a1 :: a2 :: a3 :: a4 :: a5 :: a6 :: a7 :: a8 :: a9 :: a10 :: a11 :: a12 :: .long p :: ls) st w) = (K (a0 :: a1 :: a2 :: a3 :: a4 :: a5 :: a6 :: a7 :: a8 :: a9 :: a10 :: a11 :: a12 :: .long p :: ls) (.long p :: st) w) := rfl
theorem e_aload13 {a0 a1 a2 a3 a4 a5 a6 a7 a8 a9 a10 a11 a12 : Value} : (o_aload 13 K (a0 :: a1 :: a2 :: a3 :: a4 :: a5 :: a6 :: a7 :: a8 :: a9 :: a10 :: a11 :: a12 :: .ref k :: ls) st w) = (K (a0 :: a1 :: a2 :: a3 :: a4 :: a5 :: a6 :: a7 :: a8 :: a9 :: a10 :: a11 :: a12 :: .ref k :: ls) (.ref k :: st) w) := rfl
theorem e_istore13i {a0 a1 a2 a3 a4 a5 a6 a7 a8 a9 a10 a11 : Value} {z : Int32} {o : Value} : (o_istore 13 K (a0 :: a1 :: a2 :: a3 :: a4 :: a5 :: a6 :: a7 :: a8 :: a9 :: a10 :: a11 :: .int z :: o :: ls) (.int x :: st) w) = (K (a0 :: a1 :: a2 :: a3 :: a4 :: a5 :: a6 :: a7 :: a8 :: a9 :: a10 :: a11 :: .int z :: .int x :: ls) st w) := rfl
theorem e_lstore13i {a0 a1 a2 a3 a4 a5 a6 a7 a8 a9 a10 a11 : Value} {z : Int32} {o o2 : Value} : (o_lstore 13 K (a0 :: a1 :: a2 :: a3 :: a4 :: a5 :: a6 :: a7 :: a8 :: a9 :: a10 :: a11 :: .int z :: o :: o2 :: ls) (.long p :: st) w) = (K (a0 :: a1 :: a2 :: a3 :: a4 :: a5 :: a6 :: a7 :: a8 :: a9 :: a10 :: a11 :: .int z :: .long p :: .null :: ls) st w) := rfl
theorem e_iinc13i {a0 a1 a2 a3 a4 a5 a6 a7 a8 a9 a10 a11 : Value} {z : Int32} : (o_iinc 13 y K (a0 :: a1 :: a2 :: a3 :: a4 :: a5 :: a6 :: a7 :: a8 :: a9 :: a10 :: a11 :: .int z :: .int x :: ls) st w) = (K (a0 :: a1 :: a2 :: a3 :: a4 :: a5 :: a6 :: a7 :: a8 :: a9 :: a10 :: a11 :: .int z :: .int (x + y) :: ls) st w) := rfl
theorem e_istore13r {a0 a1 a2 a3 a4 a5 a6 a7 a8 a9 a10 a11 : Value} {z : Nat} {o : Value} : (o_istore 13 K (a0 :: a1 :: a2 :: a3 :: a4 :: a5 :: a6 :: a7 :: a8 :: a9 :: a10 :: a11 :: .ref z :: o :: ls) (.int x :: st) w) = (K (a0 :: a1 :: a2 :: a3 :: a4 :: a5 :: a6 :: a7 :: a8 :: a9 :: a10 :: a11 :: .ref z :: .int x :: ls) st w) := rfl
theorem e_lstore13r {a0 a1 a2 a3 a4 a5 a6 a7 a8 a9 a10 a11 : Value} {z : Nat} {o o2 : Value} : (o_lstore 13 K (a0 :: a1 :: a2 :: a3 :: a4 :: a5 :: a6 :: a7 :: a8 :: a9 :: a10 :: a11 :: .ref z :: o :: o2 :: ls) (.long p :: st) w) = (K (a0 :: a1 :: a2 :: a3 :: a4 :: a5 :: a6 :: a7 :: a8 :: a9 :: a10 :: a11 :: .ref z :: .long p :: .null :: ls) st w) := rfl
theorem e_iinc13r {a0 a1 a2 a3 a4 a5 a6 a7 a8 a9 a10 a11 : Value} {z : Nat} : (o_iinc 13 y K (a0 :: a1 :: a2 :: a3 :: a4 :: a5 :: a6 :: a7 :: a8 :: a9 :: a10 :: a11 :: .ref z :: .int x :: ls) st w) = (K (a0 :: a1 :: a2 :: a3 :: a4 :: a5 :: a6 :: a7 :: a8 :: a9 :: a10 :: a11 :: .ref z :: .int (x + y) :: ls) st w) := rfl
theorem e_istore13n {a0 a1 a2 a3 a4 a5 a6 a7 a8 a9 a10 a11 : Value}  {o : Value} : (o_istore 13 K (a0 :: a1 :: a2 :: a3 :: a4 :: a5 :: a6 :: a7 :: a8 :: a9 :: a10 :: a11 :: .null :: o :: ls) (.int x :: st) w) = (K (a0 :: a1 :: a2 :: a3 :: a4 :: a5 :: a6 :: a7 :: a8 :: a9 :: a10 :: a11 :: .null :: .int x :: ls) st w) := rfl
theorem e_lstore13n {a0 a1 a2 a3 a4 a5 a6 a7 a8 a9 a10 a11 : Value}  {o o2 : Value} : (o_lstore 13 K (a0 :: a1 :: a2 :: a3 :: a4 :: a5 :: a6 :: a7 :: a8 :: a9 :: a10 :: a11 :: .null :: o :: o2 :: ls) (.long p :: st) w) = (K (a0 :: a1 :: a2 :: a3 :: a4 :: a5 :: a6 :: a7 :: a8 :: a9 :: a10 :: a11 :: .null :: .long p :: .null :: ls) st w) := rfl
theorem e_iinc13n {a0 a1 a2 a3 a4 a5 a6 a7 a8 a9 a10 a11 : Value}  : (o_iinc 13 y K (a0 :: a1 :: a2 :: a3 :: a4 :: a5 :: a6 :: a7 :: a8 :: a9 :: a10 :: a11 :: .null :: .int x :: ls) st w) = (K (a0 :: a1 :: a2 :: a3 :: a4 :: a5 :: a6 :: a7 :: a8 :: a9 :: a10 :: a11 :: .null :: .int (x + y) :: ls) st w) := rfl
theorem e_iadd  : (o_iadd K ls (.int y :: .int x :: r) w) = (K ls (.int (x + y) :: r) w) := rfl
theorem e_isub  : (o_isub K ls (.int y :: .int x :: r) w) = (K ls (.int (x - y) :: r) w) := rfl
theorem e_imul  : (o_imul K ls (.int y :: .int x :: r) w) = (K ls (.int (x * y) :: r) w) := rfl
theorem e_iand  : (o_iand K ls (.int y :: .int x :: r) w) = (K ls (.int (x &&& y) :: r) w) := rfl
theorem e_ior  : (o_ior K ls (.int y :: .int x :: r) w) = (K ls (.int (x ||| y) :: r) w) := rfl
theorem e_ixor  : (o_ixor K ls (.int y :: .int x :: r) w) = (K ls (.int (x ^^^ y) :: r) w) := rfl
theorem e_ishl  : (o_ishl K ls (.int y :: .int x :: r) w) = (K ls (.int (x <<< (y &&& 31)) :: r) w) := rfl
theorem e_ishr  : (o_ishr K ls (.int y :: .int x :: r) w) = (K ls (.int (x >>> (y &&& 31)) :: r) w) := rfl
theorem e_iushr  : (o_iushr K ls (.int y :: .int x :: r) w) = (K ls (.int ((x.toUInt32 >>> (y.toUInt32 &&& Int32.toUInt32 31)).toInt32) :: r) w) := rfl
theorem e_idiv  : (o_idiv K ls (.int y :: .int x :: r) w) = (¬ y = 0 ∧ K ls (.int (x / y) :: r) w) := rfl
theorem e_irem  : (o_irem K ls (.int y :: .int x :: r) w) = (¬ y = 0 ∧ K ls (.int (x - x / y * y) :: r) w) := rfl
theorem e_ladd  : (o_ladd K ls (.long q :: .long p :: r) w) = (K ls (.long (p + q) :: r) w) := rfl
theorem e_lsub  : (o_lsub K ls (.long q :: .long p :: r) w) = (K ls (.long (p - q) :: r) w) := rfl
theorem e_lmul  : (o_lmul K ls (.long q :: .long p :: r) w) = (K ls (.long (p * q) :: r) w) := rfl
theorem e_land  : (o_land K ls (.long q :: .long p :: r) w) = (K ls (.long (p &&& q) :: r) w) := rfl
theorem e_lor  : (o_lor K ls (.long q :: .long p :: r) w) = (K ls (.long (p ||| q) :: r) w) := rfl
theorem e_ldiv  : (o_ldiv K ls (.long q :: .long p :: r) w) = (¬ q = 0 ∧ K ls (.long (p / q) :: r) w) := rfl
theorem e_lrem  : (o_lrem K ls (.long q :: .long p :: r) w) = (¬ q = 0 ∧ K ls (.long (p - p / q * q) :: r) w) := rfl
theorem e_lshl  : (o_lshl K ls (.int y :: .long p :: r) w) = (K ls (.long (p <<< (y.toInt64 &&& 63)) :: r) w) := rfl
theorem e_lshr  : (o_lshr K ls (.int y :: .long p :: r) w) = (K ls (.long (p >>> (y.toInt64 &&& 63)) :: r) w) := rfl
theorem e_lcmp  : (o_lcmp K ls (.long q :: .long p :: r) w) = (K ls (.int (lg_cmp p q) :: r) w) := rfl
theorem e_ineg  : (o_ineg K ls (.int x :: r) w) = (K ls (.int (0 - x) :: r) w) := rfl
theorem e_i2l  : (o_i2l K ls (.int x :: r) w) = (K ls (.long x.toInt64 :: r) w) := rfl
theorem e_l2i  : (o_l2i K ls (.long p :: r) w) = (K ls (.int p.toInt32 :: r) w) := rfl
theorem e_i2b  : (o_i2b K ls (.int x :: r) w) = (K ls (.int x.toInt8.toInt32 :: r) w) := rfl
theorem e_i2c  : (o_i2c K ls (.int x :: r) w) = (K ls (.int (x.toUInt32 % 65536).toInt32 :: r) w) := rfl
theorem e_dupi  : (o_dup K ls (.int x :: r) w) = (K ls (.int x :: .int x :: r) w) := rfl
theorem e_dupa  : (o_dup K ls (.ref k :: r) w) = (K ls (.ref k :: .ref k :: r) w) := rfl
theorem e_dup2  : (o_dup2 K ls (.int x :: .ref k :: r) w) = (K ls (.int x :: .ref k :: .int x :: .ref k :: r) w) := rfl
theorem e_popi  : (o_pop K ls (.int x :: r) w) = (K ls r w) := rfl
theorem e_popa  : (o_pop K ls (.ref k :: r) w) = (K ls r w) := rfl
theorem e_ifeq  : (o_ifeq K1 K2 ls (.int x :: r) w) = (if x = 0 then K1 ls r w else K2 ls r w) := rfl
theorem e_ifne  : (o_ifne K1 K2 ls (.int x :: r) w) = (if x = 0 then K1 ls r w else K2 ls r w) := rfl
theorem e_iflt  : (o_iflt K1 K2 ls (.int x :: r) w) = (if x < 0 then K1 ls r w else K2 ls r w) := rfl
theorem e_ifge  : (o_ifge K1 K2 ls (.int x :: r) w) = (if x < 0 then K1 ls r w else K2 ls r w) := rfl
theorem e_ifgt  : (o_ifgt K1 K2 ls (.int x :: r) w) = (if 0 < x then K1 ls r w else K2 ls r w) := rfl
theorem e_ifle  : (o_ifle K1 K2 ls (.int x :: r) w) = (if 0 < x then K1 ls r w else K2 ls r w) := rfl
theorem e_icmpeq  : (o_icmpeq K1 K2 ls (.int y :: .int x :: r) w) = (if x = y then K1 ls r w else K2 ls r w) := rfl
theorem e_icmpne  : (o_icmpne K1 K2 ls (.int y :: .int x :: r) w) = (if x = y then K1 ls r w else K2 ls r w) := rfl
theorem e_icmplt  : (o_icmplt K1 K2 ls (.int y :: .int x :: r) w) = (if x < y then K1 ls r w else K2 ls r w) := rfl
theorem e_icmpge  : (o_icmpge K1 K2 ls (.int y :: .int x :: r) w) = (if x < y then K1 ls r w else K2 ls r w) := rfl
theorem e_icmpgt  : (o_icmpgt K1 K2 ls (.int y :: .int x :: r) w) = (if y < x then K1 ls r w else K2 ls r w) := rfl
theorem e_icmple  : (o_icmple K1 K2 ls (.int y :: .int x :: r) w) = (if y < x then K1 ls r w else K2 ls r w) := rfl
theorem e_getI  : (o_getI ci f K ls (.ref k :: r) w) = (isO ci k ∧ K ls (.int (w.1 k f) :: r) w) := rfl
theorem e_getL  : (o_getL ci f K ls (.ref k :: r) w) = (isO ci k ∧ K ls (.long (w.2 k f) :: r) w) := rfl
theorem e_getR  : (o_getR ci f K ls (.ref k :: r) w) = (isO ci k ∧ K ls (.ref (fr k f) :: r) w) := rfl
theorem e_putI  : (o_putI ci f K ls (.int x :: .ref k :: r) w) = (isO ci k ∧ K ls r (wI w k f x)) := rfl
theorem e_putZ  : (o_putZ ci f K ls (.int x :: .ref k :: r) w) = (isO ci k ∧ (x = 0 ∨ x = 1) ∧ K ls r (wI w k f x)) := rfl
theorem e_putL  : (o_putL ci f K ls (.long p :: .ref k :: r) w) = (isO ci k ∧ K ls r (wL w k f p)) := rfl
theorem e_iald  : (o_iald K ls (.int x :: .ref k :: r) w) = (vp_in x (aln 0 k) ∧ K ls (.int (w.1 k x.toNatClampNeg) :: r) w) := rfl
theorem e_bald  : (o_bald K ls (.int x :: .ref k :: r) w) = (vp_in x (aln 1 k) ∧ K ls (.int (w.1 k x.toNatClampNeg) :: r) w) := rfl
theorem e_lald  : (o_lald K ls (.int x :: .ref k :: r) w) = (vp_in x (aln 2 k) ∧ K ls (.long (w.2 k x.toNatClampNeg) :: r) w) := rfl
theorem e_iast  : (o_iast K ls (.int y :: .int x :: .ref k :: r) w) = (vp_in x (aln 0 k) ∧ K ls r (wI w k x.toNatClampNeg y)) := rfl
theorem e_bast  : (o_bast K ls (.int y :: .int x :: .ref k :: r) w) = (vp_in x (aln 1 k) ∧ K ls r (wI w k x.toNatClampNeg (vp_nar .byte y))) := rfl
theorem e_last  : (o_last K ls (.long p :: .int x :: .ref k :: r) w) = (vp_in x (aln 2 k) ∧ K ls r (wL w k x.toNatClampNeg p)) := rfl
theorem e_aald  : (o_aald K ls (.int x :: .ref k :: r) w) = (vp_in x (aln 3 k) ∧ k + 1 + aln 3 k ≤ NC ∧ K ls (.ref (k + 1 + x.toNatClampNeg) :: r) w) := rfl
theorem e_alen  : (o_alen K ls (.ref k :: r) w) = (isA k ∧ K ls (.int (nI (lnA k)) :: r) w) := rfl
theorem e_xald {L : Nat} {xs : Nat → Int32} : (o_xald L xs K ls (.int x :: .ref 999 :: r) w) = (vp_in x L ∧ K ls (.int (xs x.toNatClampNeg) :: r) w) := rfl
theorem e_xlen {L : Nat} : (o_xlen L K ls (.ref 999 :: r) w) = (K ls (.int (Int32.ofNat L) :: r) w) := rfl
theorem e_copyI {k' : Nat} {n dp sp : Int32} : (o_copyI K ls (.int n :: .int dp :: .ref k' :: .int sp :: .ref k :: r) w) = (catS r ≤ 8 ∧ cpOk 0 k k' sp dp n ∧ K ls r (cpI w k sp.toNatClampNeg k' dp.toNatClampNeg n.toNatClampNeg)) := rfl
theorem e_copyL {k' : Nat} {n dp sp : Int32} : (o_copyL K ls (.int n :: .int dp :: .ref k' :: .int sp :: .ref k :: r) w) = (catS r ≤ 8 ∧ cpOk 2 k k' sp dp n ∧ K ls r (cpL w k sp.toNatClampNeg k' dp.toNatClampNeg n.toNatClampNeg)) := rfl
theorem e_max  : (o_max K ls (.int y :: .int x :: r) w) = (catS r ≤ 8 ∧ K ls (.int (if x < y then y else x) :: r) w) := rfl
theorem e_min  : (o_min K ls (.int y :: .int x :: r) w) = (catS r ≤ 8 ∧ K ls (.int (if y < x then y else x) :: r) w) := rfl
theorem e_callV0  : (o_callV0 ci C d K ls (.ref k :: r) w) = (isO ci k ∧ catS r ≤ 8 ∧ Cl d C [.ref k] w (fun v w' => K ls (v.toList ++ r) w')) := rfl
theorem e_callT0  : (o_callT0 C d K ls (.ref k :: r) w) = (isT k ∧ catS r ≤ 8 ∧ Cl d C [.ref k] w (fun v w' => K ls (v.toList ++ r) w')) := rfl
theorem e_callS1 {a1 : Value} : (o_callS1 C d K ls (a1 :: r) w) = (catS r ≤ 8 ∧ Cl d C [a1] w (fun v w' => K ls (v.toList ++ r) w')) := rfl
theorem e_callV1 {a1 : Value} : (o_callV1 ci C d K ls (a1 :: .ref k :: r) w) = (isO ci k ∧ catS r ≤ 8 ∧ Cl d C [.ref k, a1] w (fun v w' => K ls (v.toList ++ r) w')) := rfl
theorem e_callT1 {a1 : Value} : (o_callT1 C d K ls (a1 :: .ref k :: r) w) = (isT k ∧ catS r ≤ 8 ∧ Cl d C [.ref k, a1] w (fun v w' => K ls (v.toList ++ r) w')) := rfl
theorem e_callS2 {a1 a2 : Value} : (o_callS2 C d K ls (a2 :: a1 :: r) w) = (catS r ≤ 8 ∧ Cl d C [a1, a2] w (fun v w' => K ls (v.toList ++ r) w')) := rfl
theorem e_callV2 {a1 a2 : Value} : (o_callV2 ci C d K ls (a2 :: a1 :: .ref k :: r) w) = (isO ci k ∧ catS r ≤ 8 ∧ Cl d C [.ref k, a1, a2] w (fun v w' => K ls (v.toList ++ r) w')) := rfl
theorem e_callS3 {a1 a2 a3 : Value} : (o_callS3 C d K ls (a3 :: a2 :: a1 :: r) w) = (catS r ≤ 8 ∧ Cl d C [a1, a2, a3] w (fun v w' => K ls (v.toList ++ r) w')) := rfl
theorem e_callV3 {a1 a2 a3 : Value} : (o_callV3 ci C d K ls (a3 :: a2 :: a1 :: .ref k :: r) w) = (isO ci k ∧ catS r ≤ 8 ∧ Cl d C [.ref k, a1, a2, a3] w (fun v w' => K ls (v.toList ++ r) w')) := rfl
theorem e_callS4 {a1 a2 a3 a4 : Value} : (o_callS4 C d K ls (a4 :: a3 :: a2 :: a1 :: r) w) = (catS r ≤ 8 ∧ Cl d C [a1, a2, a3, a4] w (fun v w' => K ls (v.toList ++ r) w')) := rfl
theorem e_callV4 {a1 a2 a3 a4 : Value} : (o_callV4 ci C d K ls (a4 :: a3 :: a2 :: a1 :: .ref k :: r) w) = (isO ci k ∧ catS r ≤ 8 ∧ Cl d C [.ref k, a1, a2, a3, a4] w (fun v w' => K ls (v.toList ++ r) w')) := rfl
theorem e_callS5 {a1 a2 a3 a4 a5 : Value} : (o_callS5 C d K ls (a5 :: a4 :: a3 :: a2 :: a1 :: r) w) = (catS r ≤ 8 ∧ Cl d C [a1, a2, a3, a4, a5] w (fun v w' => K ls (v.toList ++ r) w')) := rfl
theorem e_callV5 {a1 a2 a3 a4 a5 : Value} : (o_callV5 ci C d K ls (a5 :: a4 :: a3 :: a2 :: a1 :: .ref k :: r) w) = (isO ci k ∧ catS r ≤ 8 ∧ Cl d C [.ref k, a1, a2, a3, a4, a5] w (fun v w' => K ls (v.toList ++ r) w')) := rfl
theorem e_iret {Q : Option Value → Mem → Prop} : (o_iret Q ls [.int x] w) = (Q (some (.int x)) w) := rfl
theorem e_zret {Q : Option Value → Mem → Prop} : (o_zret .boolean Q ls [.int x] w) = (narrow .boolean (.int x) = .int x ∧ Q (some (.int x)) w) := rfl
theorem e_lret {Q : Option Value → Mem → Prop} : (o_lret Q ls [.long p] w) = (Q (some (.long p)) w) := rfl
theorem e_vret {Q : Option Value → Mem → Prop} : (o_vret Q ls [] w) = (Q none w) := rfl
theorem e_tsw {Ks : List Kn} : (o_tsw y Ks K ls (.int x :: r) w) = (tsw x y Ks K ls r w) := rfl
theorem e_tsw0  : (tsw x y [] K ls st w) = (K ls st w) := rfl
theorem e_tsw1 {Ks : List Kn} : (tsw x y (K1 :: Ks) K ls st w) = (if x = y then K1 ls st w else tsw x (y + 1) Ks K ls st w) := rfl
theorem e_lsw {Ks : List (Int32 × Kn)} : (o_lsw Ks K ls (.int x :: r) w) = (lsw x Ks K ls r w) := rfl
theorem e_lsw0  : (lsw x [] K ls st w) = (K ls st w) := rfl
theorem e_lsw1 {Ks : List (Int32 × Kn)} : (lsw x ((y, K1) :: Ks) K ls st w) = (if x = y then K1 ls st w else lsw x Ks K ls st w) := rfl
theorem e_sval  : (o_sval K ls (.ref k :: r) w) = (isT k ∧ K ls (.ref (1000 + k) :: r) w) := rfl
theorem e_scod  : (o_scod K ls (.ref k :: r) w) = (isT k ∧ K ls (.int 0 :: r) w) := rfl
theorem e_slen  : (o_slen K ls (.ref k :: r) w) = (isT (k - 1000) ∧ K ls (.int (Int32.ofNat (sbyt (k - 2000)).length) :: r) w) := rfl
theorem e_sbal  : (o_sbal K ls (.int x :: .ref k :: r) w) = (isT (k - 1000) ∧ vp_in x (sbyt (k - 2000)).length ∧ K ls (.int ((sbyt (k - 2000)).getD x.toNatClampNeg 0) :: r) w) := rfl
theorem e_gsC  : (o_gsC K ls st w) = (K ls (.int 1 :: st) w) := rfl
theorem e_gsF  : (o_gsF K ls st w) = (K ls (.ref 3000 :: st) w) := rfl
theorem e_stop  : (o_stop ls st w) = (False) := rfl
theorem cs0 : catS [] = 0 := by simp [catS, Value.category]
theorem cs1 : catS (.int x :: r) = 1 + catS r := by simp [catS, Value.category]
theorem cs2 : catS (.ref k :: r) = 1 + catS r := by simp [catS, Value.category]
theorem cs3 : catS (.long p :: r) = 2 + catS r := by simp [catS, Value.category]
end EQS
theorem isO_0 : isO 10 0 = True := eq_true ⟨_, rfl⟩
theorem fr_0_0 : fr 0 0 = 1 := rfl
theorem fr_0_2 : fr 0 2 = 2 := rfl
theorem fr_0_3 : fr 0 3 = 16 := rfl
theorem fr_0_4 : fr 0 4 = 18 := rfl
theorem fr_0_5 : fr 0 5 = 20 := rfl
theorem fr_0_6 : fr 0 6 = 22 := rfl
theorem fr_0_7 : fr 0 7 = 45 := rfl
theorem fr_0_8 : fr 0 8 = 53 := rfl
theorem fr_0_9 : fr 0 9 = 55 := rfl
theorem fr_0_10 : fr 0 10 = 56 := rfl
theorem aln_1 : aln 1 1 = 900 := rfl
theorem isA_1 : isA 1 = True := eq_true ⟨_, _, rfl⟩
theorem lnA_1 : lnA 1 = 900 := rfl
theorem isO_2 : isO 9 2 = True := eq_true ⟨_, rfl⟩
theorem fr_2_0 : fr 2 0 = 3 := rfl
theorem fr_2_1 : fr 2 1 = 4 := rfl
theorem fr_2_2 : fr 2 2 = 5 := rfl
theorem fr_2_3 : fr 2 3 = 6 := rfl
theorem fr_2_4 : fr 2 4 = 7 := rfl
theorem fr_2_5 : fr 2 5 = 8 := rfl
theorem fr_2_6 : fr 2 6 = 9 := rfl
theorem fr_2_7 : fr 2 7 = 10 := rfl
theorem fr_2_8 : fr 2 8 = 11 := rfl
theorem fr_2_9 : fr 2 9 = 12 := rfl
theorem fr_2_10 : fr 2 10 = 13 := rfl
theorem fr_2_11 : fr 2 11 = 14 := rfl
theorem fr_2_12 : fr 2 12 = 15 := rfl
theorem aln_3 : aln 0 3 = 11 := rfl
theorem isA_3 : isA 3 = True := eq_true ⟨_, _, rfl⟩
theorem lnA_3 : lnA 3 = 11 := rfl
theorem aln_4 : aln 0 4 = 4 := rfl
theorem isA_4 : isA 4 = True := eq_true ⟨_, _, rfl⟩
theorem lnA_4 : lnA 4 = 4 := rfl
theorem aln_5 : aln 0 5 = 4 := rfl
theorem isA_5 : isA 5 = True := eq_true ⟨_, _, rfl⟩
theorem lnA_5 : lnA 5 = 4 := rfl
theorem aln_6 : aln 0 6 = 4 := rfl
theorem isA_6 : isA 6 = True := eq_true ⟨_, _, rfl⟩
theorem lnA_6 : lnA 6 = 4 := rfl
theorem aln_7 : aln 0 7 = 4 := rfl
theorem isA_7 : isA 7 = True := eq_true ⟨_, _, rfl⟩
theorem lnA_7 : lnA 7 = 4 := rfl
theorem aln_8 : aln 0 8 = 4 := rfl
theorem isA_8 : isA 8 = True := eq_true ⟨_, _, rfl⟩
theorem lnA_8 : lnA 8 = 4 := rfl
theorem aln_9 : aln 0 9 = 5 := rfl
theorem isA_9 : isA 9 = True := eq_true ⟨_, _, rfl⟩
theorem lnA_9 : lnA 9 = 5 := rfl
theorem aln_10 : aln 0 10 = 5 := rfl
theorem isA_10 : isA 10 = True := eq_true ⟨_, _, rfl⟩
theorem lnA_10 : lnA 10 = 5 := rfl
theorem aln_11 : aln 0 11 = 6 := rfl
theorem isA_11 : isA 11 = True := eq_true ⟨_, _, rfl⟩
theorem lnA_11 : lnA 11 = 6 := rfl
theorem aln_12 : aln 0 12 = 4 := rfl
theorem isA_12 : isA 12 = True := eq_true ⟨_, _, rfl⟩
theorem lnA_12 : lnA 12 = 4 := rfl
theorem aln_13 : aln 0 13 = 5 := rfl
theorem isA_13 : isA 13 = True := eq_true ⟨_, _, rfl⟩
theorem lnA_13 : lnA 13 = 5 := rfl
theorem aln_14 : aln 0 14 = 5 := rfl
theorem isA_14 : isA 14 = True := eq_true ⟨_, _, rfl⟩
theorem lnA_14 : lnA 14 = 5 := rfl
theorem aln_15 : aln 0 15 = 5 := rfl
theorem isA_15 : isA 15 = True := eq_true ⟨_, _, rfl⟩
theorem lnA_15 : lnA 15 = 5 := rfl
theorem isO_16 : isO 4 16 = True := eq_true ⟨_, rfl⟩
theorem fr_16_0 : fr 16 0 = 2 := rfl
theorem fr_16_1 : fr 16 1 = 17 := rfl
theorem aln_17 : aln 0 17 = 4 := rfl
theorem isA_17 : isA 17 = True := eq_true ⟨_, _, rfl⟩
theorem lnA_17 : lnA 17 = 4 := rfl
theorem isO_18 : isO 4 18 = True := eq_true ⟨_, rfl⟩
theorem fr_18_0 : fr 18 0 = 2 := rfl
theorem fr_18_1 : fr 18 1 = 19 := rfl
theorem aln_19 : aln 0 19 = 4 := rfl
theorem isA_19 : isA 19 = True := eq_true ⟨_, _, rfl⟩
theorem lnA_19 : lnA 19 = 4 := rfl
theorem isO_20 : isO 7 20 = True := eq_true ⟨_, rfl⟩
theorem fr_20_0 : fr 20 0 = 21 := rfl
theorem aln_21 : aln 0 21 = 4 := rfl
theorem isA_21 : isA 21 = True := eq_true ⟨_, _, rfl⟩
theorem lnA_21 : lnA 21 = 4 := rfl
theorem isO_22 : isO 6 22 = True := eq_true ⟨_, rfl⟩
theorem fr_22_0 : fr 22 0 = 44 := rfl
theorem fr_22_1 : fr 22 1 = 23 := rfl
theorem fr_22_2 : fr 22 2 = 28 := rfl
theorem fr_22_3 : fr 22 3 = 42 := rfl
theorem isO_23 : isO 3 23 = True := eq_true ⟨_, rfl⟩
theorem fr_23_0 : fr 23 0 = 24 := rfl
theorem fr_23_1 : fr 23 1 = 25 := rfl
theorem fr_23_2 : fr 23 2 = 26 := rfl
theorem fr_23_3 : fr 23 3 = 27 := rfl
theorem aln_24 : aln 0 24 = 13 := rfl
theorem isA_24 : isA 24 = True := eq_true ⟨_, _, rfl⟩
theorem lnA_24 : lnA 24 = 13 := rfl
theorem aln_25 : aln 0 25 = 13 := rfl
theorem isA_25 : isA 25 = True := eq_true ⟨_, _, rfl⟩
theorem lnA_25 : lnA 25 = 13 := rfl
theorem aln_26 : aln 0 26 = 13 := rfl
theorem isA_26 : isA 26 = True := eq_true ⟨_, _, rfl⟩
theorem lnA_26 : lnA 26 = 13 := rfl
theorem aln_27 : aln 0 27 = 13 := rfl
theorem isA_27 : isA 27 = True := eq_true ⟨_, _, rfl⟩
theorem lnA_27 : lnA 27 = 13 := rfl
theorem isO_28 : isO 9 28 = True := eq_true ⟨_, rfl⟩
theorem fr_28_0 : fr 28 0 = 29 := rfl
theorem fr_28_1 : fr 28 1 = 30 := rfl
theorem fr_28_2 : fr 28 2 = 31 := rfl
theorem fr_28_3 : fr 28 3 = 32 := rfl
theorem fr_28_4 : fr 28 4 = 33 := rfl
theorem fr_28_5 : fr 28 5 = 34 := rfl
theorem fr_28_6 : fr 28 6 = 35 := rfl
theorem fr_28_7 : fr 28 7 = 36 := rfl
theorem fr_28_8 : fr 28 8 = 37 := rfl
theorem fr_28_9 : fr 28 9 = 38 := rfl
theorem fr_28_10 : fr 28 10 = 39 := rfl
theorem fr_28_11 : fr 28 11 = 40 := rfl
theorem fr_28_12 : fr 28 12 = 41 := rfl
theorem aln_29 : aln 0 29 = 11 := rfl
theorem isA_29 : isA 29 = True := eq_true ⟨_, _, rfl⟩
theorem lnA_29 : lnA 29 = 11 := rfl
theorem aln_30 : aln 0 30 = 4 := rfl
theorem isA_30 : isA 30 = True := eq_true ⟨_, _, rfl⟩
theorem lnA_30 : lnA 30 = 4 := rfl
theorem aln_31 : aln 0 31 = 4 := rfl
theorem isA_31 : isA 31 = True := eq_true ⟨_, _, rfl⟩
theorem lnA_31 : lnA 31 = 4 := rfl
theorem aln_32 : aln 0 32 = 4 := rfl
theorem isA_32 : isA 32 = True := eq_true ⟨_, _, rfl⟩
theorem lnA_32 : lnA 32 = 4 := rfl
theorem aln_33 : aln 0 33 = 4 := rfl
theorem isA_33 : isA 33 = True := eq_true ⟨_, _, rfl⟩
theorem lnA_33 : lnA 33 = 4 := rfl
theorem aln_34 : aln 0 34 = 4 := rfl
theorem isA_34 : isA 34 = True := eq_true ⟨_, _, rfl⟩
theorem lnA_34 : lnA 34 = 4 := rfl
theorem aln_35 : aln 0 35 = 5 := rfl
theorem isA_35 : isA 35 = True := eq_true ⟨_, _, rfl⟩
theorem lnA_35 : lnA 35 = 5 := rfl
theorem aln_36 : aln 0 36 = 5 := rfl
theorem isA_36 : isA 36 = True := eq_true ⟨_, _, rfl⟩
theorem lnA_36 : lnA 36 = 5 := rfl
theorem aln_37 : aln 0 37 = 6 := rfl
theorem isA_37 : isA 37 = True := eq_true ⟨_, _, rfl⟩
theorem lnA_37 : lnA 37 = 6 := rfl
theorem aln_38 : aln 0 38 = 4 := rfl
theorem isA_38 : isA 38 = True := eq_true ⟨_, _, rfl⟩
theorem lnA_38 : lnA 38 = 4 := rfl
theorem aln_39 : aln 0 39 = 5 := rfl
theorem isA_39 : isA 39 = True := eq_true ⟨_, _, rfl⟩
theorem lnA_39 : lnA 39 = 5 := rfl
theorem aln_40 : aln 0 40 = 5 := rfl
theorem isA_40 : isA 40 = True := eq_true ⟨_, _, rfl⟩
theorem lnA_40 : lnA 40 = 5 := rfl
theorem aln_41 : aln 0 41 = 5 := rfl
theorem isA_41 : isA 41 = True := eq_true ⟨_, _, rfl⟩
theorem lnA_41 : lnA 41 = 5 := rfl
theorem isO_42 : isO 4 42 = True := eq_true ⟨_, rfl⟩
theorem fr_42_0 : fr 42 0 = 28 := rfl
theorem fr_42_1 : fr 42 1 = 43 := rfl
theorem aln_43 : aln 0 43 = 4 := rfl
theorem isA_43 : isA 43 = True := eq_true ⟨_, _, rfl⟩
theorem lnA_43 : lnA 43 = 4 := rfl
theorem isO_44 : isO 8 44 = True := eq_true ⟨_, rfl⟩
theorem fr_44_0 : fr 44 0 = 1 := rfl
theorem isO_45 : isO 2 45 = True := eq_true ⟨_, rfl⟩
theorem fr_45_0 : fr 45 0 = 2 := rfl
theorem fr_45_1 : fr 45 1 = 16 := rfl
theorem fr_45_2 : fr 45 2 = 18 := rfl
theorem fr_45_3 : fr 45 3 = 20 := rfl
theorem fr_45_4 : fr 45 4 = 46 := rfl
theorem fr_45_5 : fr 45 5 = 51 := rfl
theorem fr_45_6 : fr 45 6 = 52 := rfl
theorem aln_46 : aln 3 46 = 4 := rfl
theorem isA_46 : isA 46 = True := eq_true ⟨_, _, rfl⟩
theorem lnA_46 : lnA 46 = 4 := rfl
theorem aln_47 : aln 0 47 = 32 := rfl
theorem isA_47 : isA 47 = True := eq_true ⟨_, _, rfl⟩
theorem lnA_47 : lnA 47 = 32 := rfl
theorem aln_48 : aln 0 48 = 32 := rfl
theorem isA_48 : isA 48 = True := eq_true ⟨_, _, rfl⟩
theorem lnA_48 : lnA 48 = 32 := rfl
theorem aln_49 : aln 0 49 = 32 := rfl
theorem isA_49 : isA 49 = True := eq_true ⟨_, _, rfl⟩
theorem lnA_49 : lnA 49 = 32 := rfl
theorem aln_50 : aln 0 50 = 32 := rfl
theorem isA_50 : isA 50 = True := eq_true ⟨_, _, rfl⟩
theorem lnA_50 : lnA 50 = 32 := rfl
theorem aln_51 : aln 0 51 = 5 := rfl
theorem isA_51 : isA 51 = True := eq_true ⟨_, _, rfl⟩
theorem lnA_51 : lnA 51 = 5 := rfl
theorem aln_52 : aln 0 52 = 5 := rfl
theorem isA_52 : isA 52 = True := eq_true ⟨_, _, rfl⟩
theorem lnA_52 : lnA 52 = 5 := rfl
theorem isO_53 : isO 0 53 = True := eq_true ⟨_, rfl⟩
theorem fr_53_0 : fr 53 0 = 16 := rfl
theorem fr_53_1 : fr 53 1 = 18 := rfl
theorem fr_53_2 : fr 53 2 = 54 := rfl
theorem aln_54 : aln 0 54 = 16 := rfl
theorem isA_54 : isA 54 = True := eq_true ⟨_, _, rfl⟩
theorem lnA_54 : lnA 54 = 16 := rfl
theorem isO_55 : isO 5 55 = True := eq_true ⟨_, rfl⟩
theorem fr_55_0 : fr 55 0 = 2 := rfl
theorem fr_55_1 : fr 55 1 = 16 := rfl
theorem fr_55_2 : fr 55 2 = 18 := rfl
theorem fr_55_3 : fr 55 3 = 20 := rfl
theorem isO_56 : isO 1 56 = True := eq_true ⟨_, rfl⟩
theorem fr_56_0 : fr 56 0 = 16 := rfl
theorem fr_56_1 : fr 56 1 = 57 := rfl
theorem fr_56_2 : fr 56 2 = 58 := rfl
theorem aln_57 : aln 2 57 = 16 := rfl
theorem isA_57 : isA 57 = True := eq_true ⟨_, _, rfl⟩
theorem lnA_57 : lnA 57 = 16 := rfl
theorem aln_58 : aln 2 58 = 3 := rfl
theorem isA_58 : isA 58 = True := eq_true ⟨_, _, rfl⟩
theorem lnA_58 : lnA 58 = 3 := rfl
theorem isO_59 : isO 11 59 = True := eq_true ⟨_, rfl⟩
theorem fr_59_1 : fr 59 1 = 60 := rfl
theorem fr_59_12 : fr 59 12 = 61 := rfl
theorem fr_59_15 : fr 59 15 = 62 := rfl
theorem fr_59_16 : fr 59 16 = 63 := rfl
theorem fr_59_17 : fr 59 17 = 64 := rfl
theorem fr_59_18 : fr 59 18 = 65 := rfl
theorem fr_59_19 : fr 59 19 = 66 := rfl
theorem fr_59_23 : fr 59 23 = 67 := rfl
theorem fr_59_24 : fr 59 24 = 68 := rfl
theorem fr_59_26 : fr 59 26 = 69 := rfl
theorem fr_59_27 : fr 59 27 = 70 := rfl
theorem fr_59_32 : fr 59 32 = 71 := rfl
theorem fr_59_40 : fr 59 40 = 72 := rfl
theorem aln_60 : aln 0 60 = 900 := rfl
theorem isA_60 : isA 60 = True := eq_true ⟨_, _, rfl⟩
theorem lnA_60 : lnA 60 = 900 := rfl
theorem aln_61 : aln 0 61 = 8 := rfl
theorem isA_61 : isA 61 = True := eq_true ⟨_, _, rfl⟩
theorem lnA_61 : lnA 61 = 8 := rfl
theorem aln_62 : aln 0 62 = 191 := rfl
theorem isA_62 : isA 62 = True := eq_true ⟨_, _, rfl⟩
theorem lnA_62 : lnA 62 = 191 := rfl
theorem aln_63 : aln 0 63 = 191 := rfl
theorem isA_63 : isA 63 = True := eq_true ⟨_, _, rfl⟩
theorem lnA_63 : lnA 63 = 191 := rfl
theorem aln_64 : aln 0 64 = 8 := rfl
theorem isA_64 : isA 64 = True := eq_true ⟨_, _, rfl⟩
theorem lnA_64 : lnA 64 = 8 := rfl
theorem aln_65 : aln 0 65 = 128 := rfl
theorem isA_65 : isA 65 = True := eq_true ⟨_, _, rfl⟩
theorem lnA_65 : lnA 65 = 128 := rfl
theorem aln_66 : aln 0 66 = 24 := rfl
theorem isA_66 : isA 66 = True := eq_true ⟨_, _, rfl⟩
theorem lnA_66 : lnA 66 = 24 := rfl
theorem aln_67 : aln 0 67 = 4 := rfl
theorem isA_67 : isA 67 = True := eq_true ⟨_, _, rfl⟩
theorem lnA_67 : lnA 67 = 4 := rfl
theorem aln_68 : aln 0 68 = 4 := rfl
theorem isA_68 : isA 68 = True := eq_true ⟨_, _, rfl⟩
theorem lnA_68 : lnA 68 = 4 := rfl
theorem aln_69 : aln 0 69 = 8 := rfl
theorem isA_69 : isA 69 = True := eq_true ⟨_, _, rfl⟩
theorem lnA_69 : lnA 69 = 8 := rfl
theorem aln_70 : aln 0 70 = 5 := rfl
theorem isA_70 : isA 70 = True := eq_true ⟨_, _, rfl⟩
theorem lnA_70 : lnA 70 = 5 := rfl
theorem aln_71 : aln 0 71 = 4 := rfl
theorem isA_71 : isA 71 = True := eq_true ⟨_, _, rfl⟩
theorem lnA_71 : lnA 71 = 4 := rfl
theorem aln_72 : aln 0 72 = 4 := rfl
theorem isA_72 : isA 72 = True := eq_true ⟨_, _, rfl⟩
theorem lnA_72 : lnA 72 = 4 := rfl
theorem aln_73 : aln 2 73 = 1 := rfl
theorem isA_73 : isA 73 = True := eq_true ⟨_, _, rfl⟩
theorem lnA_73 : lnA 73 = 1 := rfl
theorem tn_0 : Int32.toNatClampNeg 0 = 0 := rfl
theorem tn_1 : Int32.toNatClampNeg 1 = 1 := rfl
theorem tn_2 : Int32.toNatClampNeg 2 = 2 := rfl
theorem tn_3 : Int32.toNatClampNeg 3 = 3 := rfl
theorem tn_4 : Int32.toNatClampNeg 4 = 4 := rfl
theorem tn_5 : Int32.toNatClampNeg 5 = 5 := rfl
theorem tn_6 : Int32.toNatClampNeg 6 = 6 := rfl
theorem tn_7 : Int32.toNatClampNeg 7 = 7 := rfl
theorem tn_8 : Int32.toNatClampNeg 8 = 8 := rfl
theorem tn_9 : Int32.toNatClampNeg 9 = 9 := rfl
theorem tn_10 : Int32.toNatClampNeg 10 = 10 := rfl
theorem tn_11 : Int32.toNatClampNeg 11 = 11 := rfl
theorem tn_12 : Int32.toNatClampNeg 12 = 12 := rfl
theorem tn_13 : Int32.toNatClampNeg 13 = 13 := rfl
theorem tn_14 : Int32.toNatClampNeg 14 = 14 := rfl
theorem tn_15 : Int32.toNatClampNeg 15 = 15 := rfl
theorem tn_16 : Int32.toNatClampNeg 16 = 16 := rfl
theorem tn_17 : Int32.toNatClampNeg 17 = 17 := rfl
theorem tn_18 : Int32.toNatClampNeg 18 = 18 := rfl
theorem tn_19 : Int32.toNatClampNeg 19 = 19 := rfl
theorem tn_20 : Int32.toNatClampNeg 20 = 20 := rfl
theorem tn_21 : Int32.toNatClampNeg 21 = 21 := rfl
theorem tn_23 : Int32.toNatClampNeg 23 = 23 := rfl
theorem tn_24 : Int32.toNatClampNeg 24 = 24 := rfl
theorem tn_25 : Int32.toNatClampNeg 25 = 25 := rfl
theorem tn_32 : Int32.toNatClampNeg 32 = 32 := rfl
theorem tn_35 : Int32.toNatClampNeg 35 = 35 := rfl
theorem tn_55 : Int32.toNatClampNeg 55 = 55 := rfl
theorem tn_59 : Int32.toNatClampNeg 59 = 59 := rfl
theorem tn_60 : Int32.toNatClampNeg 60 = 60 := rfl
theorem tn_74 : Int32.toNatClampNeg 74 = 74 := rfl
theorem tn_87 : Int32.toNatClampNeg 87 = 87 := rfl
theorem tn_99 : Int32.toNatClampNeg 99 = 99 := rfl
theorem tn_100 : Int32.toNatClampNeg 100 = 100 := rfl
theorem tn_128 : Int32.toNatClampNeg 128 = 128 := rfl
theorem tn_191 : Int32.toNatClampNeg 191 = 191 := rfl
theorem tn_900 : Int32.toNatClampNeg 900 = 900 := rfl
theorem vin_0_1 : vp_in 0 1 = True := eq_true (by unfold vp_in; decide)
theorem vin_0_3 : vp_in 0 3 = True := eq_true (by unfold vp_in; decide)
theorem vin_1_3 : vp_in 1 3 = True := eq_true (by unfold vp_in; decide)
theorem vin_2_3 : vp_in 2 3 = True := eq_true (by unfold vp_in; decide)
theorem vin_0_4 : vp_in 0 4 = True := eq_true (by unfold vp_in; decide)
theorem vin_1_4 : vp_in 1 4 = True := eq_true (by unfold vp_in; decide)
theorem vin_2_4 : vp_in 2 4 = True := eq_true (by unfold vp_in; decide)
theorem vin_3_4 : vp_in 3 4 = True := eq_true (by unfold vp_in; decide)
theorem vin_0_5 : vp_in 0 5 = True := eq_true (by unfold vp_in; decide)
theorem vin_1_5 : vp_in 1 5 = True := eq_true (by unfold vp_in; decide)
theorem vin_2_5 : vp_in 2 5 = True := eq_true (by unfold vp_in; decide)
theorem vin_3_5 : vp_in 3 5 = True := eq_true (by unfold vp_in; decide)
theorem vin_4_5 : vp_in 4 5 = True := eq_true (by unfold vp_in; decide)
theorem vin_0_6 : vp_in 0 6 = True := eq_true (by unfold vp_in; decide)
theorem vin_1_6 : vp_in 1 6 = True := eq_true (by unfold vp_in; decide)
theorem vin_2_6 : vp_in 2 6 = True := eq_true (by unfold vp_in; decide)
theorem vin_3_6 : vp_in 3 6 = True := eq_true (by unfold vp_in; decide)
theorem vin_4_6 : vp_in 4 6 = True := eq_true (by unfold vp_in; decide)
theorem vin_5_6 : vp_in 5 6 = True := eq_true (by unfold vp_in; decide)
theorem vin_0_8 : vp_in 0 8 = True := eq_true (by unfold vp_in; decide)
theorem vin_1_8 : vp_in 1 8 = True := eq_true (by unfold vp_in; decide)
theorem vin_2_8 : vp_in 2 8 = True := eq_true (by unfold vp_in; decide)
theorem vin_3_8 : vp_in 3 8 = True := eq_true (by unfold vp_in; decide)
theorem vin_4_8 : vp_in 4 8 = True := eq_true (by unfold vp_in; decide)
theorem vin_5_8 : vp_in 5 8 = True := eq_true (by unfold vp_in; decide)
theorem vin_6_8 : vp_in 6 8 = True := eq_true (by unfold vp_in; decide)
theorem vin_7_8 : vp_in 7 8 = True := eq_true (by unfold vp_in; decide)
theorem vin_0_11 : vp_in 0 11 = True := eq_true (by unfold vp_in; decide)
theorem vin_1_11 : vp_in 1 11 = True := eq_true (by unfold vp_in; decide)
theorem vin_2_11 : vp_in 2 11 = True := eq_true (by unfold vp_in; decide)
theorem vin_3_11 : vp_in 3 11 = True := eq_true (by unfold vp_in; decide)
theorem vin_4_11 : vp_in 4 11 = True := eq_true (by unfold vp_in; decide)
theorem vin_5_11 : vp_in 5 11 = True := eq_true (by unfold vp_in; decide)
theorem vin_6_11 : vp_in 6 11 = True := eq_true (by unfold vp_in; decide)
theorem vin_7_11 : vp_in 7 11 = True := eq_true (by unfold vp_in; decide)
theorem vin_8_11 : vp_in 8 11 = True := eq_true (by unfold vp_in; decide)
theorem vin_9_11 : vp_in 9 11 = True := eq_true (by unfold vp_in; decide)
theorem vin_10_11 : vp_in 10 11 = True := eq_true (by unfold vp_in; decide)
theorem vin_0_13 : vp_in 0 13 = True := eq_true (by unfold vp_in; decide)
theorem vin_1_13 : vp_in 1 13 = True := eq_true (by unfold vp_in; decide)
theorem vin_2_13 : vp_in 2 13 = True := eq_true (by unfold vp_in; decide)
theorem vin_3_13 : vp_in 3 13 = True := eq_true (by unfold vp_in; decide)
theorem vin_4_13 : vp_in 4 13 = True := eq_true (by unfold vp_in; decide)
theorem vin_5_13 : vp_in 5 13 = True := eq_true (by unfold vp_in; decide)
theorem vin_6_13 : vp_in 6 13 = True := eq_true (by unfold vp_in; decide)
theorem vin_7_13 : vp_in 7 13 = True := eq_true (by unfold vp_in; decide)
theorem vin_8_13 : vp_in 8 13 = True := eq_true (by unfold vp_in; decide)
theorem vin_9_13 : vp_in 9 13 = True := eq_true (by unfold vp_in; decide)
theorem vin_10_13 : vp_in 10 13 = True := eq_true (by unfold vp_in; decide)
theorem vin_11_13 : vp_in 11 13 = True := eq_true (by unfold vp_in; decide)
theorem vin_12_13 : vp_in 12 13 = True := eq_true (by unfold vp_in; decide)
theorem vin_0_16 : vp_in 0 16 = True := eq_true (by unfold vp_in; decide)
theorem vin_1_16 : vp_in 1 16 = True := eq_true (by unfold vp_in; decide)
theorem vin_2_16 : vp_in 2 16 = True := eq_true (by unfold vp_in; decide)
theorem vin_3_16 : vp_in 3 16 = True := eq_true (by unfold vp_in; decide)
theorem vin_4_16 : vp_in 4 16 = True := eq_true (by unfold vp_in; decide)
theorem vin_5_16 : vp_in 5 16 = True := eq_true (by unfold vp_in; decide)
theorem vin_6_16 : vp_in 6 16 = True := eq_true (by unfold vp_in; decide)
theorem vin_7_16 : vp_in 7 16 = True := eq_true (by unfold vp_in; decide)
theorem vin_8_16 : vp_in 8 16 = True := eq_true (by unfold vp_in; decide)
theorem vin_9_16 : vp_in 9 16 = True := eq_true (by unfold vp_in; decide)
theorem vin_10_16 : vp_in 10 16 = True := eq_true (by unfold vp_in; decide)
theorem vin_11_16 : vp_in 11 16 = True := eq_true (by unfold vp_in; decide)
theorem vin_12_16 : vp_in 12 16 = True := eq_true (by unfold vp_in; decide)
theorem vin_13_16 : vp_in 13 16 = True := eq_true (by unfold vp_in; decide)
theorem vin_0_24 : vp_in 0 24 = True := eq_true (by unfold vp_in; decide)
theorem vin_1_24 : vp_in 1 24 = True := eq_true (by unfold vp_in; decide)
theorem vin_2_24 : vp_in 2 24 = True := eq_true (by unfold vp_in; decide)
theorem vin_3_24 : vp_in 3 24 = True := eq_true (by unfold vp_in; decide)
theorem vin_4_24 : vp_in 4 24 = True := eq_true (by unfold vp_in; decide)
theorem vin_5_24 : vp_in 5 24 = True := eq_true (by unfold vp_in; decide)
theorem vin_6_24 : vp_in 6 24 = True := eq_true (by unfold vp_in; decide)
theorem vin_7_24 : vp_in 7 24 = True := eq_true (by unfold vp_in; decide)
theorem vin_8_24 : vp_in 8 24 = True := eq_true (by unfold vp_in; decide)
theorem vin_9_24 : vp_in 9 24 = True := eq_true (by unfold vp_in; decide)
theorem vin_10_24 : vp_in 10 24 = True := eq_true (by unfold vp_in; decide)
theorem vin_11_24 : vp_in 11 24 = True := eq_true (by unfold vp_in; decide)
theorem vin_12_24 : vp_in 12 24 = True := eq_true (by unfold vp_in; decide)
theorem vin_13_24 : vp_in 13 24 = True := eq_true (by unfold vp_in; decide)
theorem vin_0_32 : vp_in 0 32 = True := eq_true (by unfold vp_in; decide)
theorem vin_1_32 : vp_in 1 32 = True := eq_true (by unfold vp_in; decide)
theorem vin_2_32 : vp_in 2 32 = True := eq_true (by unfold vp_in; decide)
theorem vin_3_32 : vp_in 3 32 = True := eq_true (by unfold vp_in; decide)
theorem vin_4_32 : vp_in 4 32 = True := eq_true (by unfold vp_in; decide)
theorem vin_5_32 : vp_in 5 32 = True := eq_true (by unfold vp_in; decide)
theorem vin_6_32 : vp_in 6 32 = True := eq_true (by unfold vp_in; decide)
theorem vin_7_32 : vp_in 7 32 = True := eq_true (by unfold vp_in; decide)
theorem vin_8_32 : vp_in 8 32 = True := eq_true (by unfold vp_in; decide)
theorem vin_9_32 : vp_in 9 32 = True := eq_true (by unfold vp_in; decide)
theorem vin_10_32 : vp_in 10 32 = True := eq_true (by unfold vp_in; decide)
theorem vin_11_32 : vp_in 11 32 = True := eq_true (by unfold vp_in; decide)
theorem vin_12_32 : vp_in 12 32 = True := eq_true (by unfold vp_in; decide)
theorem vin_13_32 : vp_in 13 32 = True := eq_true (by unfold vp_in; decide)
theorem vin_0_128 : vp_in 0 128 = True := eq_true (by unfold vp_in; decide)
theorem vin_1_128 : vp_in 1 128 = True := eq_true (by unfold vp_in; decide)
theorem vin_2_128 : vp_in 2 128 = True := eq_true (by unfold vp_in; decide)
theorem vin_3_128 : vp_in 3 128 = True := eq_true (by unfold vp_in; decide)
theorem vin_4_128 : vp_in 4 128 = True := eq_true (by unfold vp_in; decide)
theorem vin_5_128 : vp_in 5 128 = True := eq_true (by unfold vp_in; decide)
theorem vin_6_128 : vp_in 6 128 = True := eq_true (by unfold vp_in; decide)
theorem vin_7_128 : vp_in 7 128 = True := eq_true (by unfold vp_in; decide)
theorem vin_8_128 : vp_in 8 128 = True := eq_true (by unfold vp_in; decide)
theorem vin_9_128 : vp_in 9 128 = True := eq_true (by unfold vp_in; decide)
theorem vin_10_128 : vp_in 10 128 = True := eq_true (by unfold vp_in; decide)
theorem vin_11_128 : vp_in 11 128 = True := eq_true (by unfold vp_in; decide)
theorem vin_12_128 : vp_in 12 128 = True := eq_true (by unfold vp_in; decide)
theorem vin_13_128 : vp_in 13 128 = True := eq_true (by unfold vp_in; decide)
theorem vin_0_191 : vp_in 0 191 = True := eq_true (by unfold vp_in; decide)
theorem vin_1_191 : vp_in 1 191 = True := eq_true (by unfold vp_in; decide)
theorem vin_2_191 : vp_in 2 191 = True := eq_true (by unfold vp_in; decide)
theorem vin_3_191 : vp_in 3 191 = True := eq_true (by unfold vp_in; decide)
theorem vin_4_191 : vp_in 4 191 = True := eq_true (by unfold vp_in; decide)
theorem vin_5_191 : vp_in 5 191 = True := eq_true (by unfold vp_in; decide)
theorem vin_6_191 : vp_in 6 191 = True := eq_true (by unfold vp_in; decide)
theorem vin_7_191 : vp_in 7 191 = True := eq_true (by unfold vp_in; decide)
theorem vin_8_191 : vp_in 8 191 = True := eq_true (by unfold vp_in; decide)
theorem vin_9_191 : vp_in 9 191 = True := eq_true (by unfold vp_in; decide)
theorem vin_10_191 : vp_in 10 191 = True := eq_true (by unfold vp_in; decide)
theorem vin_11_191 : vp_in 11 191 = True := eq_true (by unfold vp_in; decide)
theorem vin_12_191 : vp_in 12 191 = True := eq_true (by unfold vp_in; decide)
theorem vin_13_191 : vp_in 13 191 = True := eq_true (by unfold vp_in; decide)
theorem vin_14_191 : vp_in 14 191 = True := eq_true (by unfold vp_in; decide)
theorem vin_15_191 : vp_in 15 191 = True := eq_true (by unfold vp_in; decide)
theorem vin_16_191 : vp_in 16 191 = True := eq_true (by unfold vp_in; decide)
theorem vin_17_191 : vp_in 17 191 = True := eq_true (by unfold vp_in; decide)
theorem vin_18_191 : vp_in 18 191 = True := eq_true (by unfold vp_in; decide)
theorem vin_19_191 : vp_in 19 191 = True := eq_true (by unfold vp_in; decide)
theorem vin_20_191 : vp_in 20 191 = True := eq_true (by unfold vp_in; decide)
theorem vin_21_191 : vp_in 21 191 = True := eq_true (by unfold vp_in; decide)
theorem vin_23_191 : vp_in 23 191 = True := eq_true (by unfold vp_in; decide)
theorem vin_24_191 : vp_in 24 191 = True := eq_true (by unfold vp_in; decide)
theorem vin_25_191 : vp_in 25 191 = True := eq_true (by unfold vp_in; decide)
theorem vin_32_191 : vp_in 32 191 = True := eq_true (by unfold vp_in; decide)
theorem vin_35_191 : vp_in 35 191 = True := eq_true (by unfold vp_in; decide)
theorem vin_55_191 : vp_in 55 191 = True := eq_true (by unfold vp_in; decide)
theorem vin_59_191 : vp_in 59 191 = True := eq_true (by unfold vp_in; decide)
theorem vin_60_191 : vp_in 60 191 = True := eq_true (by unfold vp_in; decide)
theorem vin_74_191 : vp_in 74 191 = True := eq_true (by unfold vp_in; decide)
theorem vin_87_191 : vp_in 87 191 = True := eq_true (by unfold vp_in; decide)
theorem vin_99_191 : vp_in 99 191 = True := eq_true (by unfold vp_in; decide)
theorem vin_100_191 : vp_in 100 191 = True := eq_true (by unfold vp_in; decide)
theorem vin_128_191 : vp_in 128 191 = True := eq_true (by unfold vp_in; decide)
theorem vin_0_900 : vp_in 0 900 = True := eq_true (by unfold vp_in; decide)
theorem vin_1_900 : vp_in 1 900 = True := eq_true (by unfold vp_in; decide)
theorem vin_2_900 : vp_in 2 900 = True := eq_true (by unfold vp_in; decide)
theorem vin_3_900 : vp_in 3 900 = True := eq_true (by unfold vp_in; decide)
theorem vin_4_900 : vp_in 4 900 = True := eq_true (by unfold vp_in; decide)
theorem vin_5_900 : vp_in 5 900 = True := eq_true (by unfold vp_in; decide)
theorem vin_6_900 : vp_in 6 900 = True := eq_true (by unfold vp_in; decide)
theorem vin_7_900 : vp_in 7 900 = True := eq_true (by unfold vp_in; decide)
theorem vin_8_900 : vp_in 8 900 = True := eq_true (by unfold vp_in; decide)
theorem vin_9_900 : vp_in 9 900 = True := eq_true (by unfold vp_in; decide)
theorem vin_10_900 : vp_in 10 900 = True := eq_true (by unfold vp_in; decide)
theorem vin_11_900 : vp_in 11 900 = True := eq_true (by unfold vp_in; decide)
theorem vin_12_900 : vp_in 12 900 = True := eq_true (by unfold vp_in; decide)
theorem vin_13_900 : vp_in 13 900 = True := eq_true (by unfold vp_in; decide)
theorem nc_51 : (51 ≤ NC) = True := eq_true (by decide)
theorem ny_0 : (narrow .boolean (.int 0) = .int 0) = True := eq_true rfl
theorem ny_1 : (narrow .boolean (.int 1) = .int 1) = True := eq_true rfl
/-- the bit k of x -/
def bb (x k : Int32) : Bool := decide ((x >>> (k &&& 31)) &&& 1 = 1)
theorem bbP {x k : Int32} : ((x >>> (k &&& 31)) &&& 1 = 1) = (bb x k = true) := by simp [bb]
theorem mrg {c : Prop} [Decidable c] {B : Kn} {ls st : List Value} {w : Mem} {x y : Int32} : (if c then B ls (.int x :: st) w else B ls (.int y :: st) w) = B ls (.int (if c then x else y) :: st) w := by split <;> rfl
def bI (c : Prop) [Decidable c] : Int32 := if c then 1 else 0
theorem bI_def {c : Prop} [Decidable c] : (if c then (1 : Int32) else 0) = bI c := rfl
theorem bI_flip {c : Prop} [Decidable c] : (if c then (0 : Int32) else 1) = bI (¬ c) := by unfold bI; by_cases h : c <;> simp [h]
theorem bI_ny {c : Prop} [Decidable c] : (narrow .boolean (.int (bI c)) = .int (bI c)) = True := by unfold bI; split <;> exact eq_true rfl
theorem bI_0 {c : Prop} [Decidable c] : (bI c = 0) = ¬ c := by unfold bI; by_cases h : c <;> simp [h]
theorem bI_1 {c : Prop} [Decidable c] : (bI c = 1) = c := by unfold bI; by_cases h : c <;> simp [h]
theorem bI_01 {c : Prop} [Decidable c] : (bI c = 0 ∨ bI c = 1) = True := by unfold bI; by_cases h : c <;> simp [h]
theorem tnc {j : Nat} (h : j < 2 ^ 31) : (nI j).toNatClampNeg = j := nI_clamp h
theorem vic {j n : Nat} (h : j < n) (hn : n < 2 ^ 31) : vp_in (nI j) n = True := eq_true (vp_in_nI h hn)
theorem ltn {a b : Nat} (ha : a < 2 ^ 31) (hb : b < 2 ^ 31) : (nI a < nI b) = (a < b) := propext (nI_ltI ha hb)
theorem eqn {a b : Nat} (ha : a < 2 ^ 31) (hb : b < 2 ^ 31) : (nI a = nI b) = (a = b) := propext (nI_eq ha hb)
theorem ng {a : Nat} (h : a < 2 ^ 31) : (nI a < 0) = False := eq_false (nI_pos h)
theorem nadd {a b : Nat} : nI a + nI b = nI (a + b) := nI_add a b
theorem nmul {a b : Nat} : nI a * nI b = nI (a * b) := pk_mul a b
theorem na_1 {a : Nat} : nI a + 1 = nI (a + 1) := nI_add a 1
theorem na_2 {a : Nat} : nI a + 2 = nI (a + 2) := nI_add a 2
theorem na_3 {a : Nat} : nI a + 3 = nI (a + 3) := nI_add a 3
theorem na_4 {a : Nat} : nI a + 4 = nI (a + 4) := nI_add a 4
theorem na_8 {a : Nat} : nI a + 8 = nI (a + 8) := nI_add a 8
theorem na_20 {a : Nat} : nI a + 20 = nI (a + 20) := nI_add a 20
theorem nb_11 {a : Nat} : 11 + nI a = nI (11 + a) := nI_add 11 a
theorem nb_19 {a : Nat} : 19 + nI a = nI (19 + a) := nI_add 19 a
theorem nb_35 {a : Nat} : 35 + nI a = nI (35 + a) := nI_add 35 a
theorem nb_55 {a : Nat} : 55 + nI a = nI (55 + a) := nI_add 55 a
theorem nb_59 {a : Nat} : 59 + nI a = nI (59 + a) := nI_add 59 a
theorem nb_74 {a : Nat} : 74 + nI a = nI (74 + a) := nI_add 74 a
theorem nb_87 {a : Nat} : 87 + nI a = nI (87 + a) := nI_add 87 a
theorem nb_4 {a : Nat} : 4 + nI a = nI (4 + a) := nI_add 4 a
theorem nb_8 {a : Nat} : 8 + nI a = nI (8 + a) := nI_add 8 a
theorem nm_2 {a : Nat} : 2 * nI a = nI (2 * a) := pk_mul 2 a
theorem nm_3 {a : Nat} : 3 * nI a = nI (3 * a) := pk_mul 3 a
theorem nm_4 {a : Nat} : 4 * nI a = nI (4 * a) := pk_mul 4 a
theorem nm_8 {a : Nat} : 8 * nI a = nI (8 * a) := pk_mul 8 a
theorem nm_10 {a : Nat} : 10 * nI a = nI (10 * a) := pk_mul 10 a
theorem nm_75 {a : Nat} : 75 * nI a = nI (75 * a) := pk_mul 75 a
theorem nl_0 {a : Nat} (h : a < 2 ^ 31) : (nI a < 0) = (a < 0) := propext (nI_ltI (b := 0) h (by decide))
theorem ne_0 {a : Nat} (h : a < 2 ^ 31) : (nI a = 0) = (a = 0) := propext (nI_eq (b := 0) h (by decide))
theorem ngt_0 {a : Nat} (h : a < 2 ^ 31) : (0 < nI a) = (0 < a) := propext (nI_ltI (a := 0) (by decide) h)
theorem nl_1 {a : Nat} (h : a < 2 ^ 31) : (nI a < 1) = (a < 1) := propext (nI_ltI (b := 1) h (by decide))
theorem ne_1 {a : Nat} (h : a < 2 ^ 31) : (nI a = 1) = (a = 1) := propext (nI_eq (b := 1) h (by decide))
theorem ngt_1 {a : Nat} (h : a < 2 ^ 31) : (1 < nI a) = (1 < a) := propext (nI_ltI (a := 1) (by decide) h)
theorem nl_2 {a : Nat} (h : a < 2 ^ 31) : (nI a < 2) = (a < 2) := propext (nI_ltI (b := 2) h (by decide))
theorem ne_2 {a : Nat} (h : a < 2 ^ 31) : (nI a = 2) = (a = 2) := propext (nI_eq (b := 2) h (by decide))
theorem ngt_2 {a : Nat} (h : a < 2 ^ 31) : (2 < nI a) = (2 < a) := propext (nI_ltI (a := 2) (by decide) h)
theorem nl_3 {a : Nat} (h : a < 2 ^ 31) : (nI a < 3) = (a < 3) := propext (nI_ltI (b := 3) h (by decide))
theorem ne_3 {a : Nat} (h : a < 2 ^ 31) : (nI a = 3) = (a = 3) := propext (nI_eq (b := 3) h (by decide))
theorem ngt_3 {a : Nat} (h : a < 2 ^ 31) : (3 < nI a) = (3 < a) := propext (nI_ltI (a := 3) (by decide) h)
theorem nl_4 {a : Nat} (h : a < 2 ^ 31) : (nI a < 4) = (a < 4) := propext (nI_ltI (b := 4) h (by decide))
theorem ne_4 {a : Nat} (h : a < 2 ^ 31) : (nI a = 4) = (a = 4) := propext (nI_eq (b := 4) h (by decide))
theorem ngt_4 {a : Nat} (h : a < 2 ^ 31) : (4 < nI a) = (4 < a) := propext (nI_ltI (a := 4) (by decide) h)
theorem nl_5 {a : Nat} (h : a < 2 ^ 31) : (nI a < 5) = (a < 5) := propext (nI_ltI (b := 5) h (by decide))
theorem ne_5 {a : Nat} (h : a < 2 ^ 31) : (nI a = 5) = (a = 5) := propext (nI_eq (b := 5) h (by decide))
theorem ngt_5 {a : Nat} (h : a < 2 ^ 31) : (5 < nI a) = (5 < a) := propext (nI_ltI (a := 5) (by decide) h)
theorem nl_8 {a : Nat} (h : a < 2 ^ 31) : (nI a < 8) = (a < 8) := propext (nI_ltI (b := 8) h (by decide))
theorem ne_8 {a : Nat} (h : a < 2 ^ 31) : (nI a = 8) = (a = 8) := propext (nI_eq (b := 8) h (by decide))
theorem ngt_8 {a : Nat} (h : a < 2 ^ 31) : (8 < nI a) = (8 < a) := propext (nI_ltI (a := 8) (by decide) h)
theorem nl_13 {a : Nat} (h : a < 2 ^ 31) : (nI a < 13) = (a < 13) := propext (nI_ltI (b := 13) h (by decide))
theorem ne_13 {a : Nat} (h : a < 2 ^ 31) : (nI a = 13) = (a = 13) := propext (nI_eq (b := 13) h (by decide))
theorem ngt_13 {a : Nat} (h : a < 2 ^ 31) : (13 < nI a) = (13 < a) := propext (nI_ltI (a := 13) (by decide) h)
theorem nl_16 {a : Nat} (h : a < 2 ^ 31) : (nI a < 16) = (a < 16) := propext (nI_ltI (b := 16) h (by decide))
theorem ne_16 {a : Nat} (h : a < 2 ^ 31) : (nI a = 16) = (a = 16) := propext (nI_eq (b := 16) h (by decide))
theorem ngt_16 {a : Nat} (h : a < 2 ^ 31) : (16 < nI a) = (16 < a) := propext (nI_ltI (a := 16) (by decide) h)
theorem nl_20 {a : Nat} (h : a < 2 ^ 31) : (nI a < 20) = (a < 20) := propext (nI_ltI (b := 20) h (by decide))
theorem ne_20 {a : Nat} (h : a < 2 ^ 31) : (nI a = 20) = (a = 20) := propext (nI_eq (b := 20) h (by decide))
theorem ngt_20 {a : Nat} (h : a < 2 ^ 31) : (20 < nI a) = (20 < a) := propext (nI_ltI (a := 20) (by decide) h)
set_option maxRecDepth 100000 in
def EQA := And.intro @e_iconst <| And.intro @e_lconst <| And.intro @e_ldcS <| And.intro @e_iload0 <| And.intro @e_lload0 <| And.intro @e_aload0 <| And.intro @e_istore0 <| And.intro @e_lstore0 <| And.intro @e_iinc0 <| And.intro @e_iload1 <| And.intro @e_lload1 <| And.intro @e_aload1 <| And.intro @e_istore1i <| And.intro @e_lstore1i <| And.intro @e_iinc1i <| And.intro @e_istore1r <| And.intro @e_lstore1r <| And.intro @e_iinc1r <| And.intro @e_istore1n <| And.intro @e_lstore1n <| And.intro @e_iinc1n <| And.intro @e_iload2 <| And.intro @e_lload2 <| And.intro @e_aload2 <| And.intro @e_istore2i <| And.intro @e_lstore2i <| And.intro @e_iinc2i <| And.intro @e_istore2r <| And.intro @e_lstore2r <| And.intro @e_iinc2r <| And.intro @e_istore2n <| And.intro @e_lstore2n <| And.intro @e_iinc2n <| And.intro @e_iload3 <| And.intro @e_lload3 <| And.intro @e_aload3 <| And.intro @e_istore3i <| And.intro @e_lstore3i <| And.intro @e_iinc3i <| And.intro @e_istore3r <| And.intro @e_lstore3r <| And.intro @e_iinc3r <| And.intro @e_istore3n <| And.intro @e_lstore3n <| And.intro @e_iinc3n <| And.intro @e_iload4 <| And.intro @e_lload4 <| And.intro @e_aload4 <| And.intro @e_istore4i <| And.intro @e_lstore4i <| And.intro @e_iinc4i <| And.intro @e_istore4r <| And.intro @e_lstore4r <| And.intro @e_iinc4r <| And.intro @e_istore4n <| And.intro @e_lstore4n <| And.intro @e_iinc4n <| And.intro @e_iload5 <| And.intro @e_lload5 <| And.intro @e_aload5 <| And.intro @e_istore5i <| And.intro @e_lstore5i <| And.intro @e_iinc5i <| And.intro @e_istore5r <| And.intro @e_lstore5r <| And.intro @e_iinc5r <| And.intro @e_istore5n <| And.intro @e_lstore5n <| And.intro @e_iinc5n <| And.intro @e_iload6 <| And.intro @e_lload6 <| And.intro @e_aload6 <| And.intro @e_istore6i <| And.intro @e_lstore6i <| And.intro @e_iinc6i <| And.intro @e_istore6r <| And.intro @e_lstore6r <| And.intro @e_iinc6r <| And.intro @e_istore6n <| And.intro @e_lstore6n <| And.intro @e_iinc6n <| And.intro @e_iload7 <| And.intro @e_lload7 <| And.intro @e_aload7 <| And.intro @e_istore7i <| And.intro @e_lstore7i <| And.intro @e_iinc7i <| And.intro @e_istore7r <| And.intro @e_lstore7r <| And.intro @e_iinc7r <| And.intro @e_istore7n <| And.intro @e_lstore7n <| And.intro @e_iinc7n <| And.intro @e_iload8 <| And.intro @e_lload8 <| And.intro @e_aload8 <| And.intro @e_istore8i <| And.intro @e_lstore8i <| And.intro @e_iinc8i <| And.intro @e_istore8r <| And.intro @e_lstore8r <| And.intro @e_iinc8r <| And.intro @e_istore8n <| And.intro @e_lstore8n <| And.intro @e_iinc8n <| And.intro @e_iload9 <| And.intro @e_lload9 <| And.intro @e_aload9 <| And.intro @e_istore9i <| And.intro @e_lstore9i <| And.intro @e_iinc9i <| And.intro @e_istore9r <| And.intro @e_lstore9r <| And.intro @e_iinc9r <| And.intro @e_istore9n <| And.intro @e_lstore9n <| And.intro @e_iinc9n <| And.intro @e_iload10 <| And.intro @e_lload10 <| And.intro @e_aload10 <| And.intro @e_istore10i <| And.intro @e_lstore10i <| And.intro @e_iinc10i <| And.intro @e_istore10r <| And.intro @e_lstore10r <| And.intro @e_iinc10r <| And.intro @e_istore10n <| And.intro @e_lstore10n <| And.intro @e_iinc10n <| And.intro @e_iload11 <| And.intro @e_lload11 <| And.intro @e_aload11 <| And.intro @e_istore11i <| And.intro @e_lstore11i <| And.intro @e_iinc11i <| And.intro @e_istore11r <| And.intro @e_lstore11r <| And.intro @e_iinc11r <| And.intro @e_istore11n <| And.intro @e_lstore11n <| And.intro @e_iinc11n <| And.intro @e_iload12 <| And.intro @e_lload12 <| And.intro @e_aload12 <| And.intro @e_istore12i <| And.intro @e_lstore12i <| And.intro @e_iinc12i <| And.intro @e_istore12r <| And.intro @e_lstore12r <| And.intro @e_iinc12r <| And.intro @e_istore12n <| And.intro @e_lstore12n <| And.intro @e_iinc12n <| And.intro @e_iload13 <| And.intro @e_lload13 <| And.intro @e_aload13 <| And.intro @e_istore13i <| And.intro @e_lstore13i <| And.intro @e_iinc13i <| And.intro @e_istore13r <| And.intro @e_lstore13r <| And.intro @e_iinc13r <| And.intro @e_istore13n <| And.intro @e_lstore13n <| And.intro @e_iinc13n <| And.intro @e_iadd <| And.intro @e_isub <| And.intro @e_imul <| And.intro @e_iand <| And.intro @e_ior <| And.intro @e_ixor <| And.intro @e_ishl <| And.intro @e_ishr <| And.intro @e_iushr <| And.intro @e_idiv <| And.intro @e_irem <| And.intro @e_ladd <| And.intro @e_lsub <| And.intro @e_lmul <| And.intro @e_land <| And.intro @e_lor <| And.intro @e_ldiv <| And.intro @e_lrem <| And.intro @e_lshl <| And.intro @e_lshr <| And.intro @e_lcmp <| And.intro @e_ineg <| And.intro @e_i2l <| And.intro @e_l2i <| And.intro @e_i2b <| And.intro @e_i2c <| And.intro @e_dupi <| And.intro @e_dupa <| And.intro @e_dup2 <| And.intro @e_popi <| And.intro @e_popa <| And.intro @e_ifeq <| And.intro @e_ifne <| And.intro @e_iflt <| And.intro @e_ifge <| And.intro @e_ifgt <| And.intro @e_ifle <| And.intro @e_icmpeq <| And.intro @e_icmpne <| And.intro @e_icmplt <| And.intro @e_icmpge <| And.intro @e_icmpgt <| And.intro @e_icmple <| And.intro @e_getI <| And.intro @e_getL <| And.intro @e_getR <| And.intro @e_putI <| And.intro @e_putZ <| And.intro @e_putL <| And.intro @e_iald <| And.intro @e_bald <| And.intro @e_lald <| And.intro @e_iast <| And.intro @e_bast <| And.intro @e_last <| And.intro @e_aald <| And.intro @e_alen <| And.intro @e_xald <| And.intro @e_xlen <| And.intro @e_copyI <| And.intro @e_copyL <| And.intro @e_max <| And.intro @e_min <| And.intro @e_callV0 <| And.intro @e_callT0 <| And.intro @e_callS1 <| And.intro @e_callV1 <| And.intro @e_callT1 <| And.intro @e_callS2 <| And.intro @e_callV2 <| And.intro @e_callS3 <| And.intro @e_callV3 <| And.intro @e_callS4 <| And.intro @e_callV4 <| And.intro @e_callS5 <| And.intro @e_callV5 <| And.intro @e_iret <| And.intro @e_zret <| And.intro @e_lret <| And.intro @e_vret <| And.intro @e_tsw <| And.intro @e_tsw0 <| And.intro @e_tsw1 <| And.intro @e_lsw <| And.intro @e_lsw0 <| And.intro @e_lsw1 <| And.intro @e_sval <| And.intro @e_scod <| And.intro @e_slen <| And.intro @e_sbal <| And.intro @e_gsC <| And.intro @e_gsF <| @e_stop
set_option maxRecDepth 100000 in
def CEA := And.intro @cs0 <| And.intro @cs1 <| And.intro @cs2 <| And.intro @cs3 <| And.intro @isO_0 <| And.intro @fr_0_0 <| And.intro @fr_0_2 <| And.intro @fr_0_3 <| And.intro @fr_0_4 <| And.intro @fr_0_5 <| And.intro @fr_0_6 <| And.intro @fr_0_7 <| And.intro @fr_0_8 <| And.intro @fr_0_9 <| And.intro @fr_0_10 <| And.intro @aln_1 <| And.intro @isA_1 <| And.intro @lnA_1 <| And.intro @isO_2 <| And.intro @fr_2_0 <| And.intro @fr_2_1 <| And.intro @fr_2_2 <| And.intro @fr_2_3 <| And.intro @fr_2_4 <| And.intro @fr_2_5 <| And.intro @fr_2_6 <| And.intro @fr_2_7 <| And.intro @fr_2_8 <| And.intro @fr_2_9 <| And.intro @fr_2_10 <| And.intro @fr_2_11 <| And.intro @fr_2_12 <| And.intro @aln_3 <| And.intro @isA_3 <| And.intro @lnA_3 <| And.intro @aln_4 <| And.intro @isA_4 <| And.intro @lnA_4 <| And.intro @aln_5 <| And.intro @isA_5 <| And.intro @lnA_5 <| And.intro @aln_6 <| And.intro @isA_6 <| And.intro @lnA_6 <| And.intro @aln_7 <| And.intro @isA_7 <| And.intro @lnA_7 <| And.intro @aln_8 <| And.intro @isA_8 <| And.intro @lnA_8 <| And.intro @aln_9 <| And.intro @isA_9 <| And.intro @lnA_9 <| And.intro @aln_10 <| And.intro @isA_10 <| And.intro @lnA_10 <| And.intro @aln_11 <| And.intro @isA_11 <| And.intro @lnA_11 <| And.intro @aln_12 <| And.intro @isA_12 <| And.intro @lnA_12 <| And.intro @aln_13 <| And.intro @isA_13 <| And.intro @lnA_13 <| And.intro @aln_14 <| And.intro @isA_14 <| And.intro @lnA_14 <| And.intro @aln_15 <| And.intro @isA_15 <| And.intro @lnA_15 <| And.intro @isO_16 <| And.intro @fr_16_0 <| And.intro @fr_16_1 <| And.intro @aln_17 <| And.intro @isA_17 <| And.intro @lnA_17 <| And.intro @isO_18 <| And.intro @fr_18_0 <| And.intro @fr_18_1 <| And.intro @aln_19 <| And.intro @isA_19 <| And.intro @lnA_19 <| And.intro @isO_20 <| And.intro @fr_20_0 <| And.intro @aln_21 <| And.intro @isA_21 <| And.intro @lnA_21 <| And.intro @isO_22 <| And.intro @fr_22_0 <| And.intro @fr_22_1 <| And.intro @fr_22_2 <| And.intro @fr_22_3 <| And.intro @isO_23 <| And.intro @fr_23_0 <| And.intro @fr_23_1 <| And.intro @fr_23_2 <| And.intro @fr_23_3 <| And.intro @aln_24 <| And.intro @isA_24 <| And.intro @lnA_24 <| And.intro @aln_25 <| And.intro @isA_25 <| And.intro @lnA_25 <| And.intro @aln_26 <| And.intro @isA_26 <| And.intro @lnA_26 <| And.intro @aln_27 <| And.intro @isA_27 <| And.intro @lnA_27 <| And.intro @isO_28 <| And.intro @fr_28_0 <| And.intro @fr_28_1 <| And.intro @fr_28_2 <| And.intro @fr_28_3 <| And.intro @fr_28_4 <| And.intro @fr_28_5 <| And.intro @fr_28_6 <| And.intro @fr_28_7 <| And.intro @fr_28_8 <| And.intro @fr_28_9 <| And.intro @fr_28_10 <| And.intro @fr_28_11 <| And.intro @fr_28_12 <| And.intro @aln_29 <| And.intro @isA_29 <| And.intro @lnA_29 <| And.intro @aln_30 <| And.intro @isA_30 <| And.intro @lnA_30 <| And.intro @aln_31 <| And.intro @isA_31 <| And.intro @lnA_31 <| And.intro @aln_32 <| And.intro @isA_32 <| And.intro @lnA_32 <| And.intro @aln_33 <| And.intro @isA_33 <| And.intro @lnA_33 <| And.intro @aln_34 <| And.intro @isA_34 <| And.intro @lnA_34 <| And.intro @aln_35 <| And.intro @isA_35 <| And.intro @lnA_35 <| And.intro @aln_36 <| And.intro @isA_36 <| And.intro @lnA_36 <| And.intro @aln_37 <| And.intro @isA_37 <| And.intro @lnA_37 <| And.intro @aln_38 <| And.intro @isA_38 <| And.intro @lnA_38 <| And.intro @aln_39 <| And.intro @isA_39 <| And.intro @lnA_39 <| And.intro @aln_40 <| And.intro @isA_40 <| And.intro @lnA_40 <| And.intro @aln_41 <| And.intro @isA_41 <| And.intro @lnA_41 <| And.intro @isO_42 <| And.intro @fr_42_0 <| And.intro @fr_42_1 <| And.intro @aln_43 <| And.intro @isA_43 <| And.intro @lnA_43 <| And.intro @isO_44 <| And.intro @fr_44_0 <| And.intro @isO_45 <| And.intro @fr_45_0 <| And.intro @fr_45_1 <| And.intro @fr_45_2 <| And.intro @fr_45_3 <| And.intro @fr_45_4 <| And.intro @fr_45_5 <| And.intro @fr_45_6 <| And.intro @aln_46 <| And.intro @isA_46 <| And.intro @lnA_46 <| And.intro @aln_47 <| And.intro @isA_47 <| And.intro @lnA_47 <| And.intro @aln_48 <| And.intro @isA_48 <| And.intro @lnA_48 <| And.intro @aln_49 <| And.intro @isA_49 <| And.intro @lnA_49 <| And.intro @aln_50 <| And.intro @isA_50 <| And.intro @lnA_50 <| And.intro @aln_51 <| And.intro @isA_51 <| And.intro @lnA_51 <| And.intro @aln_52 <| And.intro @isA_52 <| And.intro @lnA_52 <| And.intro @isO_53 <| And.intro @fr_53_0 <| And.intro @fr_53_1 <| And.intro @fr_53_2 <| And.intro @aln_54 <| And.intro @isA_54 <| And.intro @lnA_54 <| And.intro @isO_55 <| And.intro @fr_55_0 <| And.intro @fr_55_1 <| And.intro @fr_55_2 <| And.intro @fr_55_3 <| And.intro @isO_56 <| And.intro @fr_56_0 <| And.intro @fr_56_1 <| And.intro @fr_56_2 <| And.intro @aln_57 <| And.intro @isA_57 <| And.intro @lnA_57 <| And.intro @aln_58 <| And.intro @isA_58 <| And.intro @lnA_58 <| And.intro @isO_59 <| And.intro @fr_59_1 <| And.intro @fr_59_12 <| And.intro @fr_59_15 <| And.intro @fr_59_16 <| And.intro @fr_59_17 <| And.intro @fr_59_18 <| And.intro @fr_59_19 <| And.intro @fr_59_23 <| And.intro @fr_59_24 <| And.intro @fr_59_26 <| And.intro @fr_59_27 <| And.intro @fr_59_32 <| And.intro @fr_59_40 <| And.intro @aln_60 <| And.intro @isA_60 <| And.intro @lnA_60 <| And.intro @aln_61 <| And.intro @isA_61 <| And.intro @lnA_61 <| And.intro @aln_62 <| And.intro @isA_62 <| And.intro @lnA_62 <| And.intro @aln_63 <| And.intro @isA_63 <| And.intro @lnA_63 <| And.intro @aln_64 <| And.intro @isA_64 <| And.intro @lnA_64 <| And.intro @aln_65 <| And.intro @isA_65 <| And.intro @lnA_65 <| And.intro @aln_66 <| And.intro @isA_66 <| And.intro @lnA_66 <| And.intro @aln_67 <| And.intro @isA_67 <| And.intro @lnA_67 <| And.intro @aln_68 <| And.intro @isA_68 <| And.intro @lnA_68 <| And.intro @aln_69 <| And.intro @isA_69 <| And.intro @lnA_69 <| And.intro @aln_70 <| And.intro @isA_70 <| And.intro @lnA_70 <| And.intro @aln_71 <| And.intro @isA_71 <| And.intro @lnA_71 <| And.intro @aln_72 <| And.intro @isA_72 <| And.intro @lnA_72 <| And.intro @aln_73 <| And.intro @isA_73 <| @lnA_73
set_option maxRecDepth 100000 in
def LIA := And.intro @tn_0 <| And.intro @tn_1 <| And.intro @tn_2 <| And.intro @tn_3 <| And.intro @tn_4 <| And.intro @tn_5 <| And.intro @tn_6 <| And.intro @tn_7 <| And.intro @tn_8 <| And.intro @tn_9 <| And.intro @tn_10 <| And.intro @tn_11 <| And.intro @tn_12 <| And.intro @tn_13 <| And.intro @tn_14 <| And.intro @tn_15 <| And.intro @tn_16 <| And.intro @tn_17 <| And.intro @tn_18 <| And.intro @tn_19 <| And.intro @tn_20 <| And.intro @tn_21 <| And.intro @tn_23 <| And.intro @tn_24 <| And.intro @tn_25 <| And.intro @tn_32 <| And.intro @tn_35 <| And.intro @tn_55 <| And.intro @tn_59 <| And.intro @tn_60 <| And.intro @tn_74 <| And.intro @tn_87 <| And.intro @tn_99 <| And.intro @tn_100 <| And.intro @tn_128 <| And.intro @tn_191 <| And.intro @tn_900 <| And.intro @vin_0_1 <| And.intro @vin_0_3 <| And.intro @vin_1_3 <| And.intro @vin_2_3 <| And.intro @vin_0_4 <| And.intro @vin_1_4 <| And.intro @vin_2_4 <| And.intro @vin_3_4 <| And.intro @vin_0_5 <| And.intro @vin_1_5 <| And.intro @vin_2_5 <| And.intro @vin_3_5 <| And.intro @vin_4_5 <| And.intro @vin_0_6 <| And.intro @vin_1_6 <| And.intro @vin_2_6 <| And.intro @vin_3_6 <| And.intro @vin_4_6 <| And.intro @vin_5_6 <| And.intro @vin_0_8 <| And.intro @vin_1_8 <| And.intro @vin_2_8 <| And.intro @vin_3_8 <| And.intro @vin_4_8 <| And.intro @vin_5_8 <| And.intro @vin_6_8 <| And.intro @vin_7_8 <| And.intro @vin_0_11 <| And.intro @vin_1_11 <| And.intro @vin_2_11 <| And.intro @vin_3_11 <| And.intro @vin_4_11 <| And.intro @vin_5_11 <| And.intro @vin_6_11 <| And.intro @vin_7_11 <| And.intro @vin_8_11 <| And.intro @vin_9_11 <| And.intro @vin_10_11 <| And.intro @vin_0_13 <| And.intro @vin_1_13 <| And.intro @vin_2_13 <| And.intro @vin_3_13 <| And.intro @vin_4_13 <| And.intro @vin_5_13 <| And.intro @vin_6_13 <| And.intro @vin_7_13 <| And.intro @vin_8_13 <| And.intro @vin_9_13 <| And.intro @vin_10_13 <| And.intro @vin_11_13 <| And.intro @vin_12_13 <| And.intro @vin_0_16 <| And.intro @vin_1_16 <| And.intro @vin_2_16 <| And.intro @vin_3_16 <| And.intro @vin_4_16 <| And.intro @vin_5_16 <| And.intro @vin_6_16 <| And.intro @vin_7_16 <| And.intro @vin_8_16 <| And.intro @vin_9_16 <| And.intro @vin_10_16 <| And.intro @vin_11_16 <| And.intro @vin_12_16 <| And.intro @vin_13_16 <| And.intro @vin_0_24 <| And.intro @vin_1_24 <| And.intro @vin_2_24 <| And.intro @vin_3_24 <| And.intro @vin_4_24 <| And.intro @vin_5_24 <| And.intro @vin_6_24 <| And.intro @vin_7_24 <| And.intro @vin_8_24 <| And.intro @vin_9_24 <| And.intro @vin_10_24 <| And.intro @vin_11_24 <| And.intro @vin_12_24 <| And.intro @vin_13_24 <| And.intro @vin_0_32 <| And.intro @vin_1_32 <| And.intro @vin_2_32 <| And.intro @vin_3_32 <| And.intro @vin_4_32 <| And.intro @vin_5_32 <| And.intro @vin_6_32 <| And.intro @vin_7_32 <| And.intro @vin_8_32 <| And.intro @vin_9_32 <| And.intro @vin_10_32 <| And.intro @vin_11_32 <| And.intro @vin_12_32 <| And.intro @vin_13_32 <| And.intro @vin_0_128 <| And.intro @vin_1_128 <| And.intro @vin_2_128 <| And.intro @vin_3_128 <| And.intro @vin_4_128 <| And.intro @vin_5_128 <| And.intro @vin_6_128 <| And.intro @vin_7_128 <| And.intro @vin_8_128 <| And.intro @vin_9_128 <| And.intro @vin_10_128 <| And.intro @vin_11_128 <| And.intro @vin_12_128 <| And.intro @vin_13_128 <| And.intro @vin_0_191 <| And.intro @vin_1_191 <| And.intro @vin_2_191 <| And.intro @vin_3_191 <| And.intro @vin_4_191 <| And.intro @vin_5_191 <| And.intro @vin_6_191 <| And.intro @vin_7_191 <| And.intro @vin_8_191 <| And.intro @vin_9_191 <| And.intro @vin_10_191 <| And.intro @vin_11_191 <| And.intro @vin_12_191 <| And.intro @vin_13_191 <| And.intro @vin_14_191 <| And.intro @vin_15_191 <| And.intro @vin_16_191 <| And.intro @vin_17_191 <| And.intro @vin_18_191 <| And.intro @vin_19_191 <| And.intro @vin_20_191 <| And.intro @vin_21_191 <| And.intro @vin_23_191 <| And.intro @vin_24_191 <| And.intro @vin_25_191 <| And.intro @vin_32_191 <| And.intro @vin_35_191 <| And.intro @vin_55_191 <| And.intro @vin_59_191 <| And.intro @vin_60_191 <| And.intro @vin_74_191 <| And.intro @vin_87_191 <| And.intro @vin_99_191 <| And.intro @vin_100_191 <| And.intro @vin_128_191 <| And.intro @vin_0_900 <| And.intro @vin_1_900 <| And.intro @vin_2_900 <| And.intro @vin_3_900 <| And.intro @vin_4_900 <| And.intro @vin_5_900 <| And.intro @vin_6_900 <| And.intro @vin_7_900 <| And.intro @vin_8_900 <| And.intro @vin_9_900 <| And.intro @vin_10_900 <| And.intro @vin_11_900 <| And.intro @vin_12_900 <| And.intro @vin_13_900 <| And.intro @bI_def <| And.intro @bI_flip <| And.intro @nc_51 <| And.intro @bbP <| And.intro @ny_0 <| And.intro @ny_1 <| And.intro @bI_ny <| And.intro @bI_0 <| And.intro @bI_1 <| @bI_01
set_option maxRecDepth 100000 in
def NIA := And.intro @tnc <| And.intro @vic <| And.intro @ltn <| And.intro @eqn <| And.intro @ng <| And.intro @nadd <| And.intro @nmul <| And.intro @na_1 <| And.intro @na_2 <| And.intro @na_3 <| And.intro @na_4 <| And.intro @na_8 <| And.intro @na_20 <| And.intro @nb_11 <| And.intro @nb_19 <| And.intro @nb_35 <| And.intro @nb_55 <| And.intro @nb_59 <| And.intro @nb_74 <| And.intro @nb_87 <| And.intro @nb_4 <| And.intro @nb_8 <| And.intro @nm_2 <| And.intro @nm_3 <| And.intro @nm_4 <| And.intro @nm_8 <| And.intro @nm_10 <| And.intro @nm_75 <| And.intro @nl_0 <| And.intro @ne_0 <| And.intro @ngt_0 <| And.intro @nl_1 <| And.intro @ne_1 <| And.intro @ngt_1 <| And.intro @nl_2 <| And.intro @ne_2 <| And.intro @ngt_2 <| And.intro @nl_3 <| And.intro @ne_3 <| And.intro @ngt_3 <| And.intro @nl_4 <| And.intro @ne_4 <| And.intro @ngt_4 <| And.intro @nl_5 <| And.intro @ne_5 <| And.intro @ngt_5 <| And.intro @nl_8 <| And.intro @ne_8 <| And.intro @ngt_8 <| And.intro @nl_13 <| And.intro @ne_13 <| And.intro @ngt_13 <| And.intro @nl_16 <| And.intro @ne_16 <| And.intro @ngt_16 <| And.intro @nl_20 <| And.intro @ne_20 <| @ngt_20
