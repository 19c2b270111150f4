def zGap (n : Nat) (b : Nat → Int) (rc : Int) (E : Nat → Int) (x y : Nat) : Int := zFa n b rc E x 2 - (b (x * 6 + zRo n b y) - zFa n b rc E y 3)
