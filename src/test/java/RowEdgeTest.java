/** The edges of WHAT THEY ARE, row by row; what is due was worked out by a second program, in fractions. */
final class RowEdgeTest {
    public static void main(String[] args) {
        whereACycleEnds();
        belowZero();
        counts();
        weights();
        euclid();
        reversed();
        spans();
        plied();
        sounding();
        numbers();
        orders();
        farCycles();
        otherGrains();
        drawsBelow();
        drawsOfLowestTerms();
        questions();
        seeds();
        Check.finish("RowEdgeTest");
    }

    private static void rowIs(String exp, int c, String due) {
        Check.same("row " + c + " of " + exp, new Check().on(0, exp).row(0, c), due);
    }

    /** What BEGINS where a cycle ends is the next one's. */
    private static void whereACycleEnds() {
        rowIs("late 1 '<a b>'", -1, "0+1:a");
        rowIs("late 1 '<a b>'", 0, "0+1:b");
        rowIs("late 1 '<a b>'", 1, "0+1:a");
        rowIs("late 1:2 'a b'", -1, "0+1/2:b 1/2+1/2:a");
        rowIs("late 1:2 'a b'", 0, "0+1/2:b 1/2+1/2:a");
        rowIs("late 1:2 'a b'", 1, "0+1/2:b 1/2+1/2:a");
        rowIs("early 1:2 'a b'", -1, "0+1/2:b 1/2+1/2:a");
        rowIs("early 1:2 'a b'", 0, "0+1/2:b 1/2+1/2:a");
        rowIs("late 1:64 'a'", 0, "1/64+1:a");
        rowIs("late 63:64 'a'", 0, "63/64+1:a");
        rowIs("early 1:64 '<a b>'", -1, "63/64+1:a");
        rowIs("early 1:64 '<a b>'", 0, "63/64+1:b");
        rowIs("late 64 '<a b c>'", 0, "0+1:c");
        rowIs("late 64 '<a b c>'", 1, "0+1:a");
        rowIs("late 64 '<a b c>'", 2, "0+1:b");
        rowIs("early 64 '<a b c>'", 0, "0+1:b");
        rowIs("early 64 '<a b c>'", 1, "0+1:c");
        rowIs("early 64 '<a b c>'", 2, "0+1:a");
        rowIs("fast 3:2 '<a b c>'", -2, "0+2/3:a 2/3+2/3:b");
        rowIs("fast 3:2 '<a b c>'", -1, "1/3+2/3:c");
        rowIs("fast 3:2 '<a b c>'", 0, "0+2/3:a 2/3+2/3:b");
        rowIs("fast 3:2 '<a b c>'", 1, "1/3+2/3:c");
        rowIs("slow 3:2 'a'", -2, "1/2+3/2:a");
        rowIs("slow 3:2 'a'", -1, "");
        rowIs("slow 3:2 'a'", 0, "0+3/2:a");
        rowIs("slow 3:2 'a'", 1, "1/2+3/2:a");
        rowIs("slow 3:2 'a'", 2, "");
        rowIs("slow 2 'a b'", -2, "0+1:a");
        rowIs("slow 2 'a b'", -1, "0+1:b");
        rowIs("slow 2 'a b'", 0, "0+1:a");
        rowIs("slow 2 'a b'", 1, "0+1:b");
        rowIs("slow 64 'a'", -64, "0+64:a");
        rowIs("slow 64 'a'", -1, "");
        rowIs("slow 64 'a'", 0, "0+64:a");
        rowIs("slow 64 'a'", 1, "");
        rowIs("slow 64 'a'", 63, "");
        rowIs("slow 64 'a'", 64, "0+64:a");
        rowIs("fast 1:64 'a'", 0, "0+64:a");
        rowIs("fast 1:64 'a'", 63, "");
        rowIs("fast 1:64 'a'", 64, "0+64:a");
        rowIs("fast 64:63 'a'", -63, "0+63/64:a 63/64+63/64:a");
        rowIs("fast 64:63 'a'", 0, "0+63/64:a 63/64+63/64:a");
        rowIs("fast 64:63 'a'", 62, "1/64+63/64:a");
        rowIs("fast 64:63 'a'", 63, "0+63/64:a 63/64+63/64:a");
        rowIs("ply 2 (slow 2 'a')", -1, "0+1:a");
        rowIs("ply 2 (slow 2 'a')", 0, "0+1:a");
        rowIs("ply 2 (slow 2 'a')", 1, "0+1:a");
        rowIs("ply 2 (slow 2 'a')", 2, "0+1:a");
        rowIs("ply 4 (late 1:2 'a')", 0, "0+1/4:a 1/4+1/4:a 1/2+1/4:a 3/4+1/4:a");
        rowIs("fast 1 'a b'", 0, "0+1/2:a 1/2+1/2:b");
        rowIs("slow 1 'a b'", -5, "0+1/2:a 1/2+1/2:b");
        rowIs("early 0 'a b'", 0, "0+1/2:a 1/2+1/2:b");
        rowIs("late 0:64 'a b'", 0, "0+1/2:a 1/2+1/2:b");
        rowIs("'a*1 b/1'", 0, "0+1/2:a 1/2+1/2:b");
    }

    /** x mod n is 0 .. n - 1 and x div n goes down, below 0, too. */
    private static void belowZero() {
        rowIs("'<a b c>'", -4, "0+1:c");
        rowIs("'<a b c>'", -3, "0+1:a");
        rowIs("'<a b c>'", -2, "0+1:b");
        rowIs("'<a b c>'", -1, "0+1:c");
        rowIs("'<a b c>'", 0, "0+1:a");
        rowIs("'<a b c>'", 1, "0+1:b");
        rowIs("'<a b c>'", 2, "0+1:c");
        rowIs("'<a b c>'", 3, "0+1:a");
        rowIs("'<<a b> c>'", -5, "0+1:c");
        rowIs("'<<a b> c>'", -4, "0+1:a");
        rowIs("'<<a b> c>'", -3, "0+1:c");
        rowIs("'<<a b> c>'", -2, "0+1:b");
        rowIs("'<<a b> c>'", -1, "0+1:c");
        rowIs("'<<a b> c>'", 0, "0+1:a");
        rowIs("'<<a b> c>'", 1, "0+1:c");
        rowIs("'<<a b> c>'", 2, "0+1:b");
        rowIs("'<<a b> c>'", 3, "0+1:c");
        rowIs("'a' ; 'b' ; '<c d>'", -4, "0+1:c");
        rowIs("'a' ; 'b' ; '<c d>'", -3, "0+1:a");
        rowIs("'a' ; 'b' ; '<c d>'", -2, "0+1:b");
        rowIs("'a' ; 'b' ; '<c d>'", -1, "0+1:d");
        rowIs("'a' ; 'b' ; '<c d>'", 0, "0+1:a");
        rowIs("'a' ; 'b' ; '<c d>'", 2, "0+1:c");
        rowIs("'a' ; 'b' ; '<c d>'", 5, "0+1:d");
        rowIs("'{a b c}%2'", -3, "0+1/2:a 1/2+1/2:b");
        rowIs("'{a b c}%2'", -2, "0+1/2:c 1/2+1/2:a");
        rowIs("'{a b c}%2'", -1, "0+1/2:b 1/2+1/2:c");
        rowIs("'{a b c}%2'", 0, "0+1/2:a 1/2+1/2:b");
        rowIs("'{a b c}%2'", 1, "0+1/2:c 1/2+1/2:a");
        rowIs("'{<a b> c}%1'", -4, "0+1:a");
        rowIs("'{<a b> c}%1'", -3, "0+1:c");
        rowIs("'{<a b> c}%1'", -2, "0+1:b");
        rowIs("'{<a b> c}%1'", -1, "0+1:c");
        rowIs("'{<a b> c}%1'", 0, "0+1:a");
        rowIs("'{<a b> c}%1'", 1, "0+1:c");
        rowIs("'{<a b> c}%1'", 2, "0+1:b");
        rowIs("every 3 (# 'x') 'a'", -4, "0+1:a");
        rowIs("every 3 (# 'x') 'a'", -3, "0+1:x");
        rowIs("every 3 (# 'x') 'a'", -2, "0+1:a");
        rowIs("every 3 (# 'x') 'a'", -1, "0+1:a");
        rowIs("every 3 (# 'x') 'a'", 0, "0+1:x");
        rowIs("every 3 (# 'x') 'a'", 1, "0+1:a");
        rowIs("every 3 (# 'x') 'a'", 2, "0+1:a");
        rowIs("every 3 (# 'x') 'a'", 3, "0+1:x");
        rowIs("when 3 2 (# 'x') 'a'", -4, "0+1:x");
        rowIs("when 3 2 (# 'x') 'a'", -3, "0+1:a");
        rowIs("when 3 2 (# 'x') 'a'", -2, "0+1:a");
        rowIs("when 3 2 (# 'x') 'a'", -1, "0+1:x");
        rowIs("when 3 2 (# 'x') 'a'", 0, "0+1:a");
        rowIs("when 3 2 (# 'x') 'a'", 1, "0+1:a");
        rowIs("when 3 2 (# 'x') 'a'", 2, "0+1:x");
        rowIs("when 3 2 (# 'x') 'a'", 3, "0+1:a");
        rowIs("chunk 3 (# 'x') '1 2 3'", -4, "0+1/3:#1 1/3+1/3:#2 2/3+1/3:x#3");
        rowIs("chunk 3 (# 'x') '1 2 3'", -3, "0+1/3:x#1 1/3+1/3:#2 2/3+1/3:#3");
        rowIs("chunk 3 (# 'x') '1 2 3'", -2, "0+1/3:#1 1/3+1/3:x#2 2/3+1/3:#3");
        rowIs("chunk 3 (# 'x') '1 2 3'", -1, "0+1/3:#1 1/3+1/3:#2 2/3+1/3:x#3");
        rowIs("chunk 3 (# 'x') '1 2 3'", 0, "0+1/3:x#1 1/3+1/3:#2 2/3+1/3:#3");
        rowIs("chunk 3 (# 'x') '1 2 3'", 1, "0+1/3:#1 1/3+1/3:x#2 2/3+1/3:#3");
        rowIs("iter 3 '1 2 3'", -4, "0+1/3:#3 1/3+1/3:#1 2/3+1/3:#2");
        rowIs("iter 3 '1 2 3'", -3, "0+1/3:#1 1/3+1/3:#2 2/3+1/3:#3");
        rowIs("iter 3 '1 2 3'", -2, "0+1/3:#2 1/3+1/3:#3 2/3+1/3:#1");
        rowIs("iter 3 '1 2 3'", -1, "0+1/3:#3 1/3+1/3:#1 2/3+1/3:#2");
        rowIs("iter 3 '1 2 3'", 0, "0+1/3:#1 1/3+1/3:#2 2/3+1/3:#3");
        rowIs("iter 3 '1 2 3'", 1, "0+1/3:#2 1/3+1/3:#3 2/3+1/3:#1");
        rowIs("fast 2:3 '<a b c>'", -4, "");
        rowIs("fast 2:3 '<a b c>'", -3, "0+3/2:b");
        rowIs("fast 2:3 '<a b c>'", -2, "1/2+3/2:c");
        rowIs("fast 2:3 '<a b c>'", -1, "");
        rowIs("fast 2:3 '<a b c>'", 0, "0+3/2:a");
    }

    /** Counts at their least and most. */
    private static void counts() {
        rowIs("every 1 (# 'x') 'a'", -1, "0+1:x");
        rowIs("every 1 (# 'x') 'a'", 0, "0+1:x");
        rowIs("every 1 (# 'x') 'a'", 1, "0+1:x");
        rowIs("every 2 (# 'x') 'a'", -2, "0+1:x");
        rowIs("every 2 (# 'x') 'a'", -1, "0+1:a");
        rowIs("every 2 (# 'x') 'a'", 0, "0+1:x");
        rowIs("every 2 (# 'x') 'a'", 1, "0+1:a");
        rowIs("every 32 (# 'x') 'a'", -33, "0+1:a");
        rowIs("every 32 (# 'x') 'a'", -32, "0+1:x");
        rowIs("every 32 (# 'x') 'a'", -31, "0+1:a");
        rowIs("every 32 (# 'x') 'a'", -1, "0+1:a");
        rowIs("every 32 (# 'x') 'a'", 0, "0+1:x");
        rowIs("every 32 (# 'x') 'a'", 1, "0+1:a");
        rowIs("every 32 (# 'x') 'a'", 31, "0+1:a");
        rowIs("every 32 (# 'x') 'a'", 32, "0+1:x");
        rowIs("when 1 0 (# 'x') 'a'", 0, "0+1:x");
        rowIs("when 1 0 (# 'x') 'a'", 1, "0+1:x");
        rowIs("when 1 1 (# 'x') 'a'", 0, "0+1:a");
        rowIs("when 1 1 (# 'x') 'a'", 1, "0+1:a");
        rowIs("when 5 0 (# 'x') 'a'", 0, "0+1:x");
        rowIs("when 5 0 (# 'x') 'a'", 4, "0+1:x");
        rowIs("when 5 5 (# 'x') 'a'", 0, "0+1:a");
        rowIs("when 5 5 (# 'x') 'a'", 4, "0+1:a");
        rowIs("when 5 4 (# 'x') 'a'", 3, "0+1:a");
        rowIs("when 5 4 (# 'x') 'a'", 4, "0+1:x");
        rowIs("when 5 4 (# 'x') 'a'", 5, "0+1:a");
        rowIs("when 5 4 (# 'x') 'a'", -1, "0+1:x");
        rowIs("when 32 31 (# 'x') 'a'", 30, "0+1:a");
        rowIs("when 32 31 (# 'x') 'a'", 31, "0+1:x");
        rowIs("when 32 31 (# 'x') 'a'", 32, "0+1:a");
        rowIs("when 32 31 (# 'x') 'a'", -1, "0+1:x");
        rowIs("when 32 32 (# 'x') 'a'", 0, "0+1:a");
        rowIs("when 32 32 (# 'x') 'a'", 31, "0+1:a");
        rowIs("when 3 32 (# 'x') 'a'", 0, "0+1:a");
        rowIs("when 3 32 (# 'x') 'a'", 2, "0+1:a");
        rowIs("chunk 1 (# 'x') 'a b'", 0, "0+1/2:x 1/2+1/2:x");
        rowIs("chunk 1 (# 'x') 'a b'", 1, "0+1/2:x 1/2+1/2:x");
        rowIs("chunk 2 (# 'x') 'a b c'", 0, "0+1/3:x 1/3+1/3:x 2/3+1/3:c");
        rowIs("chunk 2 (# 'x') 'a b c'", 1, "0+1/3:a 1/3+1/3:b 2/3+1/3:x");
        rowIs("chunk 32 (# 'x') '1 ~@14 2'", 0, "0+1/16:x#1 15/16+1/16:#2");
        rowIs("chunk 32 (# 'x') '1 ~@14 2'", 1, "0+1/16:#1 15/16+1/16:#2");
        rowIs("chunk 32 (# 'x') '1 ~@14 2'", 29, "0+1/16:#1 15/16+1/16:#2");
        rowIs("chunk 32 (# 'x') '1 ~@14 2'", 30, "0+1/16:#1 15/16+1/16:x#2");
        rowIs("chunk 32 (# 'x') '1 ~@14 2'", 31, "0+1/16:#1 15/16+1/16:#2");
        rowIs("chunk 32 (# 'x') '1 ~@14 2'", -2, "0+1/16:#1 15/16+1/16:x#2");
        rowIs("chunk 32 (# 'x') '1 ~@14 2'", -1, "0+1/16:#1 15/16+1/16:#2");
        rowIs("iter 1 'a b'", 0, "0+1/2:a 1/2+1/2:b");
        rowIs("iter 1 'a b'", 1, "0+1/2:a 1/2+1/2:b");
        rowIs("iter 2 'a b c'", 0, "0+1/3:a 1/3+1/3:b 2/3+1/3:c");
        rowIs("iter 2 'a b c'", 1, "1/6+1/3:c 1/2+1/3:a 5/6+1/3:b");
        rowIs("iter 2 'a b c'", 2, "0+1/3:a 1/3+1/3:b 2/3+1/3:c");
        rowIs("iter 32 'a'", 0, "0+1:a");
        rowIs("iter 32 'a'", 1, "31/32+1:a");
        rowIs("iter 32 'a'", 31, "1/32+1:a");
        rowIs("iter 32 'a'", 32, "0+1:a");
        rowIs("iter 32 'a'", -1, "1/32+1:a");
        rowIs("ply 1 'a b'", 0, "0+1/2:a 1/2+1/2:b");
        rowIs("ply 32 'a ~@15'", 0, "0+1/512:a 1/512+1/512:a 1/256+1/512:a 3/512+1/512:a 1/128+1/512:a 5/512+1/512:a 3/256+1/512:a 7/512+1/512:a 1/64+1/512:a 9/512+1/512:a 5/256+1/512:a 11/512+1/512:a 3/128+1/512:a 13/512+1/512:a 7/256+1/512:a 15/512+1/512:a 1/32+1/512:a 17/512+1/512:a 9/256+1/512:a 19/512+1/512:a 5/128+1/512:a 21/512+1/512:a 11/256+1/512:a 23/512+1/512:a 3/64+1/512:a 25/512+1/512:a 13/256+1/512:a 27/512+1/512:a 7/128+1/512:a 29/512+1/512:a 15/256+1/512:a 31/512+1/512:a");
        rowIs("rot 0 'a b c'", 0, "0+1/3:a 1/3+1/3:b 2/3+1/3:c");
        rowIs("rot 1 '~'", 0, "");
        rowIs("rot 3 'a b c'", 0, "0+1/3:a 1/3+1/3:b 2/3+1/3:c");
        rowIs("rot 4 'a b c'", 0, "0+1/3:b 1/3+1/3:c 2/3+1/3:a");
        rowIs("rot 32 'a b c'", 0, "0+1/3:c 1/3+1/3:a 2/3+1/3:b");
        rowIs("rot 32 'a'", 0, "0+1:a");
        rowIs("rot 2 'a ~ 1 ~ b'", 0, "0+1/5:b 2/5+1/5:a 4/5+1/5:#1");
        rowIs("rot 1 '<a [b c] ~>'", 0, "0+1:a");
        rowIs("rot 1 '<a [b c] ~>'", 1, "0+1/2:c 1/2+1/2:b");
        rowIs("rot 1 '<a [b c] ~>'", 2, "");
        rowIs("inside 1 (# 'x') 'a b'", 0, "0+1/2:x 1/2+1/2:x");
        rowIs("inside 1 rev 'a b'", 0, "0+1/2:b 1/2+1/2:a");
        rowIs("inside 2 rev 'a b'", 0, "0+1/2:a 1/2+1/2:b");
        rowIs("inside 2 rev 'a b'", 1, "0+1/2:a 1/2+1/2:b");
        rowIs("inside 4 rev '<a b c>'", 0, "0+1/4:a");
        rowIs("inside 4 rev '<a b c>'", 1, "0+1/4:b");
    }

    /** Weights of 1 .. 16, ! of 1 .. 16, % of 1 .. 32. */
    private static void weights() {
        rowIs("'a@1 b'", 0, "0+1/2:a 1/2+1/2:b");
        rowIs("'a@16 b'", 0, "0+16/17:a 16/17+1/17:b");
        rowIs("'a!1 b'", 0, "0+1/2:a 1/2+1/2:b");
        rowIs("'a!3 b@3'", 0, "0+1/6:a 1/6+1/6:a 1/3+1/6:a 1/2+1/2:b");
        rowIs("'a@2!2 b'", 0, "0+2/5:a 2/5+2/5:a 4/5+1/5:b");
        rowIs("'~!15 a!1'", 0, "15/16+1/16:a");
        rowIs("'~!16 a'", 0, "16/17+1/17:a");
        rowIs("'<a@16 b>'", -18, "0+1:b");
        rowIs("'<a@16 b>'", -17, "0+1:a");
        rowIs("'<a@16 b>'", -2, "0+1:a");
        rowIs("'<a@16 b>'", -1, "0+1:b");
        rowIs("'<a@16 b>'", 0, "0+1:a");
        rowIs("'<a@16 b>'", 15, "0+1:a");
        rowIs("'<a@16 b>'", 16, "0+1:b");
        rowIs("'<a@16 b>'", 17, "0+1:a");
        rowIs("'<a!2 b>'", -1, "0+1:b");
        rowIs("'<a!2 b>'", 0, "0+1:a");
        rowIs("'<a!2 b>'", 1, "0+1:a");
        rowIs("'<a!2 b>'", 2, "0+1:b");
        rowIs("'<a!2 b>'", 3, "0+1:a");
        rowIs("'<a@2!2 b>'", 3, "0+1:a");
        rowIs("'<a@2!2 b>'", 4, "0+1:b");
        rowIs("'<a@2!2 b>'", 5, "0+1:a");
        rowIs("'<a>'", -1, "0+1:a");
        rowIs("'<a>'", 0, "0+1:a");
        rowIs("'<a>'", 5, "0+1:a");
        rowIs("'<~ a>'", 0, "");
        rowIs("'<~ a>'", 1, "0+1:a");
        rowIs("'{a b}%1'", -1, "0+1:b");
        rowIs("'{a b}%1'", 0, "0+1:a");
        rowIs("'{a b}%1'", 1, "0+1:b");
        rowIs("'{a}%2'", 0, "0+1/2:a 1/2+1/2:a");
        rowIs("'{a@2 b}%2'", -1, "0+1/2:a 1/2+1/2:b");
        rowIs("'{a@2 b}%2'", 0, "0+1/2:a 1/2+1/2:a");
        rowIs("'{a@2 b}%2'", 1, "0+1/2:b 1/2+1/2:a");
        rowIs("'{a@2 b}%2'", 2, "0+1/2:a 1/2+1/2:b");
        rowIs("'{a b c}%3'", 0, "0+1/3:a 1/3+1/3:b 2/3+1/3:c");
        rowIs("'{a b c}%3'", 7, "0+1/3:a 1/3+1/3:b 2/3+1/3:c");
        rowIs("'{a!2 b}%3'", 0, "0+1/3:a 1/3+1/3:a 2/3+1/3:b");
        rowIs("'{a!2 b}%3'", 1, "0+1/3:a 1/3+1/3:a 2/3+1/3:b");
        rowIs("'{<a b c> d}%2'", -1, "0+1/2:c 1/2+1/2:d");
        rowIs("'{<a b c> d}%2'", 0, "0+1/2:a 1/2+1/2:d");
        rowIs("'{<a b c> d}%2'", 1, "0+1/2:b 1/2+1/2:d");
        rowIs("'{<a b c> d}%2'", 2, "0+1/2:c 1/2+1/2:d");
        rowIs("'{<a b c> d}%2'", 3, "0+1/2:a 1/2+1/2:d");
        rowIs("'{a b/2}%2'", 0, "0+1/2:a 1/2+1:b");
        rowIs("'{a b/2}%2'", 1, "0+1/2:a");
    }

    /** ( k , n , s ) with k from 0 to n and s from 0 to 31. */
    private static void euclid() {
        rowIs("'a(0,1)'", 0, "");
        rowIs("'a(1,1)'", 0, "0+1:a");
        rowIs("'a(1,1,31)'", 0, "0+1:a");
        rowIs("'a(0,32)'", 0, "");
        rowIs("'a(1,32)'", 0, "0+1/32:a");
        rowIs("'a(1,32,1)'", 0, "31/32+1/32:a");
        rowIs("'a(1,32,31)'", 0, "1/32+1/32:a");
        rowIs("'a(3,8)'", 0, "0+1/8:a 3/8+1/8:a 3/4+1/8:a");
        rowIs("'a(3,8,0)'", 0, "0+1/8:a 3/8+1/8:a 3/4+1/8:a");
        rowIs("'a(3,8,1)'", 0, "1/4+1/8:a 5/8+1/8:a 7/8+1/8:a");
        rowIs("'a(3,8,7)'", 0, "1/8+1/8:a 1/2+1/8:a 7/8+1/8:a");
        rowIs("'a(3,8,8)'", 0, "0+1/8:a 3/8+1/8:a 3/4+1/8:a");
        rowIs("'a(3,8,9)'", 0, "1/4+1/8:a 5/8+1/8:a 7/8+1/8:a");
        rowIs("'a(3,8,31)'", 0, "1/8+1/8:a 1/2+1/8:a 7/8+1/8:a");
        rowIs("'a(7,8)'", 0, "0+1/8:a 1/4+1/8:a 3/8+1/8:a 1/2+1/8:a 5/8+1/8:a 3/4+1/8:a 7/8+1/8:a");
        rowIs("'a(8,8,3)'", 0, "0+1/8:a 1/8+1/8:a 1/4+1/8:a 3/8+1/8:a 1/2+1/8:a 5/8+1/8:a 3/4+1/8:a 7/8+1/8:a");
        rowIs("'a(5,8,2)'", 0, "0+1/8:a 1/4+1/8:a 3/8+1/8:a 5/8+1/8:a 3/4+1/8:a");
        rowIs("'a(2,5)'", 0, "0+1/5:a 3/5+1/5:a");
        rowIs("'<a b>(2,3)'", 0, "0+1/3:a 2/3+1/3:a");
        rowIs("'<a b>(2,3)'", 1, "0+1/3:b 2/3+1/3:b");
        rowIs("'<a b>(2,3)'", -1, "0+1/3:b 2/3+1/3:b");
        rowIs("'a/2(1,2)'", 0, "0+1:a");
        rowIs("'a/2(1,2)'", 1, "");
    }

    /** rev cuts what goes on behind the cycle. */
    private static void reversed() {
        rowIs("rev 'a'", 0, "0+1:a");
        rowIs("rev (late 1:2 'a')", 0, "0+1/2:a");
        rowIs("rev (late 1:2 'a')", -1, "0+1/2:a");
        rowIs("rev (slow 2 'a')", 0, "0+1:a");
        rowIs("rev (slow 2 'a')", 1, "");
        rowIs("rev (slow 3:2 'a b')", 0, "0+1/4:b 1/4+3/4:a");
        rowIs("rev (slow 3:2 'a b')", 1, "0+1/2:a");
        rowIs("rev (slow 3:2 'a b')", 2, "0+3/4:b");
        rowIs("rev '[a,b]'", 0, "0+1:a 0+1:b");
        rowIs("rev '[a b,~ c]'", 0, "0+1/2:b 0+1/2:c 1/2+1/2:a");
        rowIs("rev ('a' & late 1:2 'b')", 0, "0+1:a 0+1/2:b");
        rowIs("rev (late 1:2 'a' & 'b')", 0, "0+1:b 0+1/2:a");
        rowIs("rev (late 1:4 'a b c d')", 0, "0+1/4:c 1/4+1/4:b 1/2+1/4:a 3/4+1/4:d");
        rowIs("rev (late 1:8 'a b')", -3, "0+3/8:b 3/8+1/2:a");
        rowIs("rev '<a [b c]>'", -1, "0+1/2:c 1/2+1/2:b");
        rowIs("rev '<a [b c]>'", 0, "0+1:a");
    }

    /** A span goes from its begin up to its end. */
    private static void spans() {
        rowIs("within 0 1 (# 'x') 'a b'", 0, "0+1/2:x 1/2+1/2:x");
        rowIs("within 1:4 1:2 (# 'x') 'a b c d'", 0, "0+1/4:a 1/4+1/4:x 1/2+1/4:c 3/4+1/4:d");
        rowIs("within 0 1:4 (# 'x') 'a b c d'", 0, "0+1/4:x 1/4+1/4:b 1/2+1/4:c 3/4+1/4:d");
        rowIs("within 3:4 1 (# 'x') 'a b c d'", 0, "0+1/4:a 1/4+1/4:b 1/2+1/4:c 3/4+1/4:x");
        rowIs("within 1:4 1:2 (late 1:4) 'a b c d'", 0, "0+1/4:a 1/4+1/4:a 1/2+1/4:c 3/4+1/4:d");
        rowIs("within 15:64 17:64 (# 'x') 'a b c d'", 0, "0+1/4:a 1/4+1/4:x 1/2+1/4:c 3/4+1/4:d");
        rowIs("within 1:3 2:3 (# 'x') 'a b c d'", 0, "0+1/4:a 1/4+1/4:b 1/2+1/4:x 3/4+1/4:d");
        rowIs("within 1:3 2:3 (# 'x') 'a b c d'", -1, "0+1/4:a 1/4+1/4:b 1/2+1/4:x 3/4+1/4:d");
        rowIs("within 1:2 1 (fast 2) 'a b'", 0, "0+1/2:a 1/2+1/4:a 3/4+1/4:b");
        rowIs("chunk 4 (# 'x') 'a b c d'", 0, "0+1/4:x 1/4+1/4:b 1/2+1/4:c 3/4+1/4:d");
        rowIs("chunk 4 (# 'x') 'a b c d'", 3, "0+1/4:a 1/4+1/4:b 1/2+1/4:c 3/4+1/4:x");
        rowIs("chunk 4 (# 'x') 'a b c d'", 4, "0+1/4:x 1/4+1/4:b 1/2+1/4:c 3/4+1/4:d");
        rowIs("chunk 4 (late 1:8) 'a b c d'", 0, "1/8+1/4:a 1/4+1/4:b 1/2+1/4:c 3/4+1/4:d");
        rowIs("chunk 4 (late 1:8) 'a b c d'", 1, "0+1/4:a 3/8+1/4:b 1/2+1/4:c 3/4+1/4:d");
        rowIs("chunk 3 (# 'x') 'a b c d'", 0, "0+1/4:x 1/4+1/4:x 1/2+1/4:c 3/4+1/4:d");
        rowIs("chunk 3 (# 'x') 'a b c d'", 1, "0+1/4:a 1/4+1/4:b 1/2+1/4:x 3/4+1/4:d");
        rowIs("chunk 3 (# 'x') 'a b c d'", 2, "0+1/4:a 1/4+1/4:b 1/2+1/4:c 3/4+1/4:x");
        rowIs("squeeze 0 1 'a b'", 0, "0+1/2:a 1/2+1/2:b");
        rowIs("squeeze 63:64 1 'a b'", 0, "63/64+1/128:a 127/128+1/128:b");
        rowIs("squeeze 0 1:64 'a b'", 0, "0+1/128:a 1/128+1/128:b");
        rowIs("squeeze 1:3 1:2 'a b'", 0, "1/3+1/12:a 5/12+1/12:b");
        rowIs("squeeze 0 1:2 (slow 2 'a')", 0, "0+1:a");
        rowIs("squeeze 0 1:2 (slow 2 'a')", 1, "");
        rowIs("squeeze 1:2 1 (late 1:2 'a')", 0, "3/4+1/2:a");
    }

    /** ply: of one BEGIN by the ORDER of those that they are of. */
    private static void plied() {
        rowIs("ply 2 '[a b,c]'", 0, "0+1/4:a 0+1/2:c 1/4+1/4:a 1/2+1/2:c 1/2+1/4:b 3/4+1/4:b");
        rowIs("ply 2 '[c,a b]'", 0, "0+1/2:c 0+1/4:a 1/4+1/4:a 1/2+1/2:c 1/2+1/4:b 3/4+1/4:b");
        rowIs("ply 2 ('b' & late 1:2 'a')", 0, "0+1/2:a 0+1/2:b 1/2+1/2:b 1/2+1/2:a");
        rowIs("ply 3 (slow 2 'a' & 'b')", 0, "0+2/3:a 0+1/3:b 1/3+1/3:b 2/3+2/3:a 2/3+1/3:b");
        rowIs("ply 3 (slow 2 'a' & 'b')", 1, "0+1/3:b 1/3+2/3:a 1/3+1/3:b 2/3+1/3:b");
        rowIs("ply 3 (slow 64 'a')", -43, "1/3+64/3:a");
        rowIs("ply 3 (slow 64 'a')", -22, "2/3+64/3:a");
        rowIs("ply 3 (slow 64 'a')", -1, "");
        rowIs("ply 3 (slow 64 'a')", 0, "0+64/3:a");
        rowIs("ply 3 (slow 64 'a')", 21, "1/3+64/3:a");
        rowIs("ply 3 (slow 64 'a')", 22, "");
        rowIs("ply 3 (slow 64 'a')", 42, "2/3+64/3:a");
        rowIs("ply 3 (slow 64 'a')", 43, "");
        rowIs("ply 3 (slow 64 'a')", 63, "");
        rowIs("ply 3 (slow 64 'a')", 64, "0+64/3:a");
        rowIs("ply 2 (late 1:2 (slow 40 'a'))", 0, "1/2+20:a");
        rowIs("ply 2 (late 1:2 (slow 40 'a'))", 20, "1/2+20:a");
        rowIs("ply 2 (late 1:2 (slow 40 'a'))", 40, "1/2+20:a");
        rowIs("ply 2 (late 1:2 (slow 40 'a'))", 60, "1/2+20:a");
    }

    /** P SOUNDS the last in the ORDER with BEGIN at most t and END above t. */
    private static void sounding() {
        rowIs("'a*4' # '1 ~ 2 ~'", 0, "0+1/4:a#1 1/4+1/4:a 1/2+1/4:a#2 3/4+1/4:a");
        rowIs("'a*2' # '[1,2 ~]'", 0, "0+1/2:a#2 1/2+1/2:a#1");
        rowIs("'a*2' # '[2 ~,1]'", 0, "0+1/2:a#1 1/2+1/2:a#1");
        rowIs("'a' # '[1,2]'", 0, "0+1:a#2");
        rowIs("'a' # (slow 3 '1 ~')", -3, "0+1:a#1");
        rowIs("'a' # (slow 3 '1 ~')", -2, "0+1:a#1");
        rowIs("'a' # (slow 3 '1 ~')", -1, "0+1:a");
        rowIs("'a' # (slow 3 '1 ~')", 0, "0+1:a#1");
        rowIs("'a' # (slow 3 '1 ~')", 1, "0+1:a#1");
        rowIs("'a' # (slow 3 '1 ~')", 2, "0+1:a");
        rowIs("'a' # (slow 3 '1 ~')", 3, "0+1:a#1");
        rowIs("'a' # (slow 64 '7')", 0, "0+1:a#7");
        rowIs("'a' # (slow 64 '7')", 1, "0+1:a#7");
        rowIs("'a' # (slow 64 '7')", 63, "0+1:a#7");
        rowIs("'a' # (slow 64 '7')", 64, "0+1:a#7");
        rowIs("'a' # (slow 64 '<7 ~>')", -128, "0+1:a#7");
        rowIs("'a' # (slow 64 '<7 ~>')", -65, "0+1:a#7");
        rowIs("'a' # (slow 64 '<7 ~>')", -64, "0+1:a");
        rowIs("'a' # (slow 64 '<7 ~>')", -1, "0+1:a");
        rowIs("'a' # (slow 64 '<7 ~>')", 0, "0+1:a#7");
        rowIs("'a' # (slow 64 '<7 ~>')", 63, "0+1:a#7");
        rowIs("'a' # (slow 64 '<7 ~>')", 64, "0+1:a");
        rowIs("'a' # (slow 64 '<7 ~>')", 127, "0+1:a");
        rowIs("'a' # (slow 64 '<7 ~>')", 128, "0+1:a#7");
        rowIs("'a' # (late 1:2 (slow 64 '<7 ~>'))", 0, "0+1:a");
        rowIs("'a' # (late 1:2 (slow 64 '<7 ~>'))", 1, "0+1:a#7");
        rowIs("'a' # (late 1:2 (slow 64 '<7 ~>'))", 64, "0+1:a#7");
        rowIs("'a' # (late 1:2 (slow 64 '<7 ~>'))", 65, "0+1:a");
        rowIs("'a*2' # (late 1:2 (slow 64 '<7 ~>'))", 0, "0+1/2:a 1/2+1/2:a#7");
        rowIs("'a*2' # (late 1:2 (slow 64 '<7 ~>'))", 64, "0+1/2:a#7 1/2+1/2:a");
        rowIs("'a*4' # (late 1:4 '1 2')", 0, "0+1/4:a#2 1/4+1/4:a#1 1/2+1/4:a#1 3/4+1/4:a#2");
        rowIs("'a*4' # (late 1:8 '1 2')", 0, "0+1/4:a#2 1/4+1/4:a#1 1/2+1/4:a#1 3/4+1/4:a#2");
        rowIs("'a*3' # '1 2'", 0, "0+1/3:a#1 1/3+1/3:a#1 2/3+1/3:a#2");
        rowIs("'a' # (slow 2 '1' & '~ 2')", 0, "0+1:a#1");
        rowIs("'a' # (slow 2 '1' & '~ 2')", 1, "0+1:a#1");
        rowIs("'a*2' # (slow 2 '1' & '2 ~')", 0, "0+1/2:a#2 1/2+1/2:a#1");
        rowIs("'a*2' # (slow 2 '1' & '2 ~')", 1, "0+1/2:a#2 1/2+1/2:a#1");
        rowIs("struct '1 0 -0 -1 b ~' 'x'", 0, "0+1/6:x 1/2+1/6:x 2/3+1/6:x");
        rowIs("struct ('a' # '0') 'x'", 0, "0+1:x");
        rowIs("struct '1*4' 'x ~ y ~'", 0, "0+1/4:x 1/2+1/4:y");
        rowIs("struct '1*2' '~'", 0, "");
        rowIs("struct '0' 'x'", 0, "");
        rowIs("struct '1' ('x' # '5')", 0, "0+1:x#5");
        rowIs("struct '1*2' (slow 64 (late 1:2 'x'))", 31, "0+1/2:x 1/2+1/2:x");
        rowIs("struct '1*2' (slow 64 (late 1:2 'x'))", 32, "0+1/2:x 1/2+1/2:x");
        rowIs("struct '1*2' (slow 64 (late 1:2 'x'))", 33, "0+1/2:x 1/2+1/2:x");
        rowIs("mask '1 0 -1 b ~' 'x*5'", 0, "0+1/5:x 2/5+1/5:x 3/5+1/5:x");
        rowIs("mask ('a' # '0') 'x'", 0, "0+1:x");
        rowIs("mask '0' 'x'", 0, "");
        rowIs("mask '[1,0]' 'x'", 0, "");
        rowIs("mask '[0,1]' 'x'", 0, "0+1:x");
        rowIs("mask '1 ~' 'x*4'", 0, "0+1/4:x 1/4+1/4:x");
        rowIs("mask '~ 1' 'x*4'", 0, "1/2+1/4:x 3/4+1/4:x");
        rowIs("mask '1' (slow 2 'x')", 0, "0+2:x");
        rowIs("mask '1' (slow 2 'x')", 1, "");
        rowIs("'a 1' # 'x'", 0, "0+1/2:x 1/2+1/2:x#1");
        rowIs("'a 1' # '5'", 0, "0+1/2:a#5 1/2+1/2:#5");
        rowIs("'a 1' # ('x' # '5')", 0, "0+1/2:x#5 1/2+1/2:x#5");
        rowIs("'a 1' # '~'", 0, "0+1/2:a 1/2+1/2:#1");
        rowIs("('a' # '1') # 'x'", 0, "0+1:x#1");
        rowIs("('a' # '1') # '0'", 0, "0+1:a#0");
    }

    /** NUMBERS have 32 bits, going round. */
    private static void numbers() {
        rowIs("'46340' * '46340'", 0, "0+1:#2147395600");
        rowIs("'46341' * '46341'", 0, "0+1:#-2147479015");
        rowIs("'-46341' * '46341'", 0, "0+1:#2147479015");
        rowIs("'46340' * '46340' + '88047'", 0, "0+1:#2147483647");
        rowIs("'46340' * '46340' + '88048'", 0, "0+1:#-2147483648");
        rowIs("'-46340' * '46340' - '88048'", 0, "0+1:#-2147483648");
        rowIs("'-46340' * '46340' - '88049'", 0, "0+1:#2147483647");
        rowIs("'65536' * '65536'", 0, "0+1:#0");
        rowIs("'65536' * '32768'", 0, "0+1:#-2147483648");
        rowIs("'65536' * '32768' - '1'", 0, "0+1:#2147483647");
        rowIs("'65536' * '32768' * '-1'", 0, "0+1:#-2147483648");
        rowIs("'999999' * '999999'", 0, "0+1:#-729379967");
        rowIs("'999999' + '999999'", 0, "0+1:#1999998");
        rowIs("'-999999' - '999999'", 0, "0+1:#-1999998");
        rowIs("'1' - '2'", 0, "0+1:#-1");
        rowIs("'0' - '0'", 0, "0+1:#0");
        rowIs("'5 a' + '1'", 0, "0+1/2:#6 1/2+1/2:a");
        rowIs("'5 a' + 'x'", 0, "0+1/2:#5 1/2+1/2:a");
        rowIs("'5' + '~'", 0, "0+1:#5");
        rowIs("'5' + ('x' # '1')", 0, "0+1:#6");
        rowIs("('a' # '5') - '7'", 0, "0+1:a#-2");
        rowIs("'5' * '0'", 0, "0+1:#0");
    }

    /** Of one BEGIN, the first ahead of the next. */
    private static void orders() {
        rowIs("'a' & 'b' & 'c'", 0, "0+1:a 0+1:b 0+1:c");
        rowIs("'[c,b,a]'", 0, "0+1:c 0+1:b 0+1:a");
        rowIs("'~ a' & 'b c' & 'd'", 0, "0+1/2:b 0+1:d 1/2+1/2:a 1/2+1/2:c");
        rowIs("off 0 (# 'x') 'a b'", 0, "0+1/2:a 0+1/2:x 1/2+1/2:b 1/2+1/2:x");
        rowIs("off 1 (# '5') '<a b>'", 0, "0+1:a 0+1:b#5");
        rowIs("off 1 (# '5') '<a b>'", 1, "0+1:b 0+1:a#5");
        rowIs("off 1:2 (# '5') 'a b'", 0, "0+1/2:a 0+1/2:b#5 1/2+1/2:b 1/2+1/2:a#5");
        rowIs("over (# 'x') 'a b'", 0, "0+1/2:a 0+1/2:x 1/2+1/2:b 1/2+1/2:x");
        rowIs("some 0 (# 'x') 'a*3'", 0, "0+1/3:a 1/3+1/3:a 2/3+1/3:a");
        rowIs("some 1000 (# 'x') 'a*3'", 0, "0+1/3:x 1/3+1/3:x 2/3+1/3:x");
        rowIs("drop 0 'a*3'", 0, "0+1/3:a 1/3+1/3:a 2/3+1/3:a");
        rowIs("drop 1000 'a*3'", 0, "");
        rowIs("keep 0 'a*3'", 0, "");
        rowIs("keep 1000 'a*3'", 0, "0+1/3:a 1/3+1/3:a 2/3+1/3:a");
        rowIs("late 1:2 'a' & 'b*2'", 0, "0+1/2:b 1/2+1:a 1/2+1/2:b");
    }

    /** The first and the last cycle that can be ASKED. */
    private static void farCycles() {
        rowIs("'<a b c>'", -1000, "0+1:c");
        rowIs("'<a b c>'", -999, "0+1:a");
        rowIs("'<a b c>'", 99999, "0+1:a");
        rowIs("'<a b c>'", 100000, "0+1:b");
        rowIs("'{a b c}%4'", -1000, "0+1/4:c 1/4+1/4:a 1/2+1/4:b 3/4+1/4:c");
        rowIs("'{a b c}%4'", 100000, "0+1/4:b 1/4+1/4:c 1/2+1/4:a 3/4+1/4:b");
        rowIs("every 32 (# 'x') 'a'", -992, "0+1:x");
        rowIs("every 32 (# 'x') 'a'", -1000, "0+1:a");
        rowIs("every 32 (# 'x') 'a'", 99999, "0+1:a");
        rowIs("every 32 (# 'x') 'a'", 100000, "0+1:x");
        rowIs("every 32 (# 'x') 'a'", 99968, "0+1:x");
        rowIs("slow 64 '<a b c>'", -960, "0+64:a");
        rowIs("slow 64 '<a b c>'", -1000, "");
        rowIs("slow 64 '<a b c>'", 99968, "0+64:c");
        rowIs("slow 64 '<a b c>'", 100000, "");
        rowIs("fast 64:63 '<a b c>'", -1000, "55/64+63/64:c");
        rowIs("fast 64:63 '<a b c>'", 100000, "11/16+63/64:c");
        rowIs("'a' # (slow 63 '<1 2 3>')", -1000, "0+1:a#3");
        rowIs("'a' # (slow 63 '<1 2 3>')", 100000, "0+1:a#1");
        rowIs("ply 2 (slow 63 '<1 2 3>')", -1000, "");
        rowIs("ply 2 (slow 63 '<1 2 3>')", -977, "1/2+63/2:#3");
        rowIs("ply 2 (slow 63 '<1 2 3>')", 99981, "0+63/2:#1");
        rowIs("ply 2 (slow 63 '<1 2 3>')", 100000, "");
        rowIs("late 64 '<a b c>'", -1000, "0+1:b");
        rowIs("late 64 '<a b c>'", 100000, "0+1:a");
        rowIs("drop 500 'a*5'", -1000, "");
        rowIs("drop 500 'a*5'", 100000, "0+1/5:a 1/5+1/5:a 2/5+1/5:a");
    }

    /** Times are exact where parts are by other numbers than one another. */
    private static void otherGrains() {
        rowIs("within 0 1:2 (struct '1*3') 'a b'", 0, "0+1/3:a 1/3+1/3:a 1/2+1/2:b");
        rowIs("within 1:2 1 (struct '1*3') 'a b'", 0, "0+1/2:a 2/3+1/3:b");
        rowIs("chunk 2 (struct '1*3') 'a b'", 0, "0+1/3:a 1/3+1/3:a 1/2+1/2:b");
        rowIs("chunk 2 (struct '1*3') 'a b'", 1, "0+1/2:a 2/3+1/3:b");
        rowIs("chunk 4 (struct '1*3') 'a b'", 0, "0+1/3:a 1/2+1/2:b");
        rowIs("chunk 4 (struct '1*3') 'a b'", 1, "0+1/2:a 1/3+1/3:a 1/2+1/2:b");
        rowIs("chunk 4 (struct '1*3') 'a b'", 2, "0+1/2:a 2/3+1/3:b");
        rowIs("chunk 4 (struct '1*3') 'a b'", 3, "0+1/2:a 1/2+1/2:b");
        rowIs("every 2 (struct '1*3') 'a b'", 0, "0+1/3:a 1/3+1/3:a 2/3+1/3:b");
        rowIs("every 2 (struct '1*3') 'a b'", 1, "0+1/2:a 1/2+1/2:b");
        rowIs("when 2 1 (struct '1*3') 'a b'", 0, "0+1/2:a 1/2+1/2:b");
        rowIs("when 2 1 (struct '1*3') 'a b'", 1, "0+1/3:a 1/3+1/3:a 2/3+1/3:b");
        rowIs("over (struct '1*3') 'a b'", 0, "0+1/2:a 0+1/3:a 1/3+1/3:a 1/2+1/2:b 2/3+1/3:b");
        rowIs("off 1:4 (struct '1*3') 'a b'", 0, "0+1/2:a 1/4+1/3:a 1/2+1/2:b 7/12+1/3:a 11/12+1/3:b");
        rowIs("some 1000 (struct '1*3') 'a b'", 0, "0+1/3:a 1/3+1/3:a 2/3+1/3:b");
        rowIs("some 500 (struct '1*3') 'a b'", 0, "0+1/2:a 2/3+1/3:b");
        rowIs("some 500 (struct '1*3') 'a b'", 1, "0+1/2:a 1/2+1/2:b");
        rowIs("some 500 (struct '1*3') 'a b'", 2, "0+1/3:a 1/3+1/3:a 1/2+1/2:b");
        rowIs("inside 2 (struct '1*3') 'a b'", 0, "0+1/6:a 1/6+1/6:a 1/3+1/6:a 1/2+1/6:b 2/3+1/6:b 5/6+1/6:b");
        rowIs("'[a b,c d e]' & '[f,g h i j k]'", 0, "0+1/2:a 0+1/3:c 0+1:f 0+1/5:g 1/5+1/5:h 1/3+1/3:d 2/5+1/5:i 1/2+1/2:b 3/5+1/5:j 2/3+1/3:e 4/5+1/5:k");
        rowIs("'<[a b] [c d e]>'", 0, "0+1/2:a 1/2+1/2:b");
        rowIs("'<[a b] [c d e]>'", 1, "0+1/3:c 1/3+1/3:d 2/3+1/3:e");
        rowIs("'a b' ; 'c d e'", 0, "0+1/2:a 1/2+1/2:b");
        rowIs("'a b' ; 'c d e'", 1, "0+1/3:c 1/3+1/3:d 2/3+1/3:e");
        rowIs("'{[a b] [c d e]}%2'", 0, "0+1/4:a 1/4+1/4:b 1/2+1/6:c 2/3+1/6:d 5/6+1/6:e");
        rowIs("'[a b] [c d e]'", 0, "0+1/4:a 1/4+1/4:b 1/2+1/6:c 2/3+1/6:d 5/6+1/6:e");
        rowIs("'[a b](2,3)'", 0, "0+1/6:a 1/6+1/6:b 2/3+1/6:a 5/6+1/6:b");
        rowIs("rev '[a b,c d e]'", 0, "0+1/2:b 0+1/3:e 1/3+1/3:d 1/2+1/2:a 2/3+1/3:c");
        rowIs("ply 2 '[a b,c d e]'", 0, "0+1/4:a 0+1/6:c 1/6+1/6:c 1/4+1/4:a 1/3+1/6:d 1/2+1/6:d 1/2+1/4:b 2/3+1/6:e 3/4+1/4:b 5/6+1/6:e");
    }

    /** The DRAW of an event with BEGIN c + x / y, as the document tells it. */
    private static int draw(int seed, int c, int x, int y, int besides) {
        int v = seed + 9973 * c + 7919 * x + 104729 * y + besides;
        v ^= v >>> 15;
        v *= 668265263;
        v ^= v >>> 13;
        return (v & ((1 << 20) - 1)) % 1000;
    }

    private static int askedOf(String exp, int seed, int c) {
        Check all = new Check().on(0, exp);
        all.x().seed(seed);
        return all.x().ask(0, c);
    }

    /** An event whose DRAW is d goes with drop d + 1, not with drop d; keep is the other way round. */
    private static void drawsBelow() {
        int[] cycles = {0, 1, -1, -1000, 99999, 100000};
        int[] numbers = {0, 1, -1, 12345, Integer.MIN_VALUE, Integer.MAX_VALUE};
        for (int c : cycles) {
            for (int seed : numbers) {
                int d = draw(seed, c, 0, 1, 0);
                String what = " with DRAW " + d + " in cycle " + c;
                Check.same("drop d" + what, askedOf("drop " + d + " 'a'", seed, c), 1);
                Check.same("drop d + 1" + what, askedOf("drop " + (d + 1) + " 'a'", seed, c), 0);
                Check.same("keep d" + what, askedOf("keep " + d + " 'a'", seed, c), 0);
                Check.same("keep d + 1" + what, askedOf("keep " + (d + 1) + " 'a'", seed, c), 1);
            }
        }
        int least = 1000;
        int most = -1;
        for (int seed = 0; seed < 20000; seed++) {
            int d = draw(seed, 0, 0, 1, 0);
            least = d == 0 && least != 0 ? edgeOfDraws(seed, 0) : least;
            most = d == 999 && most != 999 ? edgeOfDraws(seed, 999) : most;
        }
        Check.same("a DRAW of 0 and one of 999 were found", least == 0 && most == 999, true);
    }

    private static int edgeOfDraws(int seed, int d) {
        Check.same("drop " + d, askedOf("drop " + d + " 'a'", seed, 0), 1);
        Check.same("drop " + (d + 1), askedOf("drop " + (d + 1) + " 'a'", seed, 0), 0);
        Check.same("some " + d, askedOf("some " + d + " (mask '~') 'a'", seed, 0), 1);
        Check.same("some " + (d + 1), askedOf("some " + (d + 1) + " (mask '~') 'a'", seed, 0), 0);
        return d;
    }

    /** x / y in lowest terms, whatever the GRAIN is. */
    private static void drawsOfLowestTerms() {
        for (int x = 0; x < 12; x++) {
            int shared = x == 0 ? 12 : x % 6 == 0 ? 6 : x % 4 == 0 ? 4 : x % 3 == 0 ? 3 : x % 2 == 0 ? 2 : 1;
            int d = draw(7, 5, x / shared, 12 / shared, 0);
            String exp = x == 0 ? "'a ~@11'" : x == 11 ? "'~@11 a'" : "'~@" + x + " a ~@" + (11 - x) + "'";
            Check.same("drop of " + x + " / 12", askedOf("drop " + d + " " + exp, 7, 5), 1);
            Check.same("drop of " + x + " / 12", askedOf("drop " + (d + 1) + " " + exp, 7, 5), 0);
            String inGrain = "('~*7' & " + exp + ")";
            Check.same("keep of " + x + " / 12", askedOf("keep " + d + " " + inGrain, 7, 5), 0);
            Check.same("keep of " + x + " / 12", askedOf("keep " + (d + 1) + " " + inGrain, 7, 5), 1);
        }
    }

    /** The i-th ? of a TEXT has i * 1000003 besides, and drops below 500; its event begins where its own part does. */
    private static void questions() {
        String[] begins = {"0", "1/4", "1/2", "3/4"};
        for (int c = -3; c < 40; c++) {
            StringBuilder due = new StringBuilder();
            for (int i = 0; i < 4; i++) {
                if (draw(0, c, 0, 1, i * 1000003) >= 500) {
                    due.append(due.length() == 0 ? "" : " ").append(begins[i]).append("+1/4:a");
                }
            }
            rowIs("'a? a? a? a?'", c, due.toString());
            rowIs("'~ ~ ~ ~' & '[a? a?] [a? a?]' & '~'", c, due.toString());
            boolean both = draw(0, c, 0, 1, 0) >= 500 && draw(0, c, 0, 1, 1000003) >= 500;
            rowIs("'a??'", c, both ? "0+1:a" : "");
            boolean first = draw(0, c, 0, 1, 0) >= 500;
            rowIs("'a?' & 'b?'", c, first ? "0+1:a 0+1:b" : "");
        }
        int high = 0;
        for (int c = 0; c < 3000; c++) {
            int d = draw(0, c, 0, 1, 0);
            if (d == 499 || d == 500) {
                high |= d == 500 ? 1 : 2;
                rowIs("'a?'", c, d == 500 ? "0+1:a" : "");
            }
        }
        Check.same("DRAWS of 499 and 500 were found", high, 3);
    }

    private static void seeds() {
        Check all = new Check().on(0, "drop 500 'a'");
        for (int seed : new int[] {0, 1, -1, 2, 1000, Integer.MAX_VALUE, Integer.MIN_VALUE, 0}) {
            all.x().seed(seed);
            for (int c = 0; c < 10; c++) {
                Check.same("cycle " + c + " with seed " + seed, all.x().ask(0, c), draw(seed, c, 0, 1, 0) >= 500 ? 1 : 0);
            }
        }
        all.x().seed(5);
        int was = all.x().ask(0, 3);
        all.x().seed(6);
        Check.same("what was ASKED stays", all.x().event(0, 6), was == 1 ? 1 : -1);
        all.x().jump(0);
        Check.same("play draws with it, too", all.x().play(960), draw(6, 0, 0, 1, 0) >= 500 ? 1 : 0);
    }
}
