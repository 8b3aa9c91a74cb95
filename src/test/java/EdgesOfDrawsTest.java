import java.math.BigInteger;
import java.util.Arrays;

/** Each sentence on books burned, draws, books kept and counts that names a boundary (section 4, promises 22 to 26). */
public final class EdgesOfDrawsTest {
    private static final int BAD = -1, NO = -2, FULL = -3, NONE = -4;
    private static final Check check = new Check();

    public static void main(String[] args) {
        burnedRows();
        firstRow();
        burnedAsked();
        seeds();
        draws();
        whoLends();
        lendingInVain();
        inTheEnd();
        drawnAsked();
        twoKept();
        keepAsked();
        backAsked();
        countAsked();
        check.finish("EdgesOfDrawsTest");
    }

    private static void burnedRows() {
        says("BURNED: rows of n numbers (2 to 4) from 1 to m (1 to 12), none above the one behind it, s together (0 to 999): how many;");
        YearsLent x = new YearsLent();
        int[][] rows = {{2, 1, 2, 1}, {2, 1, 1, 0}, {2, 1, 3, 0}, {2, 12, 2, 1}, {2, 12, 24, 1}, {2, 12, 25, 0}, {2, 12, 13, 6},
            {2, 12, 12, 6}, {2, 12, 14, 6}, {2, 2, 3, 1}, {3, 1, 3, 1}, {3, 2, 4, 1}, {3, 3, 6, 2}, {3, 12, 36, 1},
            {3, 12, 37, 0}, {4, 1, 4, 1}, {4, 1, 3, 0}, {4, 12, 4, 1}, {4, 12, 3, 0}, {4, 12, 48, 1}, {4, 12, 49, 0},
            {4, 2, 6, 1}, {4, 3, 8, 3}, {2, 12, 0, 0}, {4, 12, 0, 0}, {4, 12, 999, 0}, {2, 1, 999, 0}};
        for (int[] c : rows) {
            due("burned(" + c[0] + ", " + c[1] + ", " + c[2] + ", -1)", x.burned(c[0], c[1], c[2], -1), c[3]);
        }
        int[][] bad = {{1, 1, 1}, {5, 1, 5}, {0, 1, 1}, {2, 0, 2}, {2, 13, 2}, {2, 1, -1}, {2, 1, 1000}, {-2, 1, 2}, {2, -1, 2}};
        for (int[] c : bad) {
            due("burned" + Arrays.toString(c), x.burned(c[0], c[1], c[2], -1), BAD);
            due("burned" + Arrays.toString(c), x.burned(c[0], c[1], c[2], 0), BAD);
        }
    }

    private static void firstRow() {
        says("the i-th of the first (the lower first one, then second, ..); none.");
        YearsLent x = new YearsLent();
        int[][] first = {{12, 2, 1, 1}, {12, 13, 1, 12}, {12, 14, 2, 12}, {12, 24, 12, 12}, {1, 2, 1, 1}, {12, 3, 1, 1, 1},
            {4, 7, 1, 2, 4}, {12, 36, 12, 12, 12}, {12, 26, 2, 12, 12}, {12, 25, 1, 12, 12}, {12, 4, 1, 1, 1, 1},
            {12, 16, 1, 1, 2, 12}, {12, 15, 1, 1, 1, 12}, {12, 38, 2, 12, 12, 12}, {12, 47, 11, 12, 12, 12},
            {12, 48, 12, 12, 12, 12}, {5, 13, 1, 2, 5, 5}};
        for (int[] c : first) {
            int n = c.length - 2;
            for (int i = 0; i < n; i++) {
                due("burned(" + n + ", " + c[0] + ", " + c[1] + ", " + i + ")", x.burned(n, c[0], c[1], i), c[i + 2]);
            }
        }
        for (int n = 2; n <= 4; n++) {
            for (int i = 0; i < n; i++) {
                due("too low", x.burned(n, 12, n - 1, i), NONE);
                due("too high", x.burned(n, 12, 12 * n + 1, i), NONE);
                due("0", x.burned(n, 12, 0, i), NONE);
                due("999", x.burned(n, 12, 999, i), NONE);
            }
        }
    }

    private static void burnedAsked() {
        says("`int burned(int n, int m, int s, int i)`: BURNED: how many (i = -1), the i-th of the first. NONE; BAD.");
        YearsLent x = new YearsLent();
        for (int n = 2; n <= 4; n++) {
            due("the last one", x.burned(n, 12, 12 * n, n - 1), 12);
            due("one too far", x.burned(n, 12, 12 * n, n), BAD);
            due("BAD ahead of NONE", x.burned(n, 12, 999, n), BAD);
        }
        for (int i : new int[] {-2, 4, Integer.MIN_VALUE, Integer.MAX_VALUE}) {
            due("burned(4, 12, 48, " + i + ")", x.burned(4, 12, 48, i), BAD);
        }
        for (int wrong : new int[] {Integer.MIN_VALUE, Integer.MAX_VALUE}) {
            due("n " + wrong, x.burned(wrong, 12, 48, 0), BAD);
            due("m " + wrong, x.burned(4, wrong, 48, 0), BAD);
            due("s " + wrong, x.burned(4, 12, wrong, 0), BAD);
        }
        due("how many of none", x.burned(2, 12, 999, -1), 0);
    }

    private static final String[] BOOKS = {"p50;p80;", "p40;p9;p70;r50;n1;", "p99;p99;p99;p99;p99;p99;r0;k1;n1;",
        "p30;p5;p60;p45;r99;k2;n1;", "p12;p60;p33;p8;p90;r75;k3;n1;", "p300;p200;p100;r20;n0;", "p90;p80;n2;", "p70;n1;"};

    private static int draw(long z, long t, long k) {
        BigInteger x = BigInteger.valueOf(7919 * z + 6151 * t + 3571 * k + 1);
        return x.multiply(x).mod(BigInteger.valueOf(65521)).intValue();
    }

    /** The draws, done by calls on books of their own. */
    private static YearsLent done(String books, int z, int n) {
        YearsLent x = Check.laid(books);
        int persons = x.count(0);
        for (int t = 0; t < n; t++) {
            x.lend(draw(z, t, 0) % persons, draw(z, t, 1) % persons, 1 + draw(z, t, 2) % 20, 1 + draw(z, t, 3) % 30);
            x.week();
        }
        return x;
    }

    private static int lostByAll(YearsLent x) {
        int all = 0;
        for (int i = 0; i < x.count(0); i++) {
            all += x.person(i, 1);
        }
        return all;
    }

    private static void asDone(String books, int z, int n) {
        YearsLent x = Check.laid(books);
        YearsLent y = done(books, z, n);
        String of = "of " + books + " drawn(" + z + ", " + n + ", ";
        due(of + "0)", x.drawn(z, n, 0), y.run(0, 0, 2));
        due(of + "1)", x.drawn(z, n, 1), lostByAll(y));
    }

    private static void seeds() {
        says("DRAWS by z (0 to 9999), from books as they are:");
        YearsLent x = new YearsLent();
        for (int z : new int[] {-1, 10000, Integer.MIN_VALUE, Integer.MAX_VALUE}) {
            due("drawn(" + z + ", 1, 0)", x.drawn(z, 1, 0), BAD);
            due("drawn(" + z + ", 60, 1)", x.drawn(z, 60, 1), BAD);
        }
        for (String books : BOOKS) {
            for (int z : new int[] {0, 1, 9998, 9999}) {
                asDone(books, z, 60);
            }
        }
        x = Check.laid("p50;p80;r50;n1;");
        x.lend(0, 1, 20, 2);
        x.lend(1, 0, 95, 9);
        x.week();
        due("2 LIVE", x.drawn(0, 1, 0), 2);
        int living = x.drawn(0, 60, 0);
        int lost = x.drawn(0, 60, 1);
        for (int t = 0; t < 60; t++) {
            x.lend(draw(0, t, 0) % 2, draw(0, t, 1) % 2, 1 + draw(0, t, 2) % 20, 1 + draw(0, t, 3) % 30);
            x.week();
        }
        due("from books as they are: how many LIVE", living, x.run(0, 0, 2));
        due("from books as they are: LOST by all", lost, lostByAll(x));
    }

    private static void draws() {
        says("DRAW(k) being (x times x) modulo 65521, x 7919 z, 6151 t, 3571 k and 1 together,");
        // Of z 9999, t 0 the squares are far beyond an int; of z 0, t 0 the first one is that of 1.
        for (int z = 0; z <= 9999; z += 101) {
            asDone(BOOKS[z % BOOKS.length], z, 1 + z % 60);
        }
        YearsLent x = Check.laid("p3;p50;r0;n1;");
        // 1, 48110, 47311, 65085: 1 lends 0 12 WEEKS, due in 16.
        due("who has 3 LIVES on by what is lent", x.drawn(0, 4, 0), 2);
        x = Check.laid("p1;p13;r0;n1;");
        due("it is lent ahead of the WEEK: 1 has 1 left, and is DEAD", x.drawn(0, 1, 0), 1);
        x = Check.laid("p1;p14;r0;n1;");
        due("it is lent ahead of the WEEK: 1 has 2 left", x.drawn(0, 1, 0), 2);
        x = Check.laid("p1;p12;r0;n1;");
        due("12 are not more than 12: 0 is DEAD", x.drawn(0, 1, 0), 1);
    }

    private static void whoLends() {
        says("PERSON DRAW(0) modulo how many there are LENDS to PERSON DRAW(1) modulo that: 1 and (DRAW(2) modulo 20) WEEKS,"
            + " due in 1 and (DRAW(3) modulo 30) WEEKS,");
        for (int persons = 1; persons <= 6; persons++) {
            StringBuilder books = new StringBuilder("r99;n1;");
            for (int i = 0; i < persons; i++) {
                books.append("p").append(4 + 3 * i).append(";");
            }
            for (int z = 0; z < 200; z += 7) {
                for (int n : new int[] {1, 2, 5, 9, 20}) {
                    asDone(books.toString(), z, n);
                }
            }
        }
    }

    private static void lendingInVain() {
        says("if that is not BAD, NO, FULL;");
        YearsLent x = Check.laid("p70;n1;");
        due("BAD: one alone, who lends to itself", x.drawn(0, 60, 0) * 100 + x.drawn(0, 60, 1), 100);
        x = Check.laid("p3;p50;r0;n2;");
        due("NO: nothing is lent to one who has 3", x.drawn(0, 3, 0), 1);
        x = Check.laid("p1;p50;r0;n1;");
        for (int k = 0; k < 8; k++) {
            x.lend(1, 0, 1, 50);
        }
        // 0 has 9 WEEKS; the first draws would lend it 12.
        for (int n = 1; n <= 9; n++) {
            due("FULL: " + n + " WEEKS go by", x.drawn(0, n, 0), n < 9 ? 2 : 1);
        }
        x = Check.laid("p1;p90;");
        x.week();
        due("BAD: one who is DEAD", x.drawn(0, 60, 0) * 100 + x.drawn(0, 60, 1), 100);
    }

    private static void inTheEnd() {
        says("then a WEEK goes by: how many LIVE in the end; LOST by all.");
        YearsLent x = Check.laid("p5;p60;p61;n2;");
        due("1 WEEK", x.drawn(7, 1, 0), 3);
        due("4 WEEKS", x.drawn(7, 4, 0), 3);
        due("5 WEEKS", x.drawn(7, 5, 0), 2);
        due("59 WEEKS", x.drawn(7, 59, 0), 2);
        due("60 WEEKS", x.drawn(7, 60, 0), 1);
        x = Check.laid("p50;p5;r50;n1;");
        x.lend(0, 1, 10, 1);
        x.lend(1, 0, 14, 2);
        due("LOST by 0 in the first WEEK", x.run(1, 0, 1), 15);
        due("LOST by all", x.drawn(0, 1, 1), 15);
        x.week();
        due("LOST ahead counts", x.drawn(0, 1, 1), 15);
        due("no WEEK has gone by but one", x.count(6), 1);
        due("LOANS stay", x.count(1), 1);
    }

    private static void drawnAsked() {
        says("`int drawn(int z, int n, int what)`: DRAWS: how many LIVE (what = 0), LOST of all (1). BAD.");
        YearsLent x = new YearsLent();
        for (int wrong : new int[] {-1, 2, Integer.MIN_VALUE, Integer.MAX_VALUE}) {
            due("drawn(0, 1, " + wrong + ")", x.drawn(0, 1, wrong), BAD);
        }
        check.says("for t from 0 to n less 1 (n 1 to 60):");
        for (int n : new int[] {0, 61, -1, Integer.MIN_VALUE, Integer.MAX_VALUE}) {
            due("drawn(0, " + n + ", 0)", x.drawn(0, n, 0), BAD);
            due("drawn(0, " + n + ", 1)", x.drawn(0, n, 1), BAD);
        }
        x = Check.laid("p1;p2;p60;p59;p61;n2;");
        due("n 1", x.drawn(0, 1, 0), 4);
        due("n 2", x.drawn(0, 2, 0), 3);
        due("n 60", x.drawn(0, 60, 0), 1);
        for (int n = 1; n <= 60; n++) {
            asDone(BOOKS[n % BOOKS.length], 60 - n, n);
        }
    }

    private static void twoKept() {
        says("KEPT are books (WEEKS, LOST, LOANS, how many went by): 2 at most.");
        YearsLent x = Check.laid("p50;p5;r50;n1;");
        x.lend(0, 1, 10, 1);
        due("keep()", x.keep(), 1);
        x.week();
        x.lend(0, 1, 8, 7);
        due("keep()", x.keep(), 2);
        due("a third", x.keep(), FULL);
        Check.weeks(x, 9);
        x.lend(0, 1, 3, 3);
        due("a third still", x.keep(), FULL);
        due("back()", x.back(), 1);
        // 15 were due, 1 had 14 and gave 13; then 8 were lent.
        books(x, 1, 44, 9, 2, 1);
        due("the LOAN", x.loan(0, 2) * 100 + x.loan(0, 3), 807);
        due("back()", x.back(), 0);
        books(x, 0, 40, 15, 0, 1);
        due("the LOAN", x.loan(0, 2) * 100 + x.loan(0, 3), 1001);
        due("there is room again", x.keep() * 10 + x.keep(), 12);
        due("a third", x.keep(), FULL);
    }

    private static void books(YearsLent x, int gone, int weeksOf0, int weeksOf1, int lost, int loans) {
        due("how many went by", x.count(6), gone);
        due("WEEKS of 0", x.person(0, 0), weeksOf0);
        due("WEEKS of 1", x.person(1, 0), weeksOf1);
        due("LOST by 0", x.person(0, 1), lost);
        due("LOANS", x.count(1), loans);
    }

    private static void keepAsked() {
        says("`int keep()`: KEPT: how many. FULL.");
        YearsLent x = new YearsLent();
        due("keep()", x.keep(), 1);
        due("the same again", x.keep(), 2);
        due("FULL", x.keep(), FULL);
        due("count(4)", x.count(4), 2);
        x.week();
        due("FULL", x.keep(), FULL);
        due("it is not KEPT", x.back() * 100 + x.person(0, 0), 150);
        due("one more", x.keep(), 2);
        due("all that can be UNDONE is as it was", x.count(3), 0);
    }

    private static void backAsked() {
        says("`int back()`: As KEPT last (it is KEPT no more then): how many are left. NO.");
        YearsLent x = Check.laid("p50;p80;");
        due("NO", x.back(), NO);
        x.week();
        due("NO", x.back(), NO);
        due("nothing is changed by that", x.count(6) * 10 + x.count(3), 11);
        x.keep();
        x.week();
        x.keep();
        Check.weeks(x, 3);
        x.tell(0, 1, 1, true);
        due("the last one first", x.back() * 100 + x.count(6), 102);
        due("it is KEPT no more", x.count(4), 1);
        due("TOLD stays", x.count(2), 1);
        due("THE TEXT stays", x.count(5), 8);
        due("then the other", x.back() * 100 + x.count(6), 1);
        due("NO", x.back(), NO);
        due("WEEKS", x.person(0, 0), 49);
        x.keep();
        x.week();
        x.undo();
        x.undo();
        due("undo() leaves what is KEPT", x.back(), 0);
    }

    private static void countAsked() {
        says("`int count(int what)`: How many: 0 PERSONS, 1 LOANS, 2 TOLD, 3 that can be UNDONE, 4 KEPT, 5 bytes of THE TEXT,"
            + " 6 WEEKS gone by. BAD.");
        YearsLent x = Check.laid("p50;p80;p9;r10;n1;");
        x.lend(0, 1, 5, 50);
        x.lend(1, 0, 5, 50);
        for (int k = 0; k < 3; k++) {
            x.tell(0, 1, 1, true);
        }
        Check.weeks(x, 20);
        x.keep();
        int[] counts = {3, 2, 3, 6, 1, 18, 20};
        for (int what = 0; what < counts.length; what++) {
            due("count(" + what + ")", x.count(what), counts[what]);
        }
        for (int wrong : new int[] {-1, 7, Integer.MIN_VALUE, Integer.MAX_VALUE}) {
            due("count(" + wrong + ")", x.count(wrong), BAD);
        }
        x.undo();
        due("WEEKS gone by, one UNDONE", x.count(6), 19);
        x.back();
        due("WEEKS gone by, as KEPT", x.count(6), 20);
    }

    private static void says(String words) {
        check.says(words);
    }

    private static void due(String call, long got, long want) {
        check.due(call, got, want);
    }
}
