/** Promises 22 to 26: books burned, draws, books kept, counts. */
public final class DrawsTest {
    private static final Check check = new Check();

    public static void main(String[] args) {
        burnedBooks();
        burnedByTrying();
        draws();
        keeping();
        counts();
        check.finish("DrawsTest");
    }

    private static void burnedBooks() {
        YearsLent x = new YearsLent();
        due("124, 133, 223", x.burned(3, 4, 7, -1), 3);
        int[] first = {1, 2, 4};
        for (int i = 0; i < 3; i++) {
            due("burned(3, 4, 7, " + i + ")", x.burned(3, 4, 7, i), first[i]);
        }
        due("burned(3, 4, 7, 3)", x.burned(3, 4, 7, 3), YearsLent.BAD);
        due("burned(2, 12, 0, -1)", x.burned(2, 12, 0, -1), 0);
        due("burned(2, 12, 0, 0)", x.burned(2, 12, 0, 0), YearsLent.NONE);
        due("burned(4, 12, 999, -1)", x.burned(4, 12, 999, -1), 0);
        due("burned(4, 12, 999, 3)", x.burned(4, 12, 999, 3), YearsLent.NONE);
        due("BAD ahead of NONE", x.burned(2, 12, 999, 2), YearsLent.BAD);
        int[][] bad = {{1, 1, 1, -1}, {5, 1, 1, -1}, {2, 0, 2, -1}, {2, 13, 2, -1}, {2, 1, -1, -1}, {2, 1, 1000, -1},
            {2, 1, 2, -2}, {2, 1, 2, 2}, {4, 1, 4, 4}, {Integer.MAX_VALUE, 1, 1, 0}, {2, Integer.MAX_VALUE, 1, 0},
            {2, 1, Integer.MIN_VALUE, 0}, {2, 1, 2, Integer.MAX_VALUE}};
        for (int[] c : bad) {
            due("burned" + java.util.Arrays.toString(c), x.burned(c[0], c[1], c[2], c[3]), YearsLent.BAD);
        }
    }

    private static void burnedByTrying() {
        YearsLent x = new YearsLent();
        for (int n = 2; n <= 4; n++) {
            for (int m = 1; m <= 12; m++) {
                for (int s = 0; s <= 49; s++) {
                    int[] first = new int[n];
                    due("burned(" + n + ", " + m + ", " + s + ", -1)", x.burned(n, m, s, -1), tried(n, m, s, first));
                    for (int i = 0; i < n; i++) {
                        due("burned(" + n + ", " + m + ", " + s + ", " + i + ")", x.burned(n, m, s, i),
                            first[0] == 0 ? YearsLent.NONE : first[i]);
                    }
                    // An object is used for 512 calls at most.
                    x = new YearsLent();
                }
            }
        }
    }

    private static int tried(int n, int m, int s, int[] first) {
        int rows = 0;
        int all = (int) Math.pow(m, n);
        for (int code = 0; code < all; code++) {
            int[] row = new int[n];
            int rest = code;
            int sum = 0;
            boolean rising = true;
            for (int p = n - 1; p >= 0; p--) {
                row[p] = rest % m + 1;
                rest /= m;
                sum += row[p];
                rising &= p == n - 1 || row[p] <= row[p + 1];
            }
            if (rising && sum == s) {
                if (rows == 0) {
                    System.arraycopy(row, 0, first, 0, n);
                }
                rows++;
            }
        }
        return rows;
    }

    private static void draws() {
        YearsLent x = Check.laid("p3;p50;r0;n1;");
        // z 0, t 0: squares of 1, 3572, 7143, 10714 modulo 65521 are 1, 48110, 47311, 65085: 1 lends 0 12, due in 16.
        due("0 lives on what is lent", x.drawn(0, 4, 0), 2);
        due("drawn(0, 1, 1)", x.drawn(0, 1, 1), 0);
        due("nothing is done by asking", x.count(1) * 100 + x.person(0, 0), 3);
        x = Check.laid("p3;p50;r0;n2;");
        due("SILENT: 0 dies", x.drawn(0, 4, 0), 1);
        due("SILENT: 0 dies", x.drawn(9999, 2, 0), 2);
        due("SILENT: all die", x.drawn(9999, 60, 0), 0);
        x = Check.laid("p50;p5;r50;n1;");
        x.lend(0, 1, 10, 1);
        x.week();
        due("LOST so far", x.person(0, 1), 2);
        due("LOST so far counts", x.drawn(0, 1, 1), 2);
        x = new YearsLent();
        for (int z : new int[] {-1, 10000, Integer.MIN_VALUE, Integer.MAX_VALUE}) {
            due("drawn(" + z + ", 1, 0)", x.drawn(z, 1, 0), YearsLent.BAD);
        }
        for (int n : new int[] {0, -1, 61, Integer.MIN_VALUE, Integer.MAX_VALUE}) {
            due("drawn(0, " + n + ", 0)", x.drawn(0, n, 0), YearsLent.BAD);
        }
        due("drawn(0, 1, 2)", x.drawn(0, 1, 2), YearsLent.BAD);
        due("drawn(0, 1, -1)", x.drawn(0, 1, -1), YearsLent.BAD);
    }

    private static void keeping() {
        YearsLent x = Check.laid("p50;p5;r50;n1;");
        due("back()", x.back(), YearsLent.NO);
        x.lend(0, 1, 10, 1);
        due("keep()", x.keep(), 1);
        x.week();
        due("LOST", x.person(0, 1), 2);
        due("keep()", x.keep(), 2);
        Check.weeks(x, 3);
        x.tell(0, 1, 1, true);
        due("keep()", x.keep(), YearsLent.FULL);
        due("keep() does not end what can be UNDONE", x.count(3), 5);
        due("back()", x.back(), 1);
        due("WEEKS gone by", x.count(6), 1);
        due("WEEKS", x.person(0, 0), 52);
        due("LOST", x.person(0, 1), 2);
        due("none of those ahead of back()", x.undo(), YearsLent.NO);
        due("TOLD stays", x.count(2), 1);
        x.week();
        due("undo() of one behind back()", x.undo(), 0);
        due("back()", x.back(), 0);
        due("WEEKS", x.person(0, 0), 40);
        due("LOST", x.person(0, 1), 0);
        due("LOANS", x.count(1), 1);
        due("loan(0, 3)", x.loan(0, 3), 1);
        x.week();
        due("back() in vain", x.back(), YearsLent.NO);
        due("ends nothing that can be UNDONE", x.count(3), 1);
        due("keep() again", x.keep(), 1);
    }

    private static void counts() {
        YearsLent x = Check.laid("p50;p80;p9;r10;");
        x.lend(0, 1, 5, 5);
        x.lend(1, 0, 5, 5);
        x.week();
        x.tell(0, 1, 1, true);
        x.keep();
        int[] due = {3, 2, 1, 3, 1, 15, 1};
        for (int what = 0; what < due.length; what++) {
            due("count(" + what + ")", x.count(what), due[what]);
        }
        Check.weeks(x, 20);
        due("PERSONS are so, DEAD ones too", x.count(0), 3);
        due("WEEKS gone by", x.count(6), 21);
        for (int wrong : new int[] {-1, 7, Integer.MIN_VALUE, Integer.MAX_VALUE}) {
            due("count(" + wrong + ")", x.count(wrong), YearsLent.BAD);
        }
    }

    private static void due(String call, long got, long want) {
        check.due(call, got, want);
    }
}
