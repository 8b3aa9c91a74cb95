import java.util.Arrays;

/** Each sentence on persons, loans and the notary that names a boundary (sections 1 and 2, promises 6 to 9). */
public final class EdgesOfLoansTest {
    private static final int BAD = -1, NO = -2, FULL = -3;
    private static final int[] WILD = {-1, Integer.MIN_VALUE, Integer.MAX_VALUE};
    private static final Check check = new Check();

    public static void main(String[] args) {
        livingAndDead();
        weeksLent();
        weeksTillDue();
        atOnce();
        interestIsCut();
        eightLoans();
        strictNotary();
        lenderOfStrict();
        laxNotary();
        silentNotary();
        lendingIfYes();
        personAsked();
        loanAsked();
        notaryAsked();
        lendAsked();
        check.finish("EdgesOfLoansTest");
    }

    private static void livingAndDead() {
        says("A PERSON LIVES, while it has a WEEK left; else it is DEAD.");
        YearsLent x = Check.laid("p1;p2;p3;n1;");
        due("all LIVE", x.run(0, 0, 2), 3);
        due("one with a WEEK left may be asked of", x.notary(0, 1, 1, 1), 0);
        due("one with a WEEK left may be lent to", x.notary(2, 0, 1, 1), 1);
        due("week()", x.week(), 2);
        due("WEEKS of 0", x.person(0, 0), 0);
        due("WEEKS of 1", x.person(1, 0), 1);
        due("one without may not be asked of", x.notary(0, 1, 1, 1), BAD);
        due("one without may not be lent to", x.notary(2, 0, 1, 1), BAD);
        due("week()", x.week(), 1);
        due("week()", x.week(), 0);
        due("week()", x.week(), 0);
    }

    private static void weeksLent() {
        says("I lends J n WEEKS (1 to 200),");
        YearsLent x = Check.laid("p999;p999;r0;");
        for (int n : new int[] {0, 201, -1, -200, Integer.MIN_VALUE, Integer.MAX_VALUE}) {
            due("notary(0, 1, " + n + ", 1)", x.notary(0, 1, n, 1), BAD);
            due("lend(0, 1, " + n + ", 1)", x.lend(0, 1, n, 1), BAD);
        }
        for (int n : new int[] {1, 2, 199, 200}) {
            due("notary(0, 1, " + n + ", 1)", x.notary(0, 1, n, 1), 1);
        }
        due("lend(0, 1, 1, 9)", x.lend(0, 1, 1, 9), 1);
        due("lend(0, 1, 200, 9)", x.lend(0, 1, 200, 9), 2);
        due("n of the first", x.loan(0, 2), 1);
        due("n of the second", x.loan(1, 2), 200);
    }

    private static void weeksTillDue() {
        says("due in d WEEKS (1 to 200):");
        YearsLent x = Check.laid("p999;p999;r0;");
        for (int d : new int[] {0, 201, -1, -200, Integer.MIN_VALUE, Integer.MAX_VALUE}) {
            due("notary(0, 1, 1, " + d + ")", x.notary(0, 1, 1, d), BAD);
            due("lend(0, 1, 1, " + d + ")", x.lend(0, 1, 1, d), BAD);
        }
        for (int d : new int[] {1, 2, 199, 200}) {
            due("notary(0, 1, 1, " + d + ")", x.notary(0, 1, 1, d), 1);
        }
        due("lend(0, 1, 5, 1)", x.lend(0, 1, 5, 1), 1);
        due("lend(0, 1, 6, 200)", x.lend(0, 1, 6, 200), 2);
        due("d of the first", x.loan(0, 3), 1);
        due("d of the second", x.loan(1, 3), 200);
    }

    private static void atOnce() {
        says("n go from I to J at once;");
        YearsLent x = Check.laid("p5;p1;p7;r99;n1;");
        due("lend(0, 1, 4, 9)", x.lend(0, 1, 4, 9), 1);
        due("WEEKS of I: one is left", x.person(0, 0), 1);
        due("WEEKS of J: without INTEREST", x.person(1, 0), 5);
        due("WEEKS of another", x.person(2, 0), 7);
        x = Check.laid("p999;p999;r0;");
        for (int k = 0; k < 4; k++) {
            x.lend(0, 1, 200, 9);
        }
        due("WEEKS of I", x.person(0, 0), 199);
        due("WEEKS of J may be more than 999", x.person(1, 0), 1799);
    }

    /** What J gives I in the end by one LOAN of n, J having enough. */
    private static int dueOf(int rate, int n) {
        YearsLent x = Check.laid("p999;p999;n1;r" + rate + ";");
        x.lend(0, 1, n, 1);
        x.week();
        return x.person(0, 0) - (999 - n - 1);
    }

    private static void interestIsCut() {
        says("DUE are n and INTEREST: n times R by 100, cut.");
        int[][] cases = {{0, 1, 1}, {0, 200, 200}, {1, 1, 1}, {1, 99, 99}, {1, 100, 101}, {1, 199, 200}, {1, 200, 202},
            {10, 9, 9}, {10, 10, 11}, {10, 19, 20}, {10, 20, 22}, {50, 1, 1}, {50, 2, 3}, {50, 3, 4}, {99, 1, 1},
            {99, 2, 3}, {99, 101, 200}, {99, 199, 396}, {99, 200, 398}};
        for (int[] c : cases) {
            due("DUE of " + c[1] + " at " + c[0], dueOf(c[0], c[1]), c[2]);
        }
        YearsLent x = Check.laid("p500;p500;r50;");
        x.lend(0, 1, 1, 1);
        x.lend(0, 1, 1, 1);
        x.week();
        due("each LOAN's own is cut: 1 and 1, not 3", x.person(0, 0), 499);
    }

    private static void eightLoans() {
        says("8 LOANS at most at a time, in the order in which they were made.");
        YearsLent x = Check.laid("p900;p900;r0;");
        for (int k = 0; k < 8; k++) {
            due("lend", x.lend(k % 2, 1 - k % 2, 11 + k, k == 2 ? 1 : 50 - k), k + 1);
        }
        due("a ninth", x.lend(0, 1, 1, 1), FULL);
        due("a ninth", x.lend(1, 0, 1, 1), FULL);
        due("how many", x.count(1), 8);
        due("WEEKS stay", x.person(0, 0), 904);
        order(x, 11, 12, 13, 14, 15, 16, 17, 18);
        x.week();
        due("one is no more", x.count(1), 7);
        order(x, 11, 12, 14, 15, 16, 17, 18);
        due("there is room again", x.lend(0, 1, 10, 50), 8);
        order(x, 11, 12, 14, 15, 16, 17, 18, 10);
        due("a ninth", x.lend(0, 1, 1, 1), FULL);
        due("who lent the third", x.loan(2, 0), 1);
        due("to whom", x.loan(2, 1), 0);
        due("when it is due", x.loan(2, 3), 46);
    }

    private static void order(YearsLent x, int... amounts) {
        for (int k = 0; k < amounts.length; k++) {
            due("n of " + k, x.loan(k, 2), amounts[k]);
        }
        due("one more", x.loan(amounts.length, 2), BAD);
    }

    private static void strictNotary() {
        says("STRICT says yes, if J's WEEKS and n, less d, less all that is DUE from J by LOANS that are due in d WEEKS or fewer,"
            + " are more than what would be DUE by this one,");
        YearsLent x = Check.laid("p999;p100;r10;");
        due("100 and 50 less 94 are 56, more than 55", x.notary(0, 1, 50, 94), 1);
        due("100 and 50 less 95 are 55", x.notary(0, 1, 50, 95), 0);
        due("100 and 50 less 96", x.notary(0, 1, 50, 96), 0);
        x = Check.laid("p999;p60;r10;");
        x.lend(0, 1, 50, 20);
        x.lend(0, 1, 50, 20);
        x.lend(1, 0, 100, 10);
        due("WEEKS of J", x.person(1, 0), 60);
        due("LOANS due later than d do not count", x.notary(0, 1, 10, 19), 1);
        due("LOANS due in d count", x.notary(0, 1, 10, 20), 0);
        due("LOANS due in fewer than d count", x.notary(0, 1, 10, 21), 0);
        due("nor do they count for another", x.notary(1, 0, 10, 21), 1);
        x.week();
        due("a WEEK later: due later than d", x.notary(0, 1, 10, 18), 1);
        due("a WEEK later: due in d", x.notary(0, 1, 10, 19), 0);
        x = Check.laid("p999;p99;p99;r50;");
        x.lend(0, 1, 30, 40);
        x.lend(2, 1, 20, 41);
        due("149 and 10 less 40 less 45 are 74", x.notary(2, 1, 10, 40), 1);
        due("149 and 10 less 41 less 75 are 43", x.notary(2, 1, 10, 41), 1);
        due("149 and 10 less 68 less 75 are 16, more than 15", x.notary(0, 1, 10, 68), 1);
        due("149 and 10 less 69 less 75 are 15", x.notary(0, 1, 10, 69), 0);
        otherLoansDoNotCount();
        x = Check.laid("p999;p1;r0;");
        due("1 and 200 less 1 are 200", x.notary(0, 1, 200, 1), 0);
        x = Check.laid("p999;p2;r0;");
        due("2 and 200 less 1 are 201", x.notary(0, 1, 200, 1), 1);
    }

    private static void otherLoansDoNotCount() {
        for (int borrower = 0; borrower < 3; borrower++) {
            YearsLent x = Check.laid("p100;p100;p100;p999;r50;");
            for (int other = 0; other < 3; other++) {
                x.lend(3, other, 20, 10);
                x.lend(3, other, 10, 80);
            }
            due(borrower + " has", x.person(borrower, 0), 130);
            due(borrower + ": 130 and 41 less 79 less 30 are 62, more than 61", x.notary(3, borrower, 41, 79), 1);
            due(borrower + ": 130 and 42 less 79 less 30 are 63", x.notary(3, borrower, 42, 79), 0);
            due(borrower + ": 130 and 9 less 80 less 45 are 14, more than 13", x.notary(3, borrower, 9, 80), 1);
            due(borrower + ": 130 and 10 less 80 less 45 are 15", x.notary(3, borrower, 10, 80), 0);
        }
    }

    private static void lenderOfStrict() {
        says("and I's WEEKS are more than n;");
        YearsLent x = Check.laid("p5;p999;r0;");
        due("5 are more than 4", x.notary(0, 1, 4, 1), 1);
        due("5 are not more than 5", x.notary(0, 1, 5, 1), 0);
        due("5 are not more than 6", x.notary(0, 1, 6, 1), 0);
        x.week();
        due("a WEEK later", x.notary(0, 1, 4, 1), 0);
        due("one with one WEEK can't lend", Check.laid("p1;p999;r0;").notary(0, 1, 1, 1), 0);
    }

    private static void laxNotary() {
        says("LAX, if I's WEEKS are more than n;");
        YearsLent x = Check.laid("p5;p1;r99;n1;");
        due("5 are more than 4, whatever J has", x.notary(0, 1, 4, 200), 1);
        due("5 are not more than 5", x.notary(0, 1, 5, 1), 0);
        due("5 are not more than 200", x.notary(0, 1, 200, 1), 0);
        due("1 is not more than 1", x.notary(1, 0, 1, 1), 0);
        due("lend", x.lend(0, 1, 4, 200), 1);
        due("NO", x.lend(0, 1, 1, 200), NO);
    }

    private static void silentNotary() {
        says("SILENT never.");
        YearsLent x = Check.laid("p999;p999;r0;n2;");
        due("notary", x.notary(0, 1, 1, 1), 0);
        due("notary", x.notary(1, 0, 200, 200), 0);
        due("lend", x.lend(0, 1, 1, 1), NO);
        due("BAD all the same", x.notary(0, 0, 1, 1), BAD);
        due("no LOAN", x.count(1), 0);
    }

    private static void lendingIfYes() {
        says("To LEND makes that LOAN, if he says yes.");
        YearsLent x = Check.laid("p50;p20;r0;");
        due("he says no", x.notary(0, 1, 10, 20), 0);
        due("NO", x.lend(0, 1, 10, 20), NO);
        due("no LOAN", x.count(1), 0);
        due("WEEKS of I stay", x.person(0, 0), 50);
        due("WEEKS of J stay", x.person(1, 0), 20);
        due("nothing to be UNDONE", x.count(3), 0);
        due("he says yes", x.notary(0, 1, 10, 19), 1);
        due("asking makes no LOAN", x.count(1), 0);
        due("lend", x.lend(0, 1, 10, 19), 1);
        int[] loan = {0, 1, 10, 19};
        for (int what = 0; what < 4; what++) {
            due("loan(0, " + what + ")", x.loan(0, what), loan[what]);
        }
    }

    private static void personAsked() {
        says("`int person(int i, int what)`: Of a PERSON: WEEKS (what = 0), LOST (1), what it OWES all (2). BAD.");
        YearsLent x = Check.laid("p90;p1;p50;r50;n1;");
        x.lend(0, 1, 10, 3);
        x.lend(2, 1, 20, 9);
        x.lend(0, 1, 5, 9);
        x.lend(1, 2, 30, 9);
        int[][] then = {{75, 0, 0}, {6, 0, 35}, {60, 0, 30}};
        states(x, then);
        Check.weeks(x, 3);
        // 1 has 3 when 15 are due, and gives 2.
        int[][] later = {{74, 13, 0}, {1, 0, 25}, {57, 0, 30}};
        states(x, later);
        x.week();
        due("one who is DEAD may be asked of", x.person(1, 0), 0);
        due("and OWES still", x.person(1, 2), 25);
        for (int wrong : new int[] {3, 6, -1, Integer.MIN_VALUE, Integer.MAX_VALUE}) {
            due("person(" + wrong + ", 0)", x.person(wrong, 0), BAD);
            due("person(" + wrong + ", 2)", x.person(wrong, 2), BAD);
            due("person(0, " + wrong + ")", x.person(0, wrong), BAD);
        }
    }

    private static void states(YearsLent x, int[][] want) {
        for (int i = 0; i < want.length; i++) {
            for (int what = 0; what < 3; what++) {
                due("person(" + i + ", " + what + ")", x.person(i, what), want[i][what]);
            }
        }
    }

    private static void loanAsked() {
        says("`int loan(int k, int what)`: Of a LOAN (by its place): who lent (what = 0), to whom (1), n (2),"
            + " in how many WEEKS it is due (3). BAD.");
        YearsLent x = new YearsLent();
        due("loan(0, 0) of none", x.loan(0, 0), BAD);
        x = Check.laid("p900;p900;p900;r0;");
        for (int k = 0; k < 8; k++) {
            due("no place " + k + " yet", x.loan(k, 0), BAD);
            x.lend(k % 3, (k + 1) % 3, k + 1, k + 10);
        }
        for (int k = 0; k < 8; k++) {
            int[] loan = {k % 3, (k + 1) % 3, k + 1, k + 10};
            for (int what = 0; what < 4; what++) {
                due("loan(" + k + ", " + what + ")", x.loan(k, what), loan[what]);
            }
        }
        due("loan(8, 0)", x.loan(8, 0), BAD);
        due("loan(0, 4)", x.loan(0, 4), BAD);
        for (int wrong : WILD) {
            due("loan(" + wrong + ", 0)", x.loan(wrong, 0), BAD);
            due("loan(0, " + wrong + ")", x.loan(0, wrong), BAD);
        }
    }

    private static void notaryAsked() {
        says("`int notary(int i, int j, int n, int d)`: The NOTARY, asked: yes 1, 0. BAD (one PERSON twice, one who is DEAD, too).");
        YearsLent x = Check.laid("p50;p80;p1;r0;n1;");
        due("yes", x.notary(0, 1, 49, 1), 1);
        due("no", x.notary(0, 1, 50, 1), 0);
        for (int i = 0; i < 3; i++) {
            due("one PERSON twice", x.notary(i, i, 1, 1), BAD);
        }
        for (int wrong : new int[] {3, 6, -1, Integer.MIN_VALUE, Integer.MAX_VALUE}) {
            due("I is " + wrong, x.notary(wrong, 0, 1, 1), BAD);
            due("J is " + wrong, x.notary(0, wrong, 1, 1), BAD);
            due("both are", x.notary(wrong, wrong, 1, 1), BAD);
        }
        x.week();
        due("I is DEAD", x.notary(2, 0, 1, 1), BAD);
        due("J is DEAD", x.notary(0, 2, 1, 1), BAD);
        due("the only one there is", Check.laid("p50;").notary(0, 0, 1, 1), BAD);
    }

    private static void lendAsked() {
        says("`int lend(int i, int j, int n, int d)`: LEND: how many LOANS there are. BAD; NO: he says no; FULL.");
        YearsLent x = Check.laid("p9;p900;p1;r0;n1;");
        x.week();
        int[][] bad = {{0, 0, 1, 1}, {1, 1, 1, 1}, {3, 0, 1, 1}, {0, 3, 1, 1}, {-1, 0, 1, 1}, {0, -1, 1, 1}, {2, 0, 1, 1},
            {0, 2, 1, 1}, {0, 1, 0, 1}, {0, 1, 201, 1}, {0, 1, 1, 0}, {0, 1, 1, 201}};
        refused(x, bad);
        for (int k = 1; k <= 7; k++) {
            due("lend", x.lend(0, 1, 1, 100), k);
        }
        due("NO: 1 is not more than 1", x.lend(0, 1, 1, 100), NO);
        due("the eighth", x.lend(1, 0, 1, 100), 8);
        due("FULL", x.lend(0, 1, 1, 100), FULL);
        due("NO ahead of FULL", x.lend(0, 1, 2, 100), NO);
        refused(x, bad);
        due("nothing is changed by those", x.count(1) * 100 + x.count(3), 806);
    }

    private static void refused(YearsLent x, int[][] bad) {
        for (int[] c : bad) {
            due("lend" + Arrays.toString(c), x.lend(c[0], c[1], c[2], c[3]), BAD);
        }
    }

    private static void says(String words) {
        check.says(words);
    }

    private static void due(String call, long got, long want) {
        check.due(call, got, want);
    }
}
