import java.util.Arrays;

/** Each sentence on rings, children and falls that names a boundary (section 3, promises 19 to 21). */
public final class EdgesOfRingsTest {
    private static final int BAD = -1, NO = -2, NONE = -4;
    private static final int[] WILD = {-1, -2, 6, Integer.MIN_VALUE, Integer.MAX_VALUE};
    private static final Check check = new Check();

    public static void main(String[] args) {
        owing();
        ringsOfTwoToSix();
        shortestFirst();
        firstByItsRow();
        againAndAgain();
        howMuchGoesOff();
        clearedAsked();
        worths();
        givenAndCut();
        restsAndTies();
        nothingByAsking();
        allItHas();
        childAsked();
        loansWithLess();
        deadEarlier();
        deadFirst();
        fallsAsked();
        check.finish("EdgesOfRingsTest");
    }

    /** Each debt is who OWES, whom, how much. */
    private static YearsLent owed(int[]... debts) {
        YearsLent x = Check.laid("p900;p900;p900;p900;p900;p900;r50;");
        for (int[] debt : debts) {
            if (x.lend(debt[1], debt[0], debt[2], 50) < 1) {
                throw new IllegalArgumentException("can't be lent: " + Arrays.toString(debt));
            }
        }
        return x;
    }

    private static int[] debt(int who, int whom, int howMuch) {
        return new int[] {who, whom, howMuch};
    }

    private static void owing() {
        says("I OWES J the n of all LOANS that J lent to I.");
        YearsLent x = owed(debt(0, 1, 10), debt(0, 1, 7), debt(0, 2, 5), debt(2, 1, 3));
        due("0 OWES 1 by two LOANS, without INTEREST", x.cleared(0, 1), 17);
        due("1 OWES 0", x.cleared(1, 0), 0);
        due("0 OWES 2", x.cleared(0, 2), 5);
        due("0 OWES all", x.person(0, 2), 22);
        due("2 OWES all", x.person(2, 2), 3);
        due("1 OWES all", x.person(1, 2), 0);
        Check.weeks(x, 49);
        due("a WEEK ahead of what is due", x.cleared(0, 1), 17);
        x.week();
        due("LOANS that are no more are not OWED", x.cleared(0, 1), 0);
    }

    private static void ringsOfTwoToSix() {
        says("A ring are unlike PERSONS (2 or more) each of whom OWES the next one, the last one the first.");
        due("one debt is no ring", owed(debt(0, 1, 10)).cleared(-1, -1), 0);
        due("two", owed(debt(0, 1, 10), debt(1, 0, 4)).cleared(-1, -1), 8);
        due("a row that does not come back", owed(debt(0, 1, 9), debt(1, 2, 9), debt(2, 3, 9)).cleared(-1, -1), 0);
        due("two ways to one are no ring", owed(debt(0, 1, 9), debt(1, 2, 9), debt(0, 2, 9)).cleared(-1, -1), 0);
        for (int length = 2; length <= 6; length++) {
            for (int turn = -1; turn <= 1; turn += 2) {
                int[][] debts = new int[length][];
                for (int p = 0; p < length; p++) {
                    debts[p] = debt(5 - p, 5 - (p + length + turn) % length, 20 + p);
                }
                YearsLent x = owed(debts);
                due("a ring of " + length, x.cleared(-1, -1), 20 * length);
                due("the least of it", x.cleared(debts[0][0], debts[0][1]), 0);
                due("the greatest of it", x.cleared(debts[length - 1][0], debts[length - 1][1]), length - 1);
            }
        }
        due("unlike PERSONS: 0 1 2 1 is none", owed(debt(0, 1, 5), debt(1, 2, 5), debt(2, 1, 5)).cleared(0, 1), 5);
    }

    private static void shortestFirst() {
        says("CLEARED: of the shortest ring,");
        YearsLent x = owed(debt(0, 1, 10), debt(1, 2, 10), debt(2, 0, 10), debt(2, 1, 4));
        due("two ahead of three: 4 each, then 6 each", x.cleared(-1, -1), 4 * 2 + 6 * 3);
        due("0 OWES 1", x.cleared(0, 1), 4);
        due("1 OWES 2", x.cleared(1, 2), 0);
        x = owed(debt(0, 1, 9), debt(1, 2, 9), debt(2, 3, 9), debt(3, 0, 9), debt(3, 4, 9), debt(4, 2, 9));
        due("three of 2 3 4 ahead of four of 0 1 2 3", x.cleared(-1, -1), 27);
        due("3 OWES 0 still", x.cleared(3, 0), 9);
    }

    private static void firstByItsRow() {
        says("of several the first by its PERSONS in a row (the lowest of them first in it),");
        YearsLent x = owed(debt(0, 2, 6), debt(2, 3, 6), debt(0, 1, 5), debt(1, 3, 5), debt(3, 0, 7));
        due("0 1 3 ahead of 0 2 3: 0 OWES 1", x.cleared(0, 1), 0);
        due("0 OWES 2", x.cleared(0, 2), 4);
        due("in all", x.cleared(-1, -1), 5 * 3 + 2 * 3);
        x = owed(debt(5, 4, 6), debt(4, 1, 6), debt(1, 5, 6), debt(4, 0, 6), debt(0, 5, 6));
        due("0 5 4 ahead of 1 5 4: 0 OWES 5", x.cleared(0, 5), 0);
        due("1 OWES 5", x.cleared(1, 5), 6);
        due("in all", x.cleared(-1, -1), 18);
        x = owed(debt(0, 4, 6), debt(4, 3, 6), debt(3, 0, 6), debt(4, 2, 6), debt(2, 0, 6));
        due("0 4 2 ahead of 0 4 3: 2 OWES 0", x.cleared(2, 0), 0);
        due("3 OWES 0", x.cleared(3, 0), 6);
        x = owed(debt(3, 1, 6), debt(1, 2, 6), debt(2, 3, 6), debt(2, 0, 6), debt(0, 1, 6));
        due("0 1 2 ahead of 1 2 3: 0 OWES 1", x.cleared(0, 1), 0);
        due("3 OWES 1", x.cleared(3, 1), 6);
    }

    private static void againAndAgain() {
        says("the least that is OWED in it goes off all that is OWED in it; again and again, till no ring is left:");
        YearsLent x = owed(debt(0, 1, 10), debt(1, 0, 3), debt(2, 3, 8), debt(3, 2, 8), debt(4, 5, 1), debt(5, 4, 200));
        due("three rings of two", x.cleared(-1, -1), 6 + 16 + 2);
        int[][] left = {{0, 1, 7}, {1, 0, 0}, {2, 3, 0}, {3, 2, 0}, {4, 5, 0}, {5, 4, 199}};
        for (int[] debt : left) {
            due(debt[0] + " OWES " + debt[1], x.cleared(debt[0], debt[1]), debt[2]);
        }
        x = owed(debt(0, 1, 4), debt(1, 0, 1), debt(1, 2, 9), debt(2, 1, 1), debt(2, 3, 9), debt(3, 2, 1), debt(3, 0, 9),
            debt(0, 3, 1));
        due("four rings of two, then one of four", x.cleared(-1, -1), 4 * 2 + 3 * 4);
        due("0 OWES 1", x.cleared(0, 1), 0);
        due("3 OWES 0", x.cleared(3, 0), 5);
        due("the least is as great as another", owed(debt(0, 1, 5), debt(1, 0, 5)).cleared(0, 1), 0);
    }

    private static void howMuchGoesOff() {
        says("how much goes off in all (that least times how many are in the ring, each time); what I OWES J then (LOANS stay as they are).");
        YearsLent x = owed(debt(0, 1, 200), debt(1, 2, 199), debt(2, 0, 198));
        due("198 of three", x.cleared(-1, -1), 594);
        due("again", x.cleared(-1, -1), 594);
        due("0 OWES 1", x.cleared(0, 1), 2);
        due("1 OWES 2", x.cleared(1, 2), 1);
        due("2 OWES 0", x.cleared(2, 0), 0);
        due("LOANS stay", x.count(1), 3);
        due("n stays", x.loan(0, 2), 200);
        due("what one OWES all stays", x.person(2, 2), 198);
        due("no LOANS", new YearsLent().cleared(-1, -1), 0);
    }

    private static void clearedAsked() {
        says("`int cleared(int i, int j)`: CLEARED: in all (i and j -1), what I OWES J then (0 to itself). BAD.");
        YearsLent x = owed(debt(0, 1, 10), debt(1, 0, 4));
        due("in all", x.cleared(-1, -1), 8);
        for (int i = 0; i < 6; i++) {
            due("to itself", x.cleared(i, i), 0);
        }
        for (int wrong : WILD) {
            due("cleared(" + wrong + ", 0)", x.cleared(wrong, 0), BAD);
            due("cleared(0, " + wrong + ")", x.cleared(0, wrong), BAD);
            if (wrong != -1) {
                due("cleared(" + wrong + ", -1)", x.cleared(wrong, -1), BAD);
                due("cleared(-1, " + wrong + ")", x.cleared(-1, wrong), BAD);
                due("cleared(" + wrong + ", " + wrong + ")", x.cleared(wrong, wrong), BAD);
            }
        }
        x = Check.laid("p50;p2;r0;n1;");
        x.lend(0, 1, 3, 20);
        x.lend(1, 0, 4, 20);
        Check.weeks(x, 2);
        due("one who is DEAD OWES still", x.run(0, 0, 2) * 100 + x.cleared(-1, -1), 106);
        due("1 of 4", x.cleared(0, 1), 1);
        x = Check.laid("p5;");
        due("one alone: in all", x.cleared(-1, -1), 0);
        due("one alone: to itself", x.cleared(0, 0), 0);
        due("one alone: no second", x.cleared(0, 1), BAD);
    }

    private static void gives(YearsLent x, int worth, int... want) {
        for (int i = 0; i < want.length; i++) {
            due("child(" + worth + ", " + i + ")", x.child(worth, i), want[i]);
        }
    }

    private static void worths() {
        says("A CHILD worth w (1 to 99):");
        YearsLent x = Check.laid("p500;p499;");
        for (int w : new int[] {0, 100, -1, -99, Integer.MIN_VALUE, Integer.MAX_VALUE}) {
            gives(x, w, BAD, BAD);
        }
        gives(x, 1, 1, 0);
        gives(x, 2, 1, 1);
        gives(x, 99, 50, 49);
    }

    private static void givenAndCut() {
        says("each who LIVES gives w times its WEEKS by those of all who LIVE together, cut;");
        YearsLent x = Check.laid("p1;p30;p60;");
        gives(Check.laid("p30;p60;"), 9, 3, 6);
        x.week();
        // 261 and 531 by 88.
        gives(x, 9, BAD, 3, 6);
        x = Check.laid("p100;p100;r0;n1;");
        x.lend(0, 1, 50, 9);
        gives(x, 8, 2, 6);
        x = Check.laid("p999;p999;p999;p999;p999;p999;");
        gives(x, 96, 16, 16, 16, 16, 16, 16);
    }

    private static void restsAndTies() {
        says("what lacks is given one each by those of the greatest rests, of several the lowest:");
        YearsLent x = Check.laid("p10;p10;p10;");
        gives(x, 1, 1, 0, 0);
        gives(x, 2, 1, 1, 0);
        gives(x, 3, 1, 1, 1);
        gives(x, 4, 2, 1, 1);
        x = Check.laid("p20;p30;p50;");
        gives(x, 1, 0, 0, 1);
        gives(x, 2, 0, 1, 1);
        gives(x, 3, 1, 1, 1);
        gives(x, 7, 1, 2, 4);
        gives(x, 10, 2, 3, 5);
        x = Check.laid("p10;p10;p10;p10;p10;p10;");
        gives(x, 5, 1, 1, 1, 1, 1, 0);
        gives(x, 6, 1, 1, 1, 1, 1, 1);
        gives(x, 11, 2, 2, 2, 2, 2, 1);
        x = Check.laid("p1;p40;p40;p40;");
        x.week();
        gives(x, 1, BAD, 1, 0, 0);
        gives(x, 2, BAD, 1, 1, 0);
        x = Check.laid("p2;p20;p20;p20;p20;");
        gives(x, 20, 0, 5, 5, 5, 5);
        Check.weeks(x, 2);
        due("what one who is DEAD had for a rest is no more", x.child(1, 1), 1);
    }

    private static void nothingByAsking() {
        says("what a PERSON gives (nothing is given by asking);");
        YearsLent x = Check.laid("p50;p80;");
        gives(x, 13, 5, 8);
        gives(x, 13, 5, 8);
        due("WEEKS of 0", x.person(0, 0), 50);
        due("WEEKS of 1", x.person(1, 0), 80);
        due("nothing to be UNDONE", x.count(3), 0);
    }

    private static void allItHas() {
        says("NO: one would give all it has.");
        YearsLent x = Check.laid("p10;p10;p10;");
        gives(x, 27, 9, 9, 9);
        gives(x, 28, NO, NO, NO);
        gives(x, 30, NO, NO, NO);
        gives(x, 31, NO, NO, NO);
        gives(x, 99, NO, NO, NO);
        x = Check.laid("p1;p99;");
        gives(x, 49, 0, 49);
        gives(x, 50, NO, NO);
        x = Check.laid("p99;p1;");
        gives(x, 50, 50, 0);
        gives(x, 51, NO, NO);
        gives(Check.laid("p1;"), 1, NO);
        gives(Check.laid("p2;"), 1, 1);
        gives(Check.laid("p2;"), 2, NO);
        gives(Check.laid("p100;"), 99, 99);
        gives(Check.laid("p99;"), 98, 98);
        gives(Check.laid("p99;"), 99, NO);
    }

    private static void childAsked() {
        says("`int child(int w, int i)`: A CHILD: what a PERSON gives. NO; BAD (one who is DEAD, too).");
        YearsLent x = Check.laid("p1;p9;p9;");
        for (int i : WILD) {
            due("child(1, " + i + ")", x.child(1, i), BAD);
            due("BAD ahead of NO: child(99, " + i + ")", x.child(99, i), BAD);
        }
        due("child(1, 3)", x.child(1, 3), BAD);
        due("one with a WEEK left", x.child(1, 0), 0);
        due("NO", x.child(99, 0), NO);
        due("BAD ahead of NO", x.child(100, 0), BAD);
        x.week();
        due("one who is DEAD", x.child(1, 0), BAD);
        due("BAD ahead of NO", x.child(99, 0), BAD);
        due("of those who LIVE", x.child(2, 1) * 10 + x.child(2, 2), 11);
        Check.weeks(x, 8);
        due("all are DEAD", x.child(1, 2), BAD);
    }

    private static void loansWithLess() {
        says("FALLS, if a PERSON were DEAD now (its WEEKS 0): how many of the LOANS would have less PAID in the next 300 WEEKS than else;");
        YearsLent x = Check.laid("p100;p60;p50;r0;n1;");
        x.lend(0, 1, 20, 10);
        due("without the lender", x.falls(0, 0), 1);
        due("without the borrower", x.falls(1, 0), 1);
        due("without another", x.falls(2, 0), 0);
        x = Check.laid("p100;p20;p50;r0;n1;");
        x.lend(0, 1, 50, 80);
        due("what is not PAID can't be less: J is DEAD", x.falls(1, 0), 0);
        due("what is not PAID can't be less: J is DEAD", x.falls(0, 0), 0);
        x = Check.laid("p200;p10;p50;r0;n1;");
        x.lend(0, 1, 50, 59);
        due("J has 1 then, nothing is PAID", x.falls(1, 0), 0);
        due("nor without the lender", x.falls(0, 0), 0);
        x = Check.laid("p200;p11;p50;r0;n1;");
        x.lend(0, 1, 50, 59);
        due("J has 2 then, 1 is PAID", x.falls(1, 0), 1);
        due("but not without the lender", x.falls(0, 0), 1);
        x = Check.laid("p100;p1;p100;r0;n1;");
        x.lend(0, 1, 10, 5);
        x.lend(2, 1, 10, 5);
        due("the second has 5 of 10 PAID, without the first lender more, which is not less", x.falls(0, 0), 1);
        due("without the second lender", x.falls(2, 0), 1);
        due("without the borrower", x.falls(1, 0), 2);
        x = Check.laid("p999;p900;r0;n1;");
        x.lend(0, 1, 10, 200);
        x.lend(0, 1, 20, 200);
        x.lend(1, 0, 30, 1);
        due("due in 1 and in 200", x.falls(1, 0), 3);
        x.week();
        due("a WEEK later", x.falls(1, 0), 2);
        due("nothing is done by asking", x.person(1, 0) * 10 + x.count(1), 9292);
        pledgedFalls();
    }

    private static void pledgedFalls() {
        YearsLent x = Check.laid("p100;p20;p90;r0;k3;n1;");
        x.lend(0, 1, 50, 5);
        due("PLEDGED: another gives all of it", x.falls(1, 0), 0);
        due("PLEDGED: J gives all of it", x.falls(2, 0), 0);
        x = Check.laid("p100;p20;p55;r0;k3;n1;");
        x.lend(0, 1, 50, 5);
        due("PLEDGED: another has 50 and gives 49", x.falls(1, 0), 1);
        x = Check.laid("p100;p20;p56;r0;k3;n1;");
        x.lend(0, 1, 50, 5);
        due("PLEDGED: another has 51 and gives 50", x.falls(1, 0), 0);
        // 1 passes on what it gets of 0, who falls.
        x = Check.laid("p100;p40;p90;r0;n1;");
        x.lend(1, 0, 39, 9);
        x.lend(2, 1, 15, 10);
        due("and of one who gets less by it: 1 has 6 then and gives 5 of 15", x.falls(0, 0), 2);
    }

    private static void deadEarlier() {
        says("which other PERSON that is DEAD earlier by it (within these)");
        YearsLent x = Check.laid("p500;p20;r10;n1;");
        x.lend(0, 1, 200, 10);
        due("DEAD behind 300, else behind 509", x.falls(1, 1), 0);
        due("who gives nothing back LIVES longer", x.falls(0, 1), NONE);
        x = Check.laid("p501;p20;r10;n1;");
        x.lend(0, 1, 200, 10);
        due("DEAD behind 301", x.falls(1, 1), NONE);
        x = Check.laid("p310;p20;r0;n1;");
        x.lend(0, 1, 11, 10);
        due("DEAD behind 299, else behind 310", x.falls(1, 1), 0);
        x = Check.laid("p290;p20;r0;n1;");
        x.lend(0, 1, 11, 10);
        due("DEAD behind 279, else behind 290", x.falls(1, 1), 0);
        x = Check.laid("p90;p90;r0;n1;");
        x.lend(0, 1, 20, 10);
        due("itself is no other", x.falls(1, 1), 0);
        x = Check.laid("p100;p50;p40;r0;k3;n1;");
        x.lend(0, 1, 20, 10);
        due("PLEDGED: the one who gives for it", x.falls(1, 1), 2);
        x = Check.laid("p90;p50;");
        due("no LOANS", x.falls(0, 1), NONE);
        due("one alone", Check.laid("p90;").falls(0, 1), NONE);
    }

    private static void deadFirst() {
        says("is DEAD first, of several the lowest; none.");
        YearsLent x = Check.laid("p90;p40;p90;p90;r0;n1;");
        x.lend(0, 1, 20, 10);
        x.lend(2, 1, 30, 10);
        x.lend(3, 1, 30, 10);
        due("2 and 3 behind 60, 0 behind 70", x.falls(1, 1), 2);
        x = Check.laid("p90;p40;p90;p90;r0;n1;");
        x.lend(0, 1, 30, 10);
        x.lend(2, 1, 20, 10);
        x.lend(3, 1, 10, 10);
        due("0 behind 60, 2 behind 70, 3 behind 80", x.falls(1, 1), 0);
        x = Check.laid("p90;p40;p90;p90;r0;n1;");
        x.lend(0, 1, 20, 10);
        x.lend(2, 1, 20, 10);
        x.lend(3, 1, 21, 10);
        due("3 behind 69, 0 and 2 behind 70", x.falls(1, 1), 3);
        x = Check.laid("p90;p40;p90;p30;r0;n1;");
        x.lend(2, 1, 20, 10);
        x.lend(0, 1, 20, 10);
        due("0 and 2 behind 70; 3, earlier, is so in any case", x.falls(1, 1), 0);
        x = Check.laid("p1;p90;p90;r0;n1;");
        x.lend(1, 2, 20, 10);
        x.week();
        due("one who is DEAD already is not DEAD earlier", x.falls(2, 1), 1);
        due("none", x.falls(1, 1), NONE);
    }

    private static void fallsAsked() {
        says("`int falls(int i, int what)`: FALLS: how many LOANS (what = 0), the first PERSON (1). NONE; BAD (one who is DEAD, too).");
        YearsLent x = Check.laid("p100;p1;p1;");
        due("no LOANS", x.falls(0, 0), 0);
        due("no PERSON", x.falls(0, 1), NONE);
        due("one with a WEEK left", x.falls(1, 0), 0);
        due("falls(0, 2)", x.falls(0, 2), BAD);
        due("falls(3, 0)", x.falls(3, 0), BAD);
        for (int wrong : WILD) {
            due("falls(" + wrong + ", 0)", x.falls(wrong, 0), BAD);
            due("BAD ahead of NONE: falls(" + wrong + ", 1)", x.falls(wrong, 1), BAD);
            due("BAD ahead of NONE: falls(0, " + wrong + ")", x.falls(0, wrong), BAD);
        }
        x.week();
        due("one who is DEAD", x.falls(1, 0), BAD);
        due("one who is DEAD", x.falls(2, 1), BAD);
        due("WEEKS stay", x.person(0, 0), 99);
    }

    private static void says(String words) {
        check.says(words);
    }

    private static void due(String call, long got, long want) {
        check.due(call, got, want);
    }
}
