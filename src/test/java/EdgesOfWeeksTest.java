import java.util.Arrays;

/** Each sentence on weeks that go by that names a boundary (section 2, UNDONE, promises 10 to 13). */
public final class EdgesOfWeeksTest {
    private static final int BAD = -1, NO = -2, NONE = -4;
    private static final int PLAIN = 0, WHOLE = 1, FIRST = 2, PLEDGED = 3;
    private static final Check check = new Check();

    public static void main(String[] args) {
        weeksGo();
        dueEarlier();
        paidInOrder();
        paidByFirst();
        lenderIsDead();
        givenLessOne();
        givenWhole();
        pledged();
        pledgedByWhom();
        lostByTheLender();
        weekAsked();
        whenOneDies();
        diesAsked();
        booksRun();
        runAsked();
        sixUndone();
        noneAhead();
        undoAsked();
        fiveHundredCalls();
        check.finish("EdgesOfWeeksTest");
    }

    private static void weeksGo() {
        says("1 each who LIVES has a WEEK less.");
        YearsLent x = Check.laid("p3;p1;p2;");
        int[][] after = {{2, 0, 1}, {1, 0, 0}, {0, 0, 0}, {0, 0, 0}};
        for (int[] weeks : after) {
            x.week();
            for (int i = 0; i < 3; i++) {
                due("WEEKS of " + i + " of " + Arrays.toString(weeks), x.person(i, 0), weeks[i]);
            }
        }
    }

    private static void dueEarlier() {
        says("2 Each LOAN is due a WEEK earlier.");
        YearsLent x = Check.laid("p999;p999;r0;");
        x.lend(0, 1, 10, 1);
        x.lend(0, 1, 20, 2);
        x.lend(0, 1, 30, 200);
        x.week();
        due("that due in 1 is PAID", x.count(1), 2);
        due("that due in 2 is due in 1", x.loan(0, 3), 1);
        due("that due in 200 is due in 199", x.loan(1, 3), 199);
        due("only what is due is given", x.person(0, 0), 999 - 60 - 1 + 10);
        x.week();
        due("that due in 1 is PAID", x.count(1), 1);
        Check.weeks(x, 197);
        due("a WEEK ahead", x.loan(0, 3), 1);
        x.week();
        due("200 WEEKS have gone", x.count(1), 0);
        due("all is given back", x.person(0, 0), 799);
    }

    private static void paidInOrder() {
        says("3 Those that are due in 0 are PAID one behind the other, in their order");
        for (int turn = 0; turn < 2; turn++) {
            YearsLent x = Check.laid("p100;p1;p100;r0;n1;");
            int first = turn == 0 ? 0 : 2;
            x.lend(first, 1, 10, 5);
            x.lend(2 - first, 1, 10, 5);
            Check.weeks(x, 5);
            due("the first one gets all", x.person(first, 1), 0);
            due("the second one what is left: 5 of 10", x.person(2 - first, 1), 5);
            due("what was due is no more", x.count(1), 0);
        }
        YearsLent x = Check.laid("p100;p10;p10;r0;n1;");
        x.lend(1, 2, 9, 3);
        x.lend(0, 1, 5, 3);
        Check.weeks(x, 3);
        due("what is got by the first is given by the second", x.person(0, 1), 0);
        due("WEEKS of 1", x.person(1, 0), 7);
        x = Check.laid("p100;p10;p10;r0;n1;");
        x.lend(0, 1, 5, 3);
        x.lend(1, 2, 9, 3);
        Check.weeks(x, 3);
        due("what is got by the second comes too late", x.person(0, 1), 3);
        due("WEEKS of 1", x.person(1, 0), 10);
        x = Check.laid("p100;p1;p100;r0;n1;");
        x.lend(0, 1, 10, 5);
        x.week();
        x.lend(2, 1, 10, 4);
        Check.weeks(x, 4);
        due("the order is that in which they were made", x.person(0, 1) * 100 + x.person(2, 1), 5);
    }

    private static void paidByFirst() {
        says("(by FIRST that of the greatest n ahead of all, of several the first one), and are no more.");
        YearsLent x = Check.laid("p100;p1;p100;p100;r0;n1;k2;");
        x.lend(0, 1, 5, 2);
        x.lend(2, 1, 20, 2);
        x.lend(3, 1, 10, 2);
        Check.weeks(x, 2);
        due("20 first, then 5 and 10 in their order: 8 of 10", lost(x), 2);
        due("they are no more", x.count(1), 0);
        x = Check.laid("p100;p1;p100;p100;r0;n1;k2;");
        x.lend(0, 1, 5, 6);
        x.lend(2, 1, 20, 6);
        x.lend(3, 1, 20, 6);
        Check.weeks(x, 6);
        due("the first 20 first, then 5 and 20 in their order: 14 of 20", lost(x), 6);
        x = Check.laid("p100;p1;p100;p100;r0;n1;k2;");
        x.lend(0, 1, 5, 2);
        x.lend(2, 1, 20, 2);
        x.lend(3, 1, 10, 2);
        x.lend(3, 1, 60, 9);
        x.lend(1, 0, 60, 9);
        Check.weeks(x, 2);
        due("the greatest is of those that are due", lost(x), 2);
        due("what is not due stays", x.count(1), 2);
        due("as it is", x.loan(0, 2) * 100 + x.loan(0, 3), 6007);
        x = Check.laid("p100;p1;p100;p100;r0;n1;k0;");
        x.lend(0, 1, 5, 2);
        x.lend(2, 1, 20, 2);
        x.lend(3, 1, 15, 2);
        Check.weeks(x, 2);
        due("PLAIN: in their order: 13 of 15", lost(x), 2);
        x = Check.laid("p100;p1;p100;p100;r0;n1;k2;");
        x.lend(2, 1, 20, 2);
        x.lend(0, 1, 5, 2);
        x.lend(3, 1, 10, 2);
        Check.weeks(x, 2);
        due("20, made first, is first in any case: 8 of 10", lost(x), 2);
        otherKindsInOrder();
        x = Check.laid("p100;p1;p100;p100;r0;n1;k2;");
        x.lend(2, 1, 7, 2);
        Check.weeks(x, 2);
        due("one alone: 5 of 7", lost(x), 200);
    }

    /** 1 has 24 WEEKS when 5 (to 0) and 20 (to 2) are due. */
    private static void otherKindsInOrder() {
        int[][] weeks = {{PLAIN, 98, 96}, {WHOLE, 98, 78}, {FIRST, 96, 98}, {PLEDGED, 96, 98}};
        for (int[] c : weeks) {
            YearsLent x = Check.laid("p100;p1;p100;r0;n1;k" + c[0] + ";");
            x.lend(0, 1, 5, 2);
            x.lend(2, 1, 20, 2);
            Check.weeks(x, 2);
            due("KIND " + c[0] + ": WEEKS of 0", x.person(0, 0), c[1]);
            due("KIND " + c[0] + ": WEEKS of 2", x.person(2, 0), c[2]);
        }
    }

    /** LOST by 0, 2 and 3, two figures each. */
    private static int lost(YearsLent x) {
        return 10000 * x.person(0, 1) + 100 * x.person(2, 1) + x.person(3, 1);
    }

    private static void lenderIsDead() {
        says("If I is DEAD then, nothing is done (nothing is LOST; the LOAN is no more all the same).");
        for (int kind = PLAIN; kind <= PLEDGED; kind++) {
            String of = "KIND " + kind + ": ";
            YearsLent x = Check.laid("p10;p5;p50;n1;k" + kind + ";");
            x.lend(0, 1, 9, 1);
            due(of + "I dies in that very WEEK", x.week(), 2);
            due(of + "I stays DEAD", x.person(0, 0), 0);
            due(of + "J keeps what it has", x.person(1, 0), 13);
            due(of + "another keeps what it has", x.person(2, 0), 49);
            due(of + "nothing is LOST", x.person(0, 1), 0);
            due(of + "the LOAN is no more", x.count(1), 0);
            x = Check.laid("p11;p5;p50;n1;k" + kind + ";");
            x.lend(0, 1, 9, 1);
            due(of + "I has a WEEK still", x.week(), 3);
            due(of + "I gets 9", x.person(0, 0), 10);
            due(of + "J gives 9", x.person(1, 0), 4);
            x = Check.laid("p10;p1;p50;r0;n1;k" + kind + ";");
            x.lend(0, 1, 9, 40);
            Check.weeks(x, 39);
            due(of + "the LOAN of one long DEAD to one DEAD", x.count(1), 1);
            x.week();
            due(of + "is no more then", x.count(1), 0);
            due(of + "nothing is LOST", x.person(0, 1), 0);
            due(of + "nothing is given", x.person(2, 0), 10);
        }
    }

    /** 15 are due to 0 (n 10, INTEREST 50) when 1 has so many WEEKS left. */
    private static YearsLent owingFifteen(int kind, int left, String others) {
        YearsLent x = Check.laid("p60;p" + (left + 5) + ";" + others + "r50;n1;k" + kind + ";");
        x.lend(0, 1, 10, 15);
        Check.weeks(x, 15);
        return x;
    }

    private static void paidOf(String what, YearsLent x, int given, int leftToJ) {
        due(what + ": I has", x.person(0, 0), 35 + given);
        due(what + ": LOST by I", x.person(0, 1), 15 - given);
        due(what + ": J has", x.person(1, 0), leftToJ);
        due(what + ": LOST by J", x.person(1, 1), 0);
    }

    private static void givenLessOne() {
        says("Else J gives I: PLAIN, FIRST, PLEDGED what is DUE, no more than its WEEKS less 1 (0 at least);");
        for (int kind : new int[] {PLAIN, FIRST, PLEDGED}) {
            String of = "KIND " + kind + ", J has ";
            paidOf(of + 17, owingFifteen(kind, 17, ""), 15, 2);
            paidOf(of + 16, owingFifteen(kind, 16, ""), 15, 1);
            paidOf(of + 15, owingFifteen(kind, 15, ""), 14, 1);
            paidOf(of + 14, owingFifteen(kind, 14, ""), 13, 1);
            paidOf(of + 2, owingFifteen(kind, 2, ""), 1, 1);
            paidOf(of + 1, owingFifteen(kind, 1, ""), 0, 1);
            paidOf(of + 0, owingFifteen(kind, 0, ""), 0, 0);
            paidOf(of + "been DEAD before", owingFifteen(kind, -4, ""), 0, 0);
        }
    }

    private static void givenWhole() {
        says("WHOLE what is DUE, if its WEEKS are more, else nothing;");
        paidOf("J has 17", owingFifteen(WHOLE, 17, ""), 15, 2);
        paidOf("J has 16", owingFifteen(WHOLE, 16, ""), 15, 1);
        paidOf("J has 15", owingFifteen(WHOLE, 15, ""), 0, 15);
        paidOf("J has 14", owingFifteen(WHOLE, 14, ""), 0, 14);
        paidOf("J has 1", owingFifteen(WHOLE, 1, ""), 0, 1);
        paidOf("J has 0", owingFifteen(WHOLE, 0, ""), 0, 0);
        paidOf("J was DEAD before", owingFifteen(WHOLE, -4, ""), 0, 0);
    }

    private static void pledged() {
        says("and by PLEDGED what lacks is given by the lowest PERSON that LIVES and is neither I nor J, no more than its WEEKS less 1.");
        int[][] cases = {{17, 15, 2}, {16, 15, 1}, {15, 14, 1}, {2, 1, 1}, {1, 0, 1}, {0, 0, 0}};
        for (int[] c : cases) {
            YearsLent x = owingFifteen(PLEDGED, 1, "p" + (c[0] + 15) + ";");
            paidOf("J has 1, the other " + c[0], x, c[1], 1);
            due("the other keeps", x.person(2, 0), c[2]);
            due("LOST by the other", x.person(2, 1), 0);
            x = owingFifteen(PLEDGED, 0, "p" + (c[0] + 15) + ";");
            paidOf("J is DEAD, the other has " + c[0], x, c[1], 0);
        }
        YearsLent x = owingFifteen(PLEDGED, 15, "p40;");
        paidOf("1 lacks", x, 15, 1);
        due("1 is given by the other", x.person(2, 0), 24);
        x = owingFifteen(PLEDGED, 16, "p40;");
        paidOf("nothing lacks", x, 15, 1);
        due("nothing is given by the other", x.person(2, 0), 25);
        for (int kind : new int[] {PLAIN, WHOLE, FIRST}) {
            x = owingFifteen(kind, 1, "p40;");
            paidOf("KIND " + kind + " is not PLEDGED", x, 0, 1);
            due("nothing is given by the other", x.person(2, 0), 25);
        }
    }

    private static void pledgedByWhom() {
        YearsLent x = owingFifteen(PLEDGED, 1, "p18;p90;");
        paidOf("the lowest has 3 and gives 2", x, 2, 1);
        due("the lowest keeps 1", x.person(2, 0), 1);
        due("the next one gives nothing", x.person(3, 0), 75);
        x = owingFifteen(PLEDGED, 1, "p15;p90;");
        paidOf("the lowest is DEAD, the next one gives", x, 15, 1);
        due("the next one keeps", x.person(3, 0), 60);
        x = owingFifteen(PLEDGED, 1, "p16;p90;");
        paidOf("the lowest has 1 and gives nothing", x, 0, 1);
        due("the next one gives nothing", x.person(3, 0), 75);
        for (int lender = 0; lender < 3; lender++) {
            for (int borrower = 0; borrower < 3; borrower++) {
                if (lender != borrower) {
                    onlyOther(lender, borrower, 3 - lender - borrower);
                }
            }
        }
    }

    private static void onlyOther(int lender, int borrower, int other) {
        StringBuilder text = new StringBuilder("r0;n1;k3;");
        for (int i = 0; i < 3; i++) {
            text.append(i == borrower ? "p1;" : "p50;");
        }
        YearsLent x = Check.laid(text.toString());
        x.lend(lender, borrower, 4, 4);
        Check.weeks(x, 4);
        String who = lender + " lent to " + borrower + ": ";
        due(who + "it lacks all", x.person(borrower, 0), 1);
        due(who + "the other gives 4", x.person(other, 0), 42);
        due(who + "the lender has", x.person(lender, 0), 46);
        due(who + "nothing is LOST", x.person(lender, 1), 0);
    }

    private static void lostByTheLender() {
        says("What lacks still of what is DUE is LOST by I.");
        YearsLent x = Check.laid("p90;p1;p90;r50;n1;");
        x.lend(0, 1, 10, 20);
        x.lend(2, 1, 20, 20);
        x.lend(0, 1, 4, 21);
        Check.weeks(x, 20);
        // 1 has 15 of 15 and 30.
        due("LOST by 0", x.person(0, 1), 1);
        due("LOST by 2, INTEREST too", x.person(2, 1), 30);
        due("LOST by 1, who gives", x.person(1, 1), 0);
        x.week();
        due("LOST by 0 in all: 1 and 6", x.person(0, 1), 7);
        Check.weeks(x, 80);
        due("LOST stays, when I is DEAD", x.person(0, 1), 7);
    }

    private static void weekAsked() {
        says("`int week()`: A WEEK: how many LIVE.");
        YearsLent x = Check.laid("p1;p2;p2;p3;p3;p4;");
        int[] living = {5, 3, 1, 0, 0, 0};
        for (int k = 0; k < living.length; k++) {
            due("week() " + (k + 1), x.week(), living[k]);
            due("WEEKS gone by", x.count(6), k + 1);
        }
        due("those of the DEAD can be UNDONE", x.count(3), 6);
        due("undo()", x.undo(), 5);
        due("WEEKS gone by", x.count(6), 5);
    }

    /** 0 has 2000 WEEKS and so many more. */
    private static YearsLent longLived(int more) {
        YearsLent x = Check.laid("p999;p801;p999;n1;r0;");
        for (int k = 0; k < 4; k++) {
            x.lend(1, 0, 200, 200);
        }
        x.lend(2, 0, 200, 200);
        x.lend(2, 0, 1 + more, 200);
        return x;
    }

    private static void whenOneDies() {
        says("DIES: behind how many WEEKS (0 to 2000), if nothing but these is done, a PERSON is DEAD first; none.");
        // 1 is DEAD then; 2 LIVES, and gets back 201 or 202.
        YearsLent x = longLived(0);
        due("WEEKS of 0", x.person(0, 0), 2000);
        due("dies(0), who gives back 201 of them", x.dies(0), 1799);
        due("dies(1)", x.dies(1), 1);
        due("dies(2)", x.dies(2), 999);
        x = lastOfAll(0);
        due("WEEKS of 0", x.person(0, 0), 2000);
        due("in 2000", x.dies(0), 2000);
        x = lastOfAll(1);
        due("WEEKS of 0", x.person(0, 0), 2001);
        due("in 2001", x.dies(0), NONE);
        x.week();
        due("a WEEK later: in 2000", x.dies(0), 2000);
        due("DEAD now", x.dies(1), 0);
        x = Check.laid("p1;p999;");
        due("in 1", x.dies(0), 1);
        due("in 999", x.dies(1), 999);
        x = Check.laid("p50;p5;r0;n1;");
        x.lend(0, 1, 10, 15);
        due("J is DEAD in the WEEK in which it is due", x.dies(1), 15);
        due("I gets nothing", x.dies(0), 40);
        x = Check.laid("p50;p6;r0;n1;");
        x.lend(0, 1, 10, 15);
        due("J has 1 then, and gives nothing", x.dies(1), 16);
        x = Check.laid("p50;p7;r0;n1;");
        x.lend(0, 1, 10, 15);
        due("J has 2 then, and gives 1", x.dies(1), 16);
        due("I gets 1", x.dies(0), 41);
        x = Check.laid("p25;p90;r0;n1;");
        x.lend(0, 1, 10, 15);
        due("I is DEAD in the WEEK in which it is due", x.dies(0), 15);
        due("J keeps all", x.dies(1), 100);
    }

    /** As above, with lenders who are DEAD when it is due. */
    private static YearsLent lastOfAll(int more) {
        YearsLent x = Check.laid("p999;p801;p" + (202 + more) + ";n1;r0;");
        for (int k = 0; k < 4; k++) {
            x.lend(1, 0, 200, 200);
        }
        x.lend(2, 0, 200, 200);
        x.lend(2, 0, 1 + more, 200);
        return x;
    }

    private static void diesAsked() {
        says("`int dies(int i)`: DIES. NONE; BAD.");
        YearsLent x = lastOfAll(5);
        due("NONE", x.dies(0), NONE);
        for (int wrong : new int[] {3, 6, -1, Integer.MIN_VALUE, Integer.MAX_VALUE}) {
            due("dies(" + wrong + ")", x.dies(wrong), BAD);
        }
        due("LOANS stay", x.count(1), 6);
        due("WEEKS stay", x.person(0, 0), 2005);
        due("no WEEK has gone by", x.count(6), 0);
    }

    private static void booksRun() {
        says("BOOKS RUN n WEEKS (0 to 2000): WEEKS of a PERSON then, LOST by it, how many LIVE.");
        YearsLent x = lastOfAll(1);
        due("run(0, 0, 0)", x.run(0, 0, 0), 2001);
        due("run(0, 0, 2)", x.run(0, 0, 2), 3);
        due("run(1, 0, 2)", x.run(1, 0, 2), 1);
        due("run(2000, 0, 0)", x.run(2000, 0, 0), 1);
        due("run(2000, 0, 2)", x.run(2000, 0, 2), 1);
        due("run(1999, 0, 0)", x.run(1999, 0, 0), 2);
        x.week();
        due("run(2000, 0, 0)", x.run(2000, 0, 0), 0);
        due("run(2000, 0, 2)", x.run(2000, 0, 2), 0);
        due("run(1999, 0, 2)", x.run(1999, 0, 2), 1);
        x = Check.laid("p50;p5;r50;n1;");
        x.lend(0, 1, 10, 5);
        int[][] run = {{0, 40, 0, 2}, {4, 36, 0, 2}, {5, 44, 6, 2}, {6, 43, 6, 1}, {48, 1, 6, 1}, {49, 0, 6, 0}, {2000, 0, 6, 0}};
        for (int[] c : run) {
            for (int what = 0; what < 3; what++) {
                due("run(" + c[0] + ", 0, " + what + ")", x.run(c[0], 0, what), c[what + 1]);
            }
        }
        due("LOST by another", x.run(9, 1, 1), 0);
        Check.weeks(x, 5);
        due("what was LOST ahead counts", x.run(0, 0, 1), 6);
    }

    private static void runAsked() {
        says("`int run(int n, int i, int what)`: BOOKS RUN: WEEKS (what = 0), LOST (1) of a PERSON, how many LIVE (2). BAD.");
        YearsLent x = Check.laid("p50;p5;r50;n1;");
        x.lend(0, 1, 10, 5);
        for (int n : new int[] {-1, 2001, Integer.MIN_VALUE, Integer.MAX_VALUE}) {
            for (int what = 0; what < 3; what++) {
                due("run(" + n + ", 0, " + what + ")", x.run(n, 0, what), BAD);
            }
        }
        for (int wrong : new int[] {-1, 3, 6, Integer.MIN_VALUE, Integer.MAX_VALUE}) {
            due("run(1, " + wrong + ", 0)", x.run(1, wrong, 0), BAD);
            due("run(1, " + wrong + ", 1)", x.run(1, wrong, 1), BAD);
            due("run(1, 0, " + wrong + ")", x.run(1, 0, wrong), BAD);
        }
        due("run(1, 2, 0)", x.run(1, 2, 0), BAD);
        due("how many LIVE is not asked of one there is not", x.run(1, 2, 2), BAD);
        due("WEEKS stay", x.person(0, 0), 40);
        due("LOANS stay", x.loan(0, 3), 5);
        due("no WEEK has gone by", x.count(6), 0);
    }

    private static void sixUndone() {
        says("UNDONE is the latest LOAN that was LENT or WEEK (the last 6 can be;");
        YearsLent x = Check.laid("p90;p50;r50;n1;");
        x.lend(0, 1, 10, 3);
        x.lend(0, 1, 20, 3);
        x.week();
        x.lend(1, 0, 7, 9);
        x.week();
        x.week();
        x.week();
        due("seven deeds, 6 can be UNDONE", x.count(3), 6);
        due("a WEEK", x.undo(), 5);
        due("a WEEK in which 45 were PAID", x.undo(), 4);
        due("LOANS are again", x.count(1), 3);
        due("due in 1 again", x.loan(0, 3), 1);
        due("WEEKS of 0", x.person(0, 0), 90 - 30 - 2 + 7);
        due("a WEEK", x.undo(), 3);
        due("a LOAN", x.undo(), 2);
        due("LOANS", x.count(1), 2);
        due("WEEKS of 1", x.person(1, 0), 79);
        due("a WEEK", x.undo(), 1);
        due("WEEKS gone by", x.count(6), 0);
        due("a LOAN", x.undo(), 0);
        due("the first one stays", x.count(1), 1);
        due("WEEKS of 0", x.person(0, 0), 80);
        due("a seventh can't be", x.undo(), NO);
        due("what can't be UNDONE stays", x.count(1), 1);
        Check.weeks(x, 5);
        due("5", x.count(3), 5);
        x.week();
        due("6", x.count(3), 6);
        x.week();
        due("6 still", x.count(3), 6);
        due("undo()", x.undo(), 5);
        due("lend", x.lend(0, 1, 1, 200), 1);
        due("6 again", x.count(3), 6);
        due("undo()", x.undo(), 5);
        due("undo()", x.undo(), 4);
        due("lend in vain", x.lend(0, 1, 200, 200), NO);
        due("is no deed", x.count(3), 4);
    }

    private static void noneAhead() {
        says("none of those ahead of back(), lay()).");
        YearsLent x = Check.laid("p90;p50;");
        Check.weeks(x, 3);
        x.keep();
        due("keep() does not end what can be", x.count(3), 3);
        x.week();
        x.back();
        due("back()", x.count(3), 0);
        due("undo()", x.undo(), NO);
        due("WEEKS gone by", x.count(6), 3);
        x.week();
        due("one behind back()", x.undo(), 0);
        due("undo()", x.undo(), NO);
        Check.weeks(x, 2);
        due("back() in vain", x.back(), NO);
        due("ends nothing", x.count(3), 2);
        x.lay();
        due("lay()", x.count(3), 0);
        due("undo()", x.undo(), NO);
        x.week();
        x.wipe();
        due("lay() in vain", x.lay(), NO);
        due("ends nothing", x.undo(), 0);
        due("WEEKS", x.person(0, 0), 90);
    }

    private static void undoAsked() {
        says("`int undo()`: UNDONE: how many more can be. NO.");
        YearsLent x = new YearsLent();
        due("of nothing", x.undo(), NO);
        x.week();
        due("of one", x.undo(), 0);
        due("of nothing", x.undo(), NO);
        x.lend(0, 1, 10, 1);
        x.tell(0, 1, 1, true);
        x.write(1, 'p');
        x.keep();
        x.week();
        due("of two", x.undo(), 1);
        due("TOLD stays", x.count(2), 1);
        due("KEPT stays", x.count(4), 1);
        due("THE TEXT stays", x.count(5), 1);
        x = Check.laid("p50;p5;r50;n1;");
        x.lend(0, 1, 10, 1);
        x.week();
        due("LOST", x.person(0, 1), 2);
        x.undo();
        due("LOST is UNDONE", x.person(0, 1), 0);
        x.week();
        due("and LOST again", x.person(0, 1), 2);
    }

    private static void fiveHundredCalls() {
        says("An object is used for at most 512 calls after it has been made;");
        YearsLent x = new YearsLent();
        Check.put(x, "p999;r0;p1;");
        x.lay();
        for (int call = 4; call < 512; call++) {
            due("week()", x.week(), 1);
        }
        due("the 512th", x.person(0, 0), 999 - 508);
    }

    private static void says(String words) {
        check.says(words);
    }

    private static void due(String call, long got, long want) {
        check.due(call, got, want);
    }
}
