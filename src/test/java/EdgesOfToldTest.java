/** Each sentence on what is told that names a boundary (section 3, BRIBED, promises 14 to 18). */
public final class EdgesOfToldTest {
    private static final int BAD = -1, FULL = -3, NONE = -4;
    private static final int[] NO_PERSONS = {2, 6, -1, Integer.MIN_VALUE, Integer.MAX_VALUE};
    private static final Check check = new Check();

    public static void main(String[] args) {
        twelveTold();
        whatYesAndNoSay();
        spans();
        daysToAsk();
        fewestLeft();
        bribes();
        tellAsked();
        forgotten();
        spanAsked();
        askAsked();
        bribedAsked();
        check.finish("EdgesOfToldTest");
    }

    private static void twelveTold() {
        says("TOLD (12 at most):");
        YearsLent x = Check.laid("p50;p80;");
        for (int k = 1; k <= 12; k++) {
            due("tell", x.tell(k % 2, 1, k, true), k);
        }
        due("a thirteenth", x.tell(0, 1, 99, true), FULL);
        due("of the other", x.tell(1, 1, 99, true), FULL);
        due("count(2)", x.count(2), 12);
        due("it is not TOLD: of 0", x.span(0, 0), 13);
        due("it is not TOLD: of 1", x.span(1, 0), 12);
        x.forget();
        due("there is room again", x.tell(0, 1, 99, true), 1);
    }

    private static void whatYesAndNoSay() {
        says("of a PERSON without LOANS that would take n for d WEEKS a STRICT NOTARY said yes: its WEEKS are more than d and INTEREST;"
            + " or no: they are not.");
        int[][] cases = {{1, 1, 1}, {9, 20, 20}, {10, 20, 21}, {19, 20, 21}, {20, 20, 22}, {200, 200, 220}, {200, 1, 21}};
        for (int[] c : cases) {
            YearsLent x = Check.laid("p50;p80;");
            x.tell(0, c[0], c[1], true);
            due("yes of " + c[0] + " for " + c[1] + ": the least", x.span(0, 0), c[2] + 1);
            due("yes of " + c[0] + " for " + c[1] + ": the greatest", x.span(0, 1), 999);
            x.tell(1, c[0], c[1], false);
            due("no of " + c[0] + " for " + c[1] + ": the least", x.span(1, 0), 1);
            due("no of " + c[0] + " for " + c[1] + ": the greatest", x.span(1, 1), c[2]);
        }
        for (int weeks = 1; weeks <= 60; weeks++) {
            asTheNotarySays(weeks);
        }
        YearsLent x = Check.laid("p50;p80;r10;n1;");
        x.lend(0, 1, 30, 9);
        x.tell(1, 10, 79, true);
        due("LOANS there are, and a LAX NOTARY, change nothing", x.span(1, 0), 81);
        due("80 are not more than 80", x.bribed(), 1);
        x.tell(0, 10, 48, true);
        due("50 are more than 49", x.bribed(), 1);
    }

    /** What a STRICT NOTARY says of one without LOANS is so by its WEEKS, and its WEEKS are in the SPAN. */
    private static void asTheNotarySays(int weeks) {
        YearsLent x = Check.laid("p" + weeks + ";p999;r33;");
        for (int k = 0; k < 12; k++) {
            int n = 1 + 17 * k % 60;
            int d = 1 + (weeks + 11 * k) % 60;
            x.tell(0, n, d, x.notary(1, 0, n, d) == 1);
        }
        due("bribed() with " + weeks, x.bribed(), 0);
        due("the SPAN has " + weeks, x.span(0, 0) <= weeks && x.span(0, 1) >= weeks ? 1 : 0, 1);
    }

    private static void spans() {
        says("SPAN: WEEKS from 1 to 999 that it can have by all that was TOLD of it: the least, the greatest; none.");
        YearsLent x = Check.laid("p50;p80;r99;");
        due("nothing TOLD: the least", x.span(0, 0), 1);
        due("nothing TOLD: the greatest", x.span(0, 1), 999);
        x.tell(0, 1, 1, true);
        due("more than 1", x.span(0, 0), 2);
        x.tell(0, 200, 200, true);
        due("more than 398", x.span(0, 0), 399);
        x.tell(0, 200, 199, true);
        due("more than 397: nothing new", x.span(0, 0), 399);
        due("the greatest still", x.span(0, 1), 999);
        x.tell(1, 200, 200, false);
        due("of 1: not more than 398", x.span(1, 1), 398);
        due("of 1: the least", x.span(1, 0), 1);
        x.tell(1, 1, 2, false);
        x.tell(1, 1, 3, false);
        due("of 1: not more than 2", x.span(1, 1), 2);
        x.tell(1, 1, 1, true);
        due("of 1: one is left", x.span(1, 0) * 1000 + x.span(1, 1), 2002);
        x.tell(1, 1, 1, false);
        due("of 1: none, the least", x.span(1, 0), NONE);
        due("of 1: none, the greatest", x.span(1, 1), NONE);
        due("of 0: as it was", x.span(0, 0), 399);
        x.tell(0, 200, 200, false);
        due("of 0: yes and no by the same", x.span(0, 0), NONE);
        x = Check.laid("p50;p80;r99;");
        x.tell(0, 1, 1, false);
        due("not more than 1", x.span(0, 0) * 1000 + x.span(0, 1), 1001);
        for (int one = 0; one < 3; one++) {
            x = Check.laid("p50;p80;p7;");
            x.tell(one, 1, 30, true);
            x.tell(one, 1, 40, false);
            for (int i = 0; i < 3; i++) {
                due("of " + i + ", TOLD of " + one, x.span(i, 0) * 1000 + x.span(i, 1), i == one ? 31040 : 1999);
            }
        }
    }

    /** One of whom it is TOLD that it has from so many WEEKS to so many (2 to 201, 1 to 200; INTEREST 10). */
    private static YearsLent between(int least, int greatest) {
        YearsLent x = Check.laid("p50;p80;r10;");
        if (least > 1) {
            x.tell(0, 1, least - 1, true);
        }
        if (greatest <= 200) {
            x.tell(0, 1, greatest, false);
        } else if (greatest < 999) {
            x.tell(0, 10 * (greatest - 200), 200, false);
        }
        return x;
    }

    private static void daysToAsk() {
        says("ASK with n: of d from 1 to 200 that by which, of the WEEKS in the SPAN,");
        due("1 to 2: d 1 at least", between(1, 2).ask(0, 1), 1);
        due("1 to 10, INTEREST 8: yes by 10 alone", between(1, 10).ask(0, 89), 1);
        due("1 to 10, INTEREST 9: d would be 0", between(1, 10).ask(0, 90), NONE);
        due("1 to 10, INTEREST 3: 5 and 5", between(1, 10).ask(0, 30), 2);
        due("1 to 10, INTEREST 4: 5 and 5", between(1, 10).ask(0, 40), 1);
        due("1 to 999: 200 at most", between(1, 999).ask(0, 1), 200);
        due("1 to 219: 109 or 110, the lowest", between(1, 219).ask(0, 1), 109);
        due("200 to 201: d 200", between(200, 201).ask(0, 1), 200);
        due("201 to 202: d would be 201", between(201, 202).ask(0, 1), NONE);
        due("201 to 202, INTEREST 1: d 200", between(201, 202).ask(0, 10), 200);
        due("201 to 202, INTEREST 2: d 199", between(201, 202).ask(0, 20), 199);
        YearsLent x = Check.laid("p50;p80;r99;");
        x.tell(0, 200, 199, true);
        due("398 to 999, INTEREST 198: no by 398 alone", x.ask(0, 200), 200);
        due("398 to 999, INTEREST 197: no by none", x.ask(0, 199), NONE);
        x.tell(0, 200, 200, true);
        due("399 to 999, INTEREST 198: no by none", x.ask(0, 200), NONE);
    }

    private static void fewestLeft() {
        says("the more of those left by yes and of those left by no are fewest, both being some, the lowest; none.");
        due("1 to 3: 1 or 2, the lowest", between(1, 3).ask(0, 1), 1);
        due("1 to 4", between(1, 4).ask(0, 1), 2);
        due("1 to 5: 2 or 3", between(1, 5).ask(0, 1), 2);
        due("11 to 20: 5 and 5", between(11, 20).ask(0, 1), 15);
        due("11 to 19: 4 and 5 or 5 and 4", between(11, 19).ask(0, 1), 14);
        due("11 to 20, INTEREST 5", between(11, 20).ask(0, 50), 10);
        due("11 to 19, INTEREST 5", between(11, 19).ask(0, 50), 9);
        due("11 to 12: 1 and 1", between(11, 12).ask(0, 1), 11);
        due("11 alone: yes or no by none", between(11, 11).ask(0, 1), NONE);
        due("1 alone", between(1, 1).ask(0, 1), NONE);
        due("no SPAN", between(12, 11).ask(0, 1), NONE);
        due("a SPAN of -1", between(13, 11).ask(0, 1), NONE);
        due("the other, of whom nothing is TOLD", between(12, 11).ask(1, 1), 200);
    }

    private static void bribes() {
        says("BRIBED: those of all TOLD (bits) that are not so by WEEKS as LAID.");
        YearsLent x = Check.laid("p50;p80;r50;");
        boolean[] yes = {true, false, true, false, true, false};
        int[] days = {40, 40, 39, 39, 41, 41};
        for (int k = 0; k < 6; k++) {
            x.tell(0, 20, days[k], yes[k]);
        }
        due("50 are not more than 50, more than 49, not more than 51", x.bribed(), 0b011001);
        for (int k = 0; k < 6; k++) {
            x.tell(1, 20, days[k] + 30, yes[k]);
        }
        due("of the other, too", x.bribed(), 0b011001011001);
        x.lend(1, 0, 20, 3);
        Check.weeks(x, 30);
        due("WEEKS as LAID, not as they are", x.bribed(), 0b011001011001);
        x.forget();
        due("nothing TOLD", x.bribed(), 0);
        for (int k = 0; k < 12; k++) {
            x.tell(k % 2, 1, 1, false);
        }
        due("all 12", x.bribed(), 0b111111111111);
        x.lay();
        due("nothing TOLD behind lay()", x.bribed(), 0);
    }

    private static void tellAsked() {
        says("`int tell(int i, int n, int d, boolean yes)`: TOLD: how many. BAD (n, d 1 to 200); FULL.");
        YearsLent x = Check.laid("p1;p80;r99;");
        refusedToTell(x);
        due("nothing is TOLD by that", x.count(2), 0);
        due("n, d 1", x.tell(0, 1, 1, true), 1);
        due("n, d 200", x.tell(0, 200, 200, true), 2);
        due("n 1, d 200", x.tell(1, 1, 200, false), 3);
        due("n 200, d 1", x.tell(1, 200, 1, false), 4);
        x.week();
        due("of one who is DEAD", x.tell(0, 1, 1, false), 5);
        due("the same again", x.tell(0, 1, 1, false), 6);
        for (int k = 7; k <= 12; k++) {
            due("tell", x.tell(1, k, k, true), k);
        }
        due("FULL", x.tell(0, 1, 1, true), FULL);
        refusedToTell(x);
    }

    private static void refusedToTell(YearsLent x) {
        for (int i : NO_PERSONS) {
            due("tell(" + i + ", 1, 1, true)", x.tell(i, 1, 1, true), BAD);
        }
        for (int wrong : new int[] {0, 201, -1, Integer.MIN_VALUE, Integer.MAX_VALUE}) {
            due("tell(0, " + wrong + ", 1, true)", x.tell(0, wrong, 1, true), BAD);
            due("tell(0, 1, " + wrong + ", false)", x.tell(0, 1, wrong, false), BAD);
        }
    }

    private static void forgotten() {
        says("`int forget()`: Nothing TOLD: how many were.");
        YearsLent x = new YearsLent();
        due("of nothing", x.forget(), 0);
        for (int k = 0; k < 12; k++) {
            x.tell(0, 1, 100, true);
        }
        due("of 12", x.forget(), 12);
        due("count(2)", x.count(2), 0);
        due("span(0, 0)", x.span(0, 0), 1);
        due("bribed()", x.bribed(), 0);
        due("of nothing", x.forget(), 0);
        x.tell(1, 1, 100, false);
        due("of one", x.forget(), 1);
    }

    private static void spanAsked() {
        says("`int span(int i, int what)`: SPAN: the least (what = 0), the greatest (1). NONE; BAD.");
        YearsLent x = Check.laid("p1;p80;");
        x.tell(0, 1, 5, true);
        x.tell(0, 1, 9, false);
        x.week();
        due("of one who is DEAD: the least", x.span(0, 0), 6);
        due("of one who is DEAD: the greatest", x.span(0, 1), 9);
        x.tell(0, 1, 5, false);
        due("NONE", x.span(0, 0), NONE);
        for (int i : NO_PERSONS) {
            due("span(" + i + ", 0)", x.span(i, 0), BAD);
            due("BAD ahead of NONE: span(0, " + i + ")", x.span(0, i), BAD);
        }
    }

    private static void askAsked() {
        says("`int ask(int i, int n)`: ASK: d. NONE; BAD.");
        YearsLent x = between(12, 11);
        due("NONE", x.ask(0, 1), NONE);
        for (int i : NO_PERSONS) {
            due("ask(" + i + ", 1)", x.ask(i, 1), BAD);
        }
        for (int n : new int[] {0, 201, -1, Integer.MIN_VALUE, Integer.MAX_VALUE}) {
            due("BAD ahead of NONE: ask(0, " + n + ")", x.ask(0, n), BAD);
            due("ask(1, " + n + ")", x.ask(1, n), BAD);
        }
        due("ask(1, 200)", x.ask(1, 200), 200);
        due("nothing is TOLD by asking", x.count(2), 2);
    }

    private static void bribedAsked() {
        says("`int bribed()`: BRIBED, as bits.");
        YearsLent x = new YearsLent();
        due("nothing TOLD", x.bribed(), 0);
        x.tell(0, 1, 49, true);
        due("50 are more than 49", x.bribed(), 0);
        x.tell(1, 1, 80, true);
        due("80 are not more than 80", x.bribed(), 2);
        x.tell(0, 1, 50, true);
        due("50 are not more than 50", x.bribed(), 6);
    }

    private static void says(String words) {
        check.says(words);
    }

    private static void due(String call, long got, long want) {
        check.due(call, got, want);
    }
}
