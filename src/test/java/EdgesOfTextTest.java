/** Each sentence on the text that names a boundary (section 1 and promises 1 to 5), with a test of its own. */
public final class EdgesOfTextTest {
    private static final int BAD = -1, NO = -2, FULL = -3, NONE = -4;
    private static final Check check = new Check();

    public static void main(String[] args) {
        aNewObject();
        asAtFirst();
        bytesWritten();
        threeHundredBytes();
        wiped();
        figures();
        signsBetween();
        weeksLeft();
        sixPersons();
        rates();
        rateWithout();
        kinds();
        kindWithout();
        laws();
        placeOfTheFault();
        faultOrNone();
        whatIsLaid();
        whatLayingEnds();
        check.finish("EdgesOfTextTest");
    }

    private static void aNewObject() {
        says("`YearsLent()`: As told; THE TEXT is empty.");
        YearsLent x = new YearsLent();
        int[] counts = {2, 0, 0, 0, 0, 0, 0};
        for (int what = 0; what < counts.length; what++) {
            due("count(" + what + ")", x.count(what), counts[what]);
        }
        due("fault()", x.fault(), NONE);
        due("lay() of the empty TEXT", x.lay(), NO);
        due("undo()", x.undo(), NO);
        due("back()", x.back(), NO);
        due("wipe()", x.wipe(), 0);
        due("write(1, ..)", x.write(1, 'p'), 1);
    }

    private static void asAtFirst() {
        says("at first p50;p80;).");
        YearsLent x = new YearsLent();
        due("WEEKS of 0", x.person(0, 0), 50);
        due("WEEKS of 1", x.person(1, 0), 80);
        due("there is no third", x.person(2, 0), BAD);
        due("LOST by 0", x.person(0, 1), 0);
        due("STRICT, INTEREST 10: 50 and 10 less 48 are more than 11", x.notary(1, 0, 10, 48), 1);
        due("STRICT, INTEREST 10: 50 and 10 less 49 are not", x.notary(1, 0, 10, 49), 0);
        x.lend(1, 0, 10, 5);
        x.lend(0, 1, 50, 5);
        Check.weeks(x, 5);
        due("PLAIN: 0 gives 4 of 11 ahead of what it gets", x.person(1, 1), 7);
        due("PLAIN: 0 has 1 and 55", x.person(0, 0), 56);
    }

    private static void bytesWritten() {
        says("`int write(int n, long v)`: The lowest n bytes (1 to 8) of v, the highest of these first, come behind THE TEXT:"
            + " how long it is. BAD; FULL.");
        YearsLent x = new YearsLent();
        for (int n : new int[] {0, 9, -1, -8, 64, Integer.MIN_VALUE, Integer.MAX_VALUE}) {
            due("write(" + n + ", ..)", x.write(n, 0x70373B), BAD);
        }
        due("nothing is written by that", x.count(5), 0);
        due("one byte, those above it do not count", x.write(1, 0x7FFFFFFFFFFFFF00L | 'p'), 1);
        due("one byte of a v below 0", x.write(1, -256L | '7'), 2);
        due("one byte", x.write(1, ';'), 3);
        due("eight bytes", x.write(8, 0x7031323B7033343BL), 11);
        due("three of four", x.write(3, 0x3B70393BL), 14);
        due("fault()", x.fault(), NONE);
        due("lay()", x.lay(), 4);
        int[] weeks = {7, 12, 34, 9};
        for (int i = 0; i < 4; i++) {
            due("WEEKS of " + i, x.person(i, 0), weeks[i]);
        }
        due("eight bytes of -1", x.write(8, -1L), 22);
        due("bytes of 255 are bytes", x.fault(), 14);
        due("the lowest long", x.write(8, Long.MIN_VALUE), 30);
    }

    private static void threeHundredBytes() {
        says("A TEXT is bytes (300 at most)");
        YearsLent x = new YearsLent();
        for (int k = 0; k < 98; k++) {
            x.write(3, 0x72373BL);
        }
        due("98 items of 3", x.count(5), 294);
        for (int n : new int[] {7, 8}) {
            due("write(" + n + ", ..) behind 294", x.write(n, -1), FULL);
        }
        due("nothing is written by that", x.count(5), 294);
        due("write(3, ..) behind 294", x.write(3, 0x70353BL), 297);
        due("write(4, ..) behind 297", x.write(4, 0x6B333B72L), FULL);
        due("write(2, ..) behind 297", x.write(2, 0x6B33L), 299);
        due("write(2, ..) behind 299", x.write(2, 0x3B3BL), FULL);
        due("write(1, ..) behind 299", x.write(1, ';'), 300);
        for (int n = 1; n <= 8; n++) {
            due("write(" + n + ", ..) behind 300", x.write(n, 0), FULL);
        }
        due("write(0, ..) behind 300", x.write(0, 0), BAD);
        due("write(9, ..) behind 300", x.write(9, 0), BAD);
        due("a number so great that a sum wraps around", x.write(Integer.MAX_VALUE, 0), BAD);
        due("all of it is as it was written", x.fault(), NONE);
        due("lay() of 300 bytes", x.lay(), 1);
        due("its one PERSON", x.person(0, 0), 5);
    }

    private static void wiped() {
        says("`int wipe()`: THE TEXT is empty: how long it was.");
        YearsLent x = new YearsLent();
        due("wipe() of nothing", x.wipe(), 0);
        for (int k = 0; k < 37; k++) {
            x.write(8, -1);
        }
        x.write(4, -1);
        due("wipe() of a full TEXT", x.wipe(), 300);
        due("count(5)", x.count(5), 0);
        due("fault() of nothing", x.fault(), NONE);
        due("wipe() again", x.wipe(), 0);
        due("there is room again", x.write(8, 0x7031323B7033343BL), 8);
        due("lay()", x.lay(), 2);
        due("wipe()", x.wipe(), 8);
        due("what is LAID stays", x.person(1, 0), 34);
    }

    private static void figures() {
        says("each a letter, numbers (one to three figures)");
        for (String letter : new String[] {"p", "r", "k", "n"}) {
            fault(letter + ";", 0);
            fault(letter + "1;", NONE);
            fault(letter + "01;", NONE);
            fault(letter + "001;", NONE);
            fault(letter + "0001;", 0);
            fault(letter + "1111;", 0);
            fault(letter + "-1;", 0);
            fault(letter + "+1;", 0);
            fault(letter + " 1;", 0);
            fault(letter + "1a;", 0);
            fault(letter + "1/;", 0);
            fault(letter + "1:;", 0);
            fault(letter + letter + "1;", 0);
        }
        fault("1;", 0);
        fault("01;", 0);
        fault(";", 0);
        fault("P1;", 0);
        fault("o1;", 0);
        fault("q1;", 0);
        fault("\0", 0);
        fault((char) ('p' + 128) + "1;", 0);
    }

    private static void signsBetween() {
        says("parted by , and ; (behind the last one, too):");
        fault("p1", 0);
        fault("p", 0);
        fault("p1;r5", 3);
        fault("p1;p2;p123", 6);
        fault("p1;p2;p123;", NONE);
        fault("p1,", 0);
        fault("p1,;", 0);
        fault("p1,2;", 0);
        fault("r1,2;", 0);
        fault("p1;;", 3);
        fault("p1; p2;", 3);
        fault("p1p2;", 0);
        fault("p1:", 0);
    }

    private static void weeksLeft() {
        says("pL a PERSON has L WEEKS left (1 to 999);");
        fault("p0;", 0);
        fault("p00;", 0);
        fault("p000;", 0);
        fault("p1;", NONE);
        fault("p999;", NONE);
        fault("p1000;", 0);
        due("WEEKS of p1;", Check.laid("p1;").person(0, 0), 1);
        due("WEEKS of p999;", Check.laid("p999;").person(0, 0), 999);
        due("WEEKS of p010;", Check.laid("p010;").person(0, 0), 10);
    }

    private static void sixPersons() {
        says("6 at most, 0, 1, ..");
        fault("p1;p2;p3;p4;p5;p6;", NONE);
        fault("p1;p2;p3;p4;p5;p6;p7;", 18);
        fault("p1;p2;p3;r50;p4;p5;p6;k1;p7;p8;", 25);
        fault("p1;p2;p3;p4;p5;p6;r5;k1;n1;r9;", NONE);
        YearsLent x = Check.laid("p11;p12;p13;p14;p15;p16;");
        due("count(0)", x.count(0), 6);
        for (int i = 0; i < 6; i++) {
            due("WEEKS of " + i, x.person(i, 0), 11 + i);
        }
        due("person(6, 0)", x.person(6, 0), BAD);
        due("person(-1, 0)", x.person(-1, 0), BAD);
    }

    /** What is DUE beyond n = 100 at that rate, seen by what a NOTARY says of one who has 100 WEEKS. */
    private static int interestOnHundred(String items) {
        YearsLent x = Check.laid("p999;p200;" + items);
        int d = 1;
        while (d < 200 && x.notary(0, 1, 100, d) == 1) {
            d++;
        }
        return 200 - d;
    }

    private static void rates() {
        says("rR INTEREST is R of a hundred (0 to 99) of what is lent");
        fault("r0;", NONE);
        fault("r99;", NONE);
        fault("r100;", 0);
        fault("r999;", 0);
        fault("p5;r100;", 3);
        due("INTEREST by r0;", interestOnHundred("r0;"), 0);
        due("INTEREST by r1;", interestOnHundred("r1;"), 1);
        due("INTEREST by r99;", interestOnHundred("r99;"), 99);
    }

    private static void rateWithout() {
        says("(10 without; of several such the last one counts)");
        due("INTEREST without", interestOnHundred(""), 10);
        due("INTEREST by the last one", interestOnHundred("r99;r0;r20;"), 20);
        due("INTEREST by the last one", interestOnHundred("r20;k0;r0;n0;"), 0);
        YearsLent x = Check.laid("p200;p999;r99;");
        x.wipe();
        Check.put(x, "p999;p200;");
        x.lay();
        due("what was LAID ahead does not stay: yes for 189", x.notary(0, 1, 100, 189), 1);
        due("what was LAID ahead does not stay: no for 190", x.notary(0, 1, 100, 190), 0);
    }

    /** LOST by 0, 2 and 3 by three LOANS to 1, who has 41 WEEKS when 12, 10 and 20 are due: unlike for each KIND. */
    private static int lostByKind(String items) {
        return lostOf(Check.laid("p100;p1;p100;p100;r0;n1;" + items));
    }

    private static int lostOf(YearsLent x) {
        x.lend(0, 1, 12, 2);
        x.lend(3, 1, 10, 2);
        x.lend(2, 1, 20, 2);
        Check.weeks(x, 2);
        return 10000 * x.person(0, 1) + 100 * x.person(2, 1) + x.person(3, 1);
    }

    private static void kinds() {
        says("kK LOANS are of KIND K:");
        fault("k0;", NONE);
        fault("k3;", NONE);
        fault("k4;", 0);
        fault("k999;", 0);
        fault("p5;k4;", 3);
        due("PLAIN: 2 gets 18 of 20", lostByKind("k0;"), 200);
        due("WHOLE: 2 gets nothing", lostByKind("k1;"), 2000);
        due("FIRST: 3 gets 8 of 10", lostByKind("k2;"), 2);
        due("PLEDGED: 2 gets 18, and 2 from 0", lostByKind("k3;"), 0);
    }

    private static void kindWithout() {
        says("0 PLAIN, 1 WHOLE, 2 FIRST, 3 PLEDGED (0 without; of several such the last one counts)");
        due("without", lostByKind(""), 200);
        due("the last one", lostByKind("k3;k0;k1;"), 2000);
        due("the last one", lostByKind("k1;k3;k2;"), 2);
        due("the last one", lostByKind("k1;r0;k0;n1;"), 200);
        YearsLent x = Check.laid("p9;k1;");
        x.wipe();
        Check.put(x, "p100;p1;p100;p100;r0;n1;");
        x.lay();
        due("what was LAID ahead does not stay", lostOf(x), 200);
    }

    /** 0 STRICT, 1 LAX, 2 SILENT, by what he says. */
    private static int lawOf(YearsLent x) {
        int easy = x.notary(0, 1, 1, 1);
        int hard = x.notary(0, 1, 1, 200);
        return easy == 1 && hard == 0 ? 0 : easy == 1 && hard == 1 ? 1 : easy == 0 && hard == 0 ? 2 : 9;
    }

    private static void laws() {
        says("nN the notary's LAW: 0 STRICT, 1 LAX, 2 SILENT (0 without; of several such the last one counts)");
        fault("n0;", NONE);
        fault("n2;", NONE);
        fault("n3;", 0);
        fault("n999;", 0);
        fault("p5;n3;", 3);
        due("n0;", lawOf(Check.laid("p50;p50;n0;")), 0);
        due("n1;", lawOf(Check.laid("p50;p50;n1;")), 1);
        due("n2;", lawOf(Check.laid("p50;p50;n2;")), 2);
        due("without", lawOf(Check.laid("p50;p50;")), 0);
        due("the last one", lawOf(Check.laid("p50;p50;n2;n0;n1;")), 1);
        due("the last one", lawOf(Check.laid("n1;p50;n2;p50;n0;r5;")), 0);
        YearsLent x = Check.laid("p9;n2;");
        x.wipe();
        Check.put(x, "p50;p50;");
        x.lay();
        due("what was LAID ahead does not stay", lawOf(x), 0);
    }

    private static void placeOfTheFault() {
        says("FAULT: the place (from 0 on) of the first byte of the first ITEM that is not so.");
        fault("p0;", 0);
        fault("p1;p0;", 3);
        fault("p1;p0;p0;q", 3);
        fault("p123;r99;n4;k9;", 9);
        fault("p123;r99;n2;k9;", 12);
        fault("p1;p12345;", 3);
        fault("p1;2;", 3);
        StringBuilder longest = new StringBuilder();
        for (int k = 0; k < 100; k++) {
            longest.append("r7;");
        }
        fault(longest.toString(), NONE);
        longest.setCharAt(299, '5');
        fault(longest.toString(), 297);
        longest.setCharAt(299, ';');
        longest.setCharAt(0, 'x');
        fault(longest.toString(), 0);
        fault(longest.substring(3) + "r", 297);
    }

    private static void faultOrNone() {
        says("`int fault()`: FAULT. NONE.");
        fault("", NONE);
        fault("r5;", NONE);
        fault("p5;", NONE);
        fault("x", 0);
        YearsLent x = Check.laid("p5;");
        Check.put(x, "p0;");
        due("fault() is of THE TEXT, not of what is LAID", x.fault(), 3);
        due("fault() again", x.fault(), 3);
        due("WEEKS as LAID", x.person(0, 0), 5);
        due("INTEREST as LAID", x.tell(0, 100, 1, true) * 1000 + x.span(0, 0), 1012);
    }

    private static void whatIsLaid() {
        says("LAID is a TEXT without FAULT, of a PERSON at least (NO else;");
        due("empty", layOf(""), NO);
        due("without a PERSON", layOf("r5;k1;n1;"), NO);
        due("a FAULT behind", layOf("p5;p0;"), NO);
        due("a FAULT ahead", layOf("x;p5;"), NO);
        due("not ended", layOf("p5;p6"), NO);
        due("seven", layOf("p1;p1;p1;p1;p1;p1;p1;"), NO);
        due("one", layOf("p5;"), 1);
        due("one behind others", layOf("r5;k1;n1;p5;"), 1);
        due("six", layOf("p1;p1;p1;p1;p1;p1;"), 6);
        YearsLent x = Check.laid("p70;r99;k3;n1;");
        x.wipe();
        Check.put(x, "p7;r0;k0;n2;x");
        due("lay() with a FAULT", x.lay(), NO);
        due("WEEKS stay", x.person(0, 0), 70);
        due("INTEREST stays", x.tell(0, 100, 1, true) * 1000 + x.span(0, 0), 1000 + 101);
    }

    private static void whatLayingEnds() {
        says("`int lay()`: LAID: how many PERSONS; no LOANS, nothing LOST, TOLD, UNDONE, KEPT; THE TEXT stays. NO.");
        YearsLent x = Check.laid("p100;p5;r50;k1;n1;");
        x.lend(0, 1, 50, 1);
        x.lend(0, 1, 20, 9);
        x.keep();
        x.week();
        x.tell(1, 5, 5, true);
        x.keep();
        int[] ahead = {2, 1, 1, 3, 2, 18, 1};
        for (int what = 0; what < ahead.length; what++) {
            due("count(" + what + ") ahead", x.count(what), ahead[what]);
        }
        due("LOST ahead: 74 are not more than 75", x.person(0, 1), 75);
        due("lay()", x.lay(), 2);
        int[] behind = {2, 0, 0, 0, 0, 18, 0};
        for (int what = 0; what < behind.length; what++) {
            due("count(" + what + ") behind", x.count(what), behind[what]);
        }
        due("no LOAN", x.loan(0, 0), BAD);
        due("undo()", x.undo(), NO);
        due("back()", x.back(), NO);
        due("WEEKS of 0", x.person(0, 0), 100);
        due("WEEKS of 1", x.person(1, 0), 5);
        due("nothing is OWED", x.person(1, 2), 0);
        due("nothing is LOST", x.person(0, 1), 0);
        due("nothing is LOST by all", x.drawn(0, 1, 1), 0);
        due("SPAN of 1", x.span(1, 0), 1);
        due("keep() twice again", x.keep() * 10 + x.keep(), 12);
        due("fault()", x.fault(), NONE);
        due("lay() again", x.lay(), 2);
        fewerPersons();
    }

    private static void fewerPersons() {
        YearsLent x = Check.laid("p9;p9;p9;p9;p9;p9;");
        x.wipe();
        Check.put(x, "p4;");
        due("lay() of one behind six", x.lay(), 1);
        due("person(1, 0)", x.person(1, 0), BAD);
        due("how many LIVE", x.week(), 1);
        due("a CHILD is given by one", x.child(2, 0), 2);
        x.wipe();
        Check.put(x, "p4;p3;p2;");
        due("lay() of three behind one", x.lay(), 3);
        due("how many LIVE", x.week(), 3);
        x.wipe();
        due("lay() of nothing", x.lay(), NO);
        due("PERSONS stay", x.count(0), 3);
        due("WEEKS stay", x.person(0, 0), 3);
    }

    private static int layOf(String text) {
        YearsLent x = new YearsLent();
        Check.put(x, text);
        return x.lay();
    }

    private static void fault(String text, int want) {
        YearsLent x = new YearsLent();
        Check.put(x, text);
        due("fault() of '" + text + "'", x.fault(), want);
    }

    private static void says(String words) {
        check.says(words);
    }

    private static void due(String call, long got, long want) {
        check.due(call, got, want);
    }
}
