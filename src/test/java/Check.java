/** Counts the answers of one test that are not as due. */
final class Check {
    private int asked = 0;
    private int wrong = 0;
    private String sentence = "";

    /** The sentence of the document by which the next answers are due. */
    void says(String words) {
        sentence = "";
        due("'" + words + "' is found once in the document", Doc.placeOf(words) >= 0 ? 1 : 0, 1);
        sentence = "'" + words + "': ";
    }

    void due(String call, long got, long want) {
        asked++;
        if (got != want) {
            wrong++;
            System.out.println(sentence + call + " answered " + got + ", due is " + want);
        }
    }

    void finish(String name) {
        System.out.println(name + ": " + asked + " answers, " + wrong + " not as due");
        System.exit(wrong == 0 && asked > 0 ? 0 : 1);
    }

    /** Writes signs 0 to 255, eight at a time; the answer is that of the last write. */
    static int put(YearsLent x, String signs) {
        int answer = 0;
        for (int start = 0; start < signs.length(); start += 8) {
            int n = Math.min(8, signs.length() - start);
            long v = 0;
            for (int k = 0; k < n; k++) {
                v = v << 8 | signs.charAt(start + k);
            }
            answer = x.write(n, v);
        }
        return answer;
    }

    static YearsLent laid(String signs) {
        YearsLent x = new YearsLent();
        put(x, signs);
        if (x.lay() < 1) {
            throw new IllegalArgumentException("no such text: " + signs);
        }
        return x;
    }

    static void weeks(YearsLent x, int n) {
        for (int k = 0; k < n; k++) {
            x.week();
        }
    }
}
