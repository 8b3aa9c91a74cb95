public final class YearsLent {
    public static final int BAD = -1, NO = -2, FULL = -3, NONE = -4;

    private static final int MOST_BYTES = 300, MOST_WRITTEN = 8, MOST_FIGURES = 3;
    private static final int MOST_PERSONS = 6, MOST_WEEKS_LAID = 999;
    private static final int MOST_LOANS = 8, MOST_LENT = 200, MOST_DUE_IN = 200;
    private static final int MOST_TOLD = 12, MOST_DEEDS = 6, MOST_KEPT = 2;
    private static final int MOST_RUN = 2000, FALL_WEEKS = 300, NEVER = 1000000;
    private static final int RATE_WITHOUT = 10, MOST_RATE = 99, HUNDRED = 100;
    private static final int MOST_WORTH = 99;
    private static final int MOST_ROW = 4, MOST_NUMBER = 12, MOST_SUM = 999;
    private static final int MOST_SEED = 9999, MOST_DRAWS = 60, DRAW_MODULUS = 65521;
    private static final int PLAIN = 0, WHOLE = 1, FIRST = 2, PLEDGED = 3;
    private static final int STRICT = 0, LAX = 1, SILENT = 2;

    private final Text text = new Text();
    private final Terms terms = new Terms();
    private final Terms draft = new Terms();
    private final Books books = new Books(terms);
    private final Trial trial = new Trial(terms);
    private final Trial fallen = new Trial(terms);
    private final Shelf deeds = new Shelf(MOST_DEEDS, terms);
    private final Shelf kept = new Shelf(MOST_KEPT, terms);
    private final Told told = new Told();
    private final Rings rings = new Rings();
    private final Gifts gifts = new Gifts();

    public YearsLent() {
        terms.clear();
        terms.addPerson(50);
        terms.addPerson(80);
        books.open();
    }

    public int write(int n, long v) {
        if (!within(n, 1, MOST_WRITTEN)) {
            return BAD;
        }
        if (text.length + n > MOST_BYTES) {
            return FULL;
        }
        text.append(n, v);
        return text.length;
    }

    public int wipe() {
        int was = text.length;
        text.length = 0;
        return was;
    }

    public int fault() {
        return draft.readFrom(text);
    }

    public int lay() {
        if (draft.readFrom(text) != NONE || draft.persons < 1) {
            return NO;
        }
        terms.copyFrom(draft);
        books.open();
        told.size = 0;
        deeds.size = 0;
        kept.size = 0;
        return terms.persons;
    }

    public int person(int i, int what) {
        if (!isPerson(i)) {
            return BAD;
        }
        switch (what) {
            case 0: return books.weeks[i];
            case 1: return books.lost[i];
            case 2: return books.owedToAll(i);
            default: return BAD;
        }
    }

    public int loan(int k, int what) {
        if (!within(k, 0, books.loans - 1)) {
            return BAD;
        }
        switch (what) {
            case 0: return books.lender[k];
            case 1: return books.borrower[k];
            case 2: return books.amount[k];
            case 3: return books.dueIn[k];
            default: return BAD;
        }
    }

    public int notary(int i, int j, int n, int d) {
        if (!books.isFit(i, j, n, d)) {
            return BAD;
        }
        return books.isGranted(i, j, n, d) ? 1 : 0;
    }

    public int lend(int i, int j, int n, int d) {
        int hindrance = books.hindrance(i, j, n, d);
        if (hindrance != 0) {
            return hindrance;
        }
        deeds.put(books);
        books.addLoan(i, j, n, d);
        return books.loans;
    }

    public int week() {
        deeds.put(books);
        books.pass(1);
        return books.living();
    }

    public int undo() {
        return deeds.takeInto(books);
    }

    public int dies(int i) {
        if (!isPerson(i)) {
            return BAD;
        }
        trial.start(books);
        trial.advance(MOST_RUN);
        return trial.deadIn[i] == NEVER ? NONE : trial.deadIn[i];
    }

    public int run(int n, int i, int what) {
        if (!within(n, 0, MOST_RUN) || !isPerson(i) || !within(what, 0, 2)) {
            return BAD;
        }
        trial.start(books);
        trial.advance(n);
        switch (what) {
            case 0: return trial.books.weeks[i];
            case 1: return trial.books.lost[i];
            default: return trial.books.living();
        }
    }

    public int tell(int i, int n, int d, boolean yes) {
        if (!isPerson(i) || !isLoanOf(n, d)) {
            return BAD;
        }
        if (told.size >= MOST_TOLD) {
            return FULL;
        }
        told.add(i, d + terms.interestOn(n), yes);
        return told.size;
    }

    public int forget() {
        int were = told.size;
        told.size = 0;
        return were;
    }

    public int span(int i, int what) {
        if (!isPerson(i) || !within(what, 0, 1)) {
            return BAD;
        }
        int least = told.least(i);
        int greatest = told.greatest(i);
        if (least > greatest) {
            return NONE;
        }
        return what == 0 ? least : greatest;
    }

    public int ask(int i, int n) {
        if (!isPerson(i) || !within(n, 1, MOST_LENT)) {
            return BAD;
        }
        return told.bestDue(i, terms.interestOn(n));
    }

    public int bribed() {
        return told.untrueOf(terms);
    }

    public int cleared(int i, int j) {
        boolean inAll = i == -1 && j == -1;
        if (!inAll && !(isPerson(i) && isPerson(j))) {
            return BAD;
        }
        rings.readFrom(books);
        int off = rings.clearAll();
        return inAll ? off : rings.owed[i][j];
    }

    public int child(int w, int i) {
        if (!within(w, 1, MOST_WORTH) || !books.isAlive(i)) {
            return BAD;
        }
        gifts.share(w, books);
        return gifts.takeAllOfOne(books) ? NO : gifts.gift[i];
    }

    public int falls(int i, int what) {
        if (!books.isAlive(i) || !within(what, 0, 1)) {
            return BAD;
        }
        trial.start(books);
        trial.advance(FALL_WEEKS);
        fallen.startWithout(i, books);
        fallen.advance(FALL_WEEKS);
        return what == 0 ? fallen.loansPaidLessThan(trial) : fallen.firstDeadEarlierThan(trial, i);
    }

    public int burned(int n, int m, int s, int i) {
        if (!within(n, 2, MOST_ROW) || !within(m, 1, MOST_NUMBER) || !within(s, 0, MOST_SUM) || !within(i, -1, n - 1)) {
            return BAD;
        }
        int rows = rowsOf(n, 1, m, s);
        if (i == -1) {
            return rows;
        }
        return rows == 0 ? NONE : numberOfFirstRow(n, m, s, i);
    }

    public int drawn(int z, int n, int what) {
        if (!within(z, 0, MOST_SEED) || !within(n, 1, MOST_DRAWS) || !within(what, 0, 1)) {
            return BAD;
        }
        trial.start(books);
        for (int t = 0; t < n; t++) {
            lendByDraw(trial.books, z, t);
            trial.advance(1);
        }
        return what == 0 ? trial.books.living() : trial.books.lostByAll();
    }

    public int keep() {
        if (kept.size >= MOST_KEPT) {
            return FULL;
        }
        kept.put(books);
        return kept.size;
    }

    public int back() {
        int left = kept.takeInto(books);
        if (left != NO) {
            deeds.size = 0;
        }
        return left;
    }

    public int count(int what) {
        switch (what) {
            case 0: return terms.persons;
            case 1: return books.loans;
            case 2: return told.size;
            case 3: return deeds.size;
            case 4: return kept.size;
            case 5: return text.length;
            case 6: return books.gone;
            default: return BAD;
        }
    }

    private boolean isPerson(int i) {
        return within(i, 0, terms.persons - 1);
    }

    private static boolean within(int number, int least, int greatest) {
        return number >= least && number <= greatest;
    }

    private static boolean isLoanOf(int n, int d) {
        return within(n, 1, MOST_LENT) && within(d, 1, MOST_DUE_IN);
    }

    private static int rowsOf(int numbers, int lowest, int highest, int sum) {
        if (numbers <= 0 || numbers > MOST_ROW) {
            return sum == 0 ? 1 : 0;
        }
        if (sum > numbers * highest) {
            return 0;
        }
        int rows = 0;
        for (int number = lowest; number <= highest && number * numbers <= sum; number++) {
            rows += rowsOf(numbers - 1, number, highest, sum - number);
        }
        return rows;
    }

    private static int numberOfFirstRow(int numbers, int highest, int sum, int place) {
        int number = 1;
        int rest = sum;
        for (int p = 0; p <= place; p++) {
            while (number < highest && rowsOf(numbers - p - 1, number, highest, rest - number) == 0) {
                number++;
            }
            rest -= number;
        }
        return number;
    }

    private void lendByDraw(Books drawnBooks, int z, int t) {
        int persons = terms.persons;
        if (persons < 1) {
            return;
        }
        int i = draw(z, t, 0) % persons;
        int j = draw(z, t, 1) % persons;
        int n = 1 + draw(z, t, 2) % 20;
        int d = 1 + draw(z, t, 3) % 30;
        if (drawnBooks.hindrance(i, j, n, d) == 0) {
            drawnBooks.addLoan(i, j, n, d);
        }
    }

    private static int draw(int z, int t, int k) {
        long x = 7919L * z + 6151L * t + 3571L * k + 1;
        return (int) (x * x % DRAW_MODULUS);
    }

    private static final class Text {
        final int[] bytes = new int[MOST_BYTES];
        int length;
        int letter;
        int number;
        int end;

        void append(int n, long v) {
            for (int k = n - 1; k >= 0 && length < MOST_BYTES; k--) {
                bytes[length] = (int) (v >>> (8 * k)) & 255;
                length++;
            }
        }

        // No letter takes more than one number, so a comma never stands in an item.
        boolean readItem(int start) {
            if (!within(start, 0, length - 1)) {
                return false;
            }
            letter = bytes[start];
            number = 0;
            int place = start + 1;
            while (place < length && place <= start + MOST_FIGURES && within(bytes[place], '0', '9')) {
                number = 10 * number + bytes[place] - '0';
                place++;
            }
            end = place + 1;
            return place > start + 1 && place < length && bytes[place] == ';';
        }
    }

    /** What a text says; read into a draft first, since one with a fault must not touch what is laid. */
    private static final class Terms {
        final int[] laid = new int[MOST_PERSONS];
        int persons;
        int rate;
        int kind;
        int law;

        void clear() {
            persons = 0;
            rate = RATE_WITHOUT;
            kind = PLAIN;
            law = STRICT;
        }

        void copyFrom(Terms other) {
            System.arraycopy(other.laid, 0, laid, 0, MOST_PERSONS);
            persons = other.persons;
            rate = other.rate;
            kind = other.kind;
            law = other.law;
        }

        int readFrom(Text text) {
            clear();
            int start = 0;
            while (start < text.length) {
                if (!text.readItem(start) || !accept(text.letter, text.number)) {
                    return start;
                }
                start = Math.max(start + 1, text.end);
            }
            return NONE;
        }

        // A number that is none for its letter may be set here all the same: terms with a fault are never laid.
        private boolean accept(int letter, int number) {
            switch (letter) {
                case 'p':
                    return addPerson(number);
                case 'r':
                    rate = number;
                    return within(number, 0, MOST_RATE);
                case 'k':
                    kind = number;
                    return within(number, PLAIN, PLEDGED);
                case 'n':
                    law = number;
                    return within(number, STRICT, SILENT);
                default:
                    return false;
            }
        }

        boolean addPerson(int weeks) {
            if (!within(weeks, 1, MOST_WEEKS_LAID) || persons >= MOST_PERSONS) {
                return false;
            }
            laid[persons] = weeks;
            persons++;
            return true;
        }

        int interestOn(int n) {
            return n * rate / HUNDRED;
        }
    }

    private static final class Books {
        final Terms terms;
        final int[] weeks = new int[MOST_PERSONS];
        final int[] lost = new int[MOST_PERSONS];
        final int[] lender = new int[MOST_LOANS];
        final int[] borrower = new int[MOST_LOANS];
        final int[] amount = new int[MOST_LOANS];
        final int[] dueIn = new int[MOST_LOANS];
        // A loan's place changes as others are paid; by its mark two trials still know it as the same.
        final int[] mark = new int[MOST_LOANS];
        final int[] paidByMark = new int[MOST_LOANS];
        int loans;
        int gone;

        Books(Terms terms) {
            this.terms = terms;
        }

        void open() {
            for (int i = 0; i < MOST_PERSONS; i++) {
                weeks[i] = i < terms.persons ? terms.laid[i] : 0;
                lost[i] = 0;
            }
            loans = 0;
            gone = 0;
        }

        void copyFrom(Books other) {
            System.arraycopy(other.weeks, 0, weeks, 0, MOST_PERSONS);
            System.arraycopy(other.lost, 0, lost, 0, MOST_PERSONS);
            System.arraycopy(other.lender, 0, lender, 0, MOST_LOANS);
            System.arraycopy(other.borrower, 0, borrower, 0, MOST_LOANS);
            System.arraycopy(other.amount, 0, amount, 0, MOST_LOANS);
            System.arraycopy(other.dueIn, 0, dueIn, 0, MOST_LOANS);
            loans = other.loans;
            gone = other.gone;
        }

        void markLoans() {
            for (int k = 0; k < MOST_LOANS; k++) {
                mark[k] = k;
                paidByMark[k] = 0;
            }
        }

        boolean isAlive(int i) {
            return within(i, 0, terms.persons - 1) && weeks[i] > 0;
        }

        int living() {
            int living = 0;
            for (int i = 0; i < terms.persons; i++) {
                living += isAlive(i) ? 1 : 0;
            }
            return living;
        }

        int lostByAll() {
            int all = 0;
            for (int i = 0; i < terms.persons; i++) {
                all += lost[i];
            }
            return all;
        }

        int owedToAll(int i) {
            int owed = 0;
            for (int k = 0; k < loans; k++) {
                owed += borrower[k] == i ? amount[k] : 0;
            }
            return owed;
        }

        boolean isFit(int i, int j, int n, int d) {
            return i != j && isAlive(i) && isAlive(j) && isLoanOf(n, d);
        }

        boolean isGranted(int i, int j, int n, int d) {
            switch (terms.law) {
                case STRICT: return weeks[i] > n && weeks[j] + n - d - dueFrom(j, d) > dueOn(n);
                case LAX: return weeks[i] > n;
                default: return false;
            }
        }

        int hindrance(int i, int j, int n, int d) {
            if (!isFit(i, j, n, d)) {
                return BAD;
            }
            if (!isGranted(i, j, n, d)) {
                return NO;
            }
            return loans >= MOST_LOANS ? FULL : 0;
        }

        void addLoan(int i, int j, int n, int d) {
            if (loans >= MOST_LOANS) {
                return;
            }
            lender[loans] = i;
            borrower[loans] = j;
            amount[loans] = n;
            dueIn[loans] = d;
            loans++;
            weeks[i] -= n;
            weeks[j] += n;
        }

        private int dueOn(int n) {
            return n + terms.interestOn(n);
        }

        private int dueFrom(int j, int d) {
            int due = 0;
            for (int k = 0; k < loans; k++) {
                due += borrower[k] == j && dueIn[k] <= d ? dueOn(amount[k]) : 0;
            }
            return due;
        }

        // Weeks ahead of the next payment are all alike, so that trials may let them go by at once.
        int weeksToNextDue(int most) {
            int next = most;
            for (int k = 0; k < loans; k++) {
                next = Math.min(next, dueIn[k]);
            }
            return Math.max(1, next);
        }

        // Only the last of these weeks may bring a payment.
        void pass(int span) {
            for (int i = 0; i < terms.persons; i++) {
                weeks[i] = Math.max(0, weeks[i] - span);
            }
            for (int k = 0; k < loans; k++) {
                dueIn[k] -= span;
            }
            payThoseDue();
            dropThoseDue();
            gone += span;
        }

        private void payThoseDue() {
            int ahead = terms.kind == FIRST ? greatestDue() : NONE;
            if (ahead != NONE) {
                pay(ahead);
            }
            for (int k = 0; k < loans; k++) {
                if (isDue(k) && k != ahead) {
                    pay(k);
                }
            }
        }

        private boolean isDue(int k) {
            return dueIn[k] <= 0;
        }

        private int greatestDue() {
            int greatest = NONE;
            for (int k = 0; k < loans; k++) {
                if (isDue(k) && (greatest == NONE || amount[k] > amount[greatest])) {
                    greatest = k;
                }
            }
            return greatest;
        }

        private void pay(int k) {
            int i = lender[k];
            int j = borrower[k];
            if (!isAlive(i)) {
                return;
            }
            int due = dueOn(amount[k]);
            int paid = give(j, i, terms.kind == WHOLE && weeks[j] <= due ? 0 : due);
            if (terms.kind == PLEDGED) {
                paid += give(lowestOther(i, j), i, due - paid);
            }
            paidByMark[mark[k]] = paid;
            lost[i] += due - paid;
        }

        private int give(int giver, int taker, int asked) {
            if (!isAlive(giver)) {
                return 0;
            }
            int given = Math.min(asked, weeks[giver] - 1);
            weeks[giver] -= given;
            weeks[taker] += given;
            return given;
        }

        private int lowestOther(int i, int j) {
            for (int other = 0; other < terms.persons; other++) {
                if (other != i && other != j && isAlive(other)) {
                    return other;
                }
            }
            return NONE;
        }

        private void dropThoseDue() {
            int left = 0;
            for (int k = 0; k < loans; k++) {
                if (!isDue(k)) {
                    lender[left] = lender[k];
                    borrower[left] = borrower[k];
                    amount[left] = amount[k];
                    dueIn[left] = dueIn[k];
                    mark[left] = mark[k];
                    left++;
                }
            }
            loans = left;
        }
    }

    /** Questions of what would be are tried on a copy, so that asking changes nothing. */
    private static final class Trial {
        final Books books;
        final int[] deadIn = new int[MOST_PERSONS];
        int passed;

        Trial(Terms terms) {
            books = new Books(terms);
        }

        void start(Books from) {
            books.copyFrom(from);
            books.markLoans();
            passed = 0;
            for (int i = 0; i < MOST_PERSONS; i++) {
                deadIn[i] = books.isAlive(i) ? NEVER : 0;
            }
        }

        void startWithout(int i, Books from) {
            start(from);
            if (books.isAlive(i)) {
                books.weeks[i] = 0;
                deadIn[i] = 0;
            }
        }

        void advance(int n) {
            for (int left = n; left > 0;) {
                int span = Math.max(1, books.weeksToNextDue(left));
                noteDeaths(span);
                books.pass(span);
                passed += span;
                left -= span;
            }
        }

        // Weeks are paid only behind those that go by: who has no more than these is dead, whatever is due then.
        private void noteDeaths(int span) {
            for (int i = 0; i < MOST_PERSONS; i++) {
                if (books.isAlive(i) && books.weeks[i] <= span) {
                    deadIn[i] = passed + books.weeks[i];
                }
            }
        }

        int loansPaidLessThan(Trial other) {
            int fewer = 0;
            for (int k = 0; k < MOST_LOANS; k++) {
                fewer += books.paidByMark[k] < other.books.paidByMark[k] ? 1 : 0;
            }
            return fewer;
        }

        int firstDeadEarlierThan(Trial other, int exempt) {
            int first = NONE;
            for (int i = 0; i < MOST_PERSONS; i++) {
                boolean earlier = i != exempt && deadIn[i] < other.deadIn[i];
                if (earlier && (first == NONE || deadIn[i] < deadIn[first])) {
                    first = i;
                }
            }
            return first;
        }
    }

    /** Books as they were. All copies are made at once and used again, since every deed needs one. */
    private static final class Shelf {
        final Books[] copies;
        int size;

        Shelf(int room, Terms terms) {
            copies = new Books[Math.max(1, room)];
            for (int k = 0; k < copies.length; k++) {
                copies[k] = new Books(terms);
            }
        }

        void put(Books books) {
            if (size >= copies.length) {
                moveLowestUp();
            }
            copies[size].copyFrom(books);
            size++;
        }

        private void moveLowestUp() {
            Books lowest = copies[0];
            for (int k = 1; k < copies.length; k++) {
                copies[k - 1] = copies[k];
            }
            size = copies.length - 1;
            copies[size] = lowest;
        }

        int takeInto(Books books) {
            if (!within(size, 1, copies.length)) {
                return NO;
            }
            size--;
            books.copyFrom(copies[size]);
            return size;
        }
    }

    private static final class Told {
        final int[] person = new int[MOST_TOLD];
        final int[] limit = new int[MOST_TOLD];
        final boolean[] isMore = new boolean[MOST_TOLD];
        int size;

        void add(int i, int weeks, boolean more) {
            if (size >= MOST_TOLD) {
                return;
            }
            person[size] = i;
            limit[size] = weeks;
            isMore[size] = more;
            size++;
        }

        int least(int i) {
            int least = 1;
            for (int t = 0; t < size; t++) {
                if (person[t] == i && isMore[t]) {
                    least = Math.max(least, limit[t] + 1);
                }
            }
            return least;
        }

        int greatest(int i) {
            int greatest = MOST_WEEKS_LAID;
            for (int t = 0; t < size; t++) {
                if (person[t] == i && !isMore[t]) {
                    greatest = Math.min(greatest, limit[t]);
                }
            }
            return greatest;
        }

        int bestDue(int i, int interest) {
            int least = least(i);
            int greatest = greatest(i);
            int best = NONE;
            int fewest = NEVER;
            for (int d = 1; d <= MOST_DUE_IN; d++) {
                int byNo = d + interest - least + 1;
                int byYes = greatest - d - interest;
                int more = Math.max(byNo, byYes);
                if (byNo > 0 && byYes > 0 && more < fewest) {
                    best = d;
                    fewest = more;
                }
            }
            return best;
        }

        int untrueOf(Terms terms) {
            int bits = 0;
            for (int t = 0; t < size; t++) {
                boolean more = terms.laid[person[t]] > limit[t];
                bits |= more == isMore[t] ? 0 : 1 << t;
            }
            return bits;
        }
    }

    private static final class Rings {
        final int[][] owed = new int[MOST_PERSONS][MOST_PERSONS];
        final int[] ring = new int[MOST_PERSONS];
        int persons;

        void readFrom(Books books) {
            persons = books.terms.persons;
            for (int i = 0; i < MOST_PERSONS; i++) {
                for (int j = 0; j < MOST_PERSONS; j++) {
                    owed[i][j] = 0;
                }
            }
            for (int k = 0; k < books.loans; k++) {
                owed[books.borrower[k]][books.lender[k]] += books.amount[k];
            }
        }

        // Each ring that is cleared ends one debt at least, and there are no more debts than loans.
        int clearAll() {
            int off = 0;
            for (int round = 0; round < MOST_LOANS; round++) {
                int length = findShortest();
                off += clear(length);
            }
            return off;
        }

        private int findShortest() {
            for (int length = 2; length <= persons; length++) {
                for (int lowest = 0; lowest < persons; lowest++) {
                    ring[0] = lowest;
                    if (closes(1, length)) {
                        return length;
                    }
                }
            }
            return 0;
        }

        // Only persons above the first are tried, in rising order: so the first ring found is the first as a row.
        private boolean closes(int placed, int length) {
            if (!within(placed, 1, MOST_PERSONS)) {
                return false;
            }
            int last = ring[placed - 1];
            if (placed >= length || placed >= MOST_PERSONS) {
                return owed[last][ring[0]] > 0;
            }
            for (int next = ring[0] + 1; next < persons; next++) {
                if (owed[last][next] > 0 && !isPlaced(next, placed)) {
                    ring[placed] = next;
                    if (closes(placed + 1, length)) {
                        return true;
                    }
                }
            }
            return false;
        }

        private boolean isPlaced(int i, int placed) {
            for (int p = 0; p < placed; p++) {
                if (ring[p] == i) {
                    return true;
                }
            }
            return false;
        }

        private int clear(int length) {
            if (!within(length, 2, MOST_PERSONS)) {
                return 0;
            }
            int least = NEVER;
            for (int p = 0; p < length; p++) {
                least = Math.min(least, owed[ring[p]][ring[(p + 1) % length]]);
            }
            for (int p = 0; p < length; p++) {
                owed[ring[p]][ring[(p + 1) % length]] -= least;
            }
            return least * length;
        }
    }

    private static final class Gifts {
        final int[] gift = new int[MOST_PERSONS];
        final int[] rest = new int[MOST_PERSONS];

        void share(int worth, Books books) {
            int all = 0;
            for (int i = 0; i < MOST_PERSONS; i++) {
                gift[i] = 0;
                rest[i] = 0;
                all += books.isAlive(i) ? books.weeks[i] : 0;
            }
            if (all < 1) {
                return;
            }
            int lacking = worth;
            for (int i = 0; i < MOST_PERSONS; i++) {
                if (books.isAlive(i)) {
                    gift[i] = worth * books.weeks[i] / all;
                    rest[i] = worth * books.weeks[i] % all;
                    lacking -= gift[i];
                }
            }
            for (int given = 0; given < lacking && given < MOST_PERSONS; given++) {
                addToGreatestRest();
            }
        }

        private void addToGreatestRest() {
            int greatest = 0;
            for (int i = 1; i < MOST_PERSONS; i++) {
                greatest = rest[i] > rest[greatest] ? i : greatest;
            }
            gift[greatest]++;
            rest[greatest] = 0;
        }

        boolean takeAllOfOne(Books books) {
            for (int i = 0; i < MOST_PERSONS; i++) {
                if (books.isAlive(i) && gift[i] >= books.weeks[i]) {
                    return true;
                }
            }
            return false;
        }
    }
}
