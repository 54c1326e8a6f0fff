import java.util.Arrays;

/** Figures for the year that must come out: counted by counties, published in January. */
public final class YearFigures {
    public static final int NONE = -1;

    /** There is no such answer, though the question can be asked. */
    private static final int CANT = -2;

    private static final int COUNTIES = 6;
    private static final int FIGURES = 6;
    private static final int MONTHS = 12;
    private static final int DECEMBER = 11;
    private static final int LAST_YEAR = 999;
    private static final int REMEMBERED = 8;
    private static final int MOST = 9999;
    private static final int RECORDS = 20;
    private static final int DEFINITIONS = 6;
    private static final int AGES = 100;

    private static final int TAPE = 260;
    private static final int LAW_BYTES = 240;
    private static final int REPORT_BYTES = 120;
    private static final int DEFINITION_BYTES = 80;
    private static final int MOST_RULES = 16;
    private static final int MOST_LINES = 20;
    private static final int MOST_OPEN = 6;
    private static final int MOST_CALLS_OUT = 200;
    private static final int END = -1;

    private static final int WRONG_SIGN = 1;
    private static final int TOO_LONG = 2;
    private static final int TOO_MANY = 4;
    private static final int TOO_DEEP = 5;
    private static final int NOT_TOLD = 7;

    /** A letter's place here is its place among the values that a text may ask for. */
    private static final String LETTERS = "cfastpmyrghq";
    private static final int VALUE_COUNTY = 0;
    private static final int VALUE_FIGURE = 1;
    private static final int VALUE_COUNT = 2;
    private static final int VALUE_SUM = 3;
    private static final int VALUE_TARGET = 4;
    private static final int VALUE_PEOPLE = 5;
    private static final int VALUE_MONTH = 6;
    private static final int VALUE_YEAR = 7;
    private static final int VALUE_RECORD = 8;
    private static final int VALUE_AGE = 9;
    private static final int VALUE_HOUR = 10;
    private static final int VALUE_KIND = 11;
    private static final int VALUES = 12;

    /** Signs that no text has, for the steps that stand for no operator. */
    private static final int STEP_NUMBER = 1;
    private static final int STEP_LETTER = 2;

    private final Tape tape;
    private final Office office;
    private final Books books;
    private final Books kept;
    private final Books trial;
    private final Program rules;
    private final Program draft;
    private final Program[] definitions;
    private final Parser parser;
    private final ReportReader reports;
    private final Machine machine;
    private final Calendar calendar;
    private final Sharing sharing;
    private final Corrections corrections;
    private final Archive archive;
    private final int[] under;
    private int toldDefinitions;
    private boolean isKept;

    public YearFigures() {
        tape = new Tape();
        office = new Office();
        books = new Books();
        kept = new Books();
        trial = new Books();
        rules = new Program(LAW_BYTES, MOST_RULES);
        draft = new Program(LAW_BYTES, MOST_RULES);
        definitions = new Program[DEFINITIONS];
        for (int d = 0; d < DEFINITIONS; d++) {
            definitions[d] = new Program(DEFINITION_BYTES, 1);
        }
        parser = new Parser(tape, draft);
        reports = new ReportReader(tape, office);
        machine = new Machine();
        calendar = new Calendar(office, rules, machine);
        sharing = new Sharing(office);
        corrections = new Corrections();
        archive = new Archive();
        under = new int[DEFINITIONS];
        toldDefinitions = 0;
        isKept = false;
    }

    public boolean county(int c, int people) {
        if (!within(c, 0, COUNTIES - 1) || !within(people, 0, MOST)) {
            return false;
        }
        office.people[c] = people;
        office.toldCounties |= 1 << c;
        return true;
    }

    public boolean next(int c, int b, boolean is) {
        if (!office.hasCounty(c) || !office.hasCounty(b) || c == b) {
            return false;
        }
        office.setNeighbour(c, b, is);
        office.setNeighbour(b, c, is);
        return true;
    }

    public boolean figure(int f, int target) {
        if (!within(f, 0, FIGURES - 1) || !within(target, 0, MOST)) {
            return false;
        }
        office.target[f] = target;
        office.toldFigures |= 1 << f;
        return true;
    }

    public boolean staff(int days) {
        if (!within(days, 0, MOST)) {
            return false;
        }
        office.staffDays = days;
        books.daysLeft = days;
        return true;
    }

    public int feed(int a, int b, int c, int d, int e) {
        if (tape.size > TAPE - 20) {
            return NONE;
        }
        tape.add(a);
        tape.add(b);
        tape.add(c);
        tape.add(d);
        tape.add(e);
        return tape.size;
    }

    public int law(int n) {
        if (!tape.has(n, 1, LAW_BYTES)) {
            return NONE;
        }
        int fault = parser.readRules(n);
        if (fault < 0) {
            return fault;
        }
        rules.takeOver(draft);
        return rules.ruleCount;
    }

    public int report(int n) {
        if (!tape.has(n, 1, REPORT_BYTES)) {
            return NONE;
        }
        int fault = reports.read(n);
        if (fault < 0) {
            return fault;
        }
        reports.enterInto(books);
        return reports.lines;
    }

    public int months(int n) {
        if (!within(n, 1, 60)) {
            return NONE;
        }
        calendar.goBy(books, n);
        return calendar.happened;
    }

    public int tried(int n, int what) {
        boolean asksFigure = office.hasFigure(what - 10);
        if (!within(n, 1, 60) || !(within(what, 0, 3) || asksFigure)) {
            return NONE;
        }
        trial.takeOver(books);
        calendar.goBy(trial, n);
        switch (what) {
            case 0:
                return calendar.happened;
            case 1:
                return trial.cameOut - books.cameOut;
            case 2:
                return calendar.daysUsed;
            case 3:
                return calendar.made;
            default:
                return trial.sumOf(what - 10);
        }
    }

    public int counted(int c, int f) {
        if (!office.hasCounty(c) || !office.hasFigure(f)) {
            return NONE;
        }
        return books.countOf(c, f);
    }

    public int figureIs(int f, int what) {
        if (!office.hasFigure(f)) {
            return NONE;
        }
        if (within(what, 10, 10 + DECEMBER)) {
            return books.historyOf(f, what - 10);
        }
        switch (what) {
            case 0:
                return office.targetOf(f);
            case 1:
                return books.sumOf(f);
            case 2:
                return books.forecastOf(f);
            case 3:
                trial.takeOver(books);
                return calendar.daysNeeded(trial, f);
            default:
                return NONE;
        }
    }

    public int share(int c, int many, int way) {
        if (!office.hasCounty(c) || !within(many, 0, 999) || !within(way, 0, 3)) {
            return NONE;
        }
        sharing.shareOut(many, way);
        return sharing.shareOf(c);
    }

    public int loses(int way, int what) {
        if (!within(way, 0, 3) || !within(what, 0, 1)) {
            return NONE;
        }
        if (!sharing.findLoss(way)) {
            return CANT;
        }
        return what == 0 ? sharing.lossNumber : sharing.lossCounty;
    }

    public int breaks(int many, int way) {
        if (!within(many, 0, 999) || !within(way, 0, 3)) {
            return NONE;
        }
        sharing.shareOut(many, way);
        return sharing.outsideQuota(many);
    }

    public int regions(int what) {
        if (what == 100) {
            return office.regionCount();
        }
        return office.hasCounty(what) ? office.regionOf(what) : NONE;
    }

    public int table(int counties, int figures, int base, int what) {
        if (!chosenFrom(counties, office.toldCounties, 4) || !chosenFrom(figures, office.toldFigures, 3)) {
            return NONE;
        }
        if (!within(base, 2, 50) || !within(what, 0, 1)) {
            return NONE;
        }
        if (!corrections.roundTable(books, counties, figures, base)) {
            return CANT;
        }
        return what == 0 ? corrections.tableOff : corrections.tableUp;
    }

    public int bled(int f, int what) {
        if (!office.hasFigure(f) || !within(what, 0, 2)) {
            return NONE;
        }
        sharing.compareWithShares(books, f);
        switch (what) {
            case 0:
                return sharing.allOver();
            case 1:
                return sharing.allUnder();
            default:
                return sharing.mostBled();
        }
    }

    public int canComeOut(int what) {
        if (!within(what, 0, 2)) {
            return NONE;
        }
        for (int f = 0; f < FIGURES; f++) {
            trial.takeOver(books);
            calendar.needs[f] = office.hasFigure(f) ? calendar.daysNeeded(trial, f) : CANT;
        }
        calendar.choosePlan(books.daysLeft);
        switch (what) {
            case 0:
                return Integer.bitCount(calendar.plan);
            case 1:
                return calendar.plan;
            default:
                return calendar.planDays;
        }
    }

    public boolean record(int r, int county, int age, int hour, int kind) {
        if (!within(r, 0, RECORDS - 1) || !within(county, 0, COUNTIES - 1)) {
            return false;
        }
        if (!within(age, 0, AGES - 1) || !within(hour, 0, 23) || !within(kind, 0, 9)) {
            return false;
        }
        archive.county[r] = county;
        archive.age[r] = age;
        archive.hour[r] = hour;
        archive.kind[r] = kind;
        archive.told |= 1 << r;
        return true;
    }

    public int definition(int d, int n) {
        if (!within(d, 0, DEFINITIONS - 1) || !tape.has(n, 1, DEFINITION_BYTES)) {
            return NONE;
        }
        int fault = parser.readDefinition(n);
        if (fault < 0) {
            return fault;
        }
        definitions[d].takeOver(draft);
        toldDefinitions |= 1 << d;
        return Integer.bitCount(recordsUnder(d));
    }

    public int fallsUnder(int d) {
        if (!within(d, 0, DEFINITIONS - 1) || !isIn(toldDefinitions, d)) {
            return NONE;
        }
        return recordsUnder(d);
    }

    public int joined(int many, int what) {
        if (!within(many, 0, RECORDS) || !within(what, 0, 1)) {
            return NONE;
        }
        for (int d = 0; d < DEFINITIONS; d++) {
            under[d] = isIn(toldDefinitions, d) ? recordsUnder(d) : 0;
        }
        int best = CANT;
        for (int set = 0; set < 1 << DEFINITIONS; set++) {
            boolean fits = (set & ~toldDefinitions) == 0 && Integer.bitCount(unionOf(set)) == many;
            if (fits && (best < 0 || Integer.bitCount(set) < Integer.bitCount(best))) {
                best = set;
            }
        }
        if (best < 0) {
            return CANT;
        }
        return what == 0 ? Integer.bitCount(best) : best;
    }

    public int window(int kind, int many, int what) {
        if (!within(kind, 0, 9) || !within(many, 1, RECORDS) || !within(what, 0, 1)) {
            return NONE;
        }
        if (!archive.findWindow(kind, many)) {
            return CANT;
        }
        return what == 0 ? archive.windowFrom : archive.windowTo;
    }

    public int middle(int kind, int what) {
        if (!within(kind, 0, 9) || !within(what, 0, 1)) {
            return NONE;
        }
        archive.countAges(kind);
        return what == 0 ? archive.middleAge() : archive.ofKind;
    }

    public int published(int f, int back) {
        if (!office.hasFigure(f) || !within(back, 0, REMEMBERED - 1)) {
            return NONE;
        }
        return books.publishedOf(f, back);
    }

    public int inARow(int f) {
        if (!office.hasFigure(f)) {
            return NONE;
        }
        int row = 0;
        for (int back = 0; back < REMEMBERED && row == back; back++) {
            if (books.publishedOf(f, back) == office.targetOf(f)) {
                row++;
            }
        }
        return row;
    }

    public int halves(int what) {
        if (!within(what, 0, 1)) {
            return NONE;
        }
        return what == 0 ? archive.twos() : archive.mostPairs();
    }

    public int rising(int f, int what) {
        if (!office.hasFigure(f) || !(within(what, 0, DECEMBER) || what == 100)) {
            return NONE;
        }
        corrections.makeRising(books, f);
        return what == 100 ? corrections.riseCost : corrections.risenTo(what);
    }

    public long spaced(int births, int days, int gap) {
        if (!within(births, 1, 12) || !within(days, 1, 60) || !within(gap, 1, 20)) {
            return NONE;
        }
        // Without the days that must stay empty between them, the births fall on any days that differ.
        int free = days - (births - 1) * (gap - 1);
        if (free < births) {
            return 0;
        }
        long ways = 1;
        for (int i = 1; i <= births; i++) {
            ways = ways * (free - births + i) / i;
        }
        return ways;
    }

    public boolean seed(int x) {
        if (!within(x, 0, 65535)) {
            return false;
        }
        books.drawn = x;
        return true;
    }

    public int keep() {
        kept.takeOver(books);
        isKept = true;
        return books.year;
    }

    public boolean undo() {
        if (!isKept) {
            return false;
        }
        books.takeOver(kept);
        return true;
    }

    public int check(int f, int n) {
        if (!office.hasFigure(f) || !tape.has(n, 0, COUNTIES)) {
            return CANT;
        }
        int wrong = NONE;
        for (int c = 0; c < n && wrong == NONE; c++) {
            if (tape.byteAt(c) != books.countOf(c, f) % 256) {
                wrong = c;
            }
        }
        tape.size = 0;
        return wrong;
    }

    public int count(int what) {
        if (within(what, 20, 20 + COUNTIES - 1)) {
            return office.hasCounty(what - 20) ? office.neighboursOf(what - 20) : NONE;
        }
        if (within(what, 30, 30 + COUNTIES - 1)) {
            return office.hasCounty(what - 30) ? office.peopleOf(what - 30) : NONE;
        }
        switch (what) {
            case 0:
                return books.year;
            case 1:
                return books.month;
            case 2:
                return office.toldCounties;
            case 3:
                return office.toldFigures;
            case 4:
                return books.cameOut;
            case 5:
                return books.daysLeft;
            case 6:
                return office.staffDays;
            case 7:
                return rules.ruleCount;
            case 8:
                return tape.size;
            case 9:
                return books.drawn;
            case 10:
                return archive.told;
            case 11:
                return toldDefinitions;
            case 12:
                return office.allPeople();
            default:
                return NONE;
        }
    }

    private int recordsUnder(int d) {
        int found = 0;
        for (int r = 0; r < RECORDS; r++) {
            if (isIn(archive.told, r)) {
                archive.tellValues(r, machine.values);
                if (machine.holds(definitions[d], 0)) {
                    found |= 1 << r;
                }
            }
        }
        return found;
    }

    private int unionOf(int set) {
        int union = 0;
        for (int d = 0; d < DEFINITIONS; d++) {
            if (isIn(set, d)) {
                union |= under[d];
            }
        }
        return union;
    }

    private static boolean within(int number, int least, int most) {
        return number >= least && number <= most;
    }

    private static boolean isIn(int bits, int place) {
        return (bits >> place & 1) == 1;
    }

    private static boolean chosenFrom(int bits, int told, int most) {
        return bits != 0 && (bits & ~told) == 0 && Integer.bitCount(bits) <= most;
    }

    /** The bytes that were fed and not yet read, and the place to which one of the readers has come. */
    private static final class Tape {
        private final int[] bytes = new int[TAPE];
        int size = 0;
        private int end = 0;
        private int place = 0;
        private int fault = 0;

        void add(int four) {
            for (int shift = 24; shift >= 0 && size < TAPE; shift -= 8) {
                bytes[size] = four >> shift & 255;
                size++;
            }
        }

        boolean has(int n, int least, int most) {
            return within(n, least, most) && n <= size;
        }

        int byteAt(int at) {
            return at >= 0 && at < size ? bytes[at] : END;
        }

        void startReading(int n) {
            end = n;
            place = 0;
            fault = 0;
        }

        /** 0, or the fault as it is answered; the tape is empty then. */
        int stopReading() {
            size = 0;
            return fault;
        }

        boolean isAtEnd() {
            return place >= end;
        }

        int sign() {
            return place < end && place < size ? bytes[place] : END;
        }

        boolean isAtDigit() {
            return within(sign(), '0', '9');
        }

        void step() {
            place++;
        }

        boolean take(int wanted) {
            if (sign() != wanted) {
                return fail(WRONG_SIGN);
            }
            place++;
            return true;
        }

        /** NONE behind a fault. */
        int takeNumber(int mostDigits) {
            if (!isAtDigit()) {
                fail(WRONG_SIGN);
                return NONE;
            }
            int number = 0;
            for (int digits = 0; digits < mostDigits && isAtDigit(); digits++) {
                number = number * 10 + sign() - '0';
                place++;
            }
            if (isAtDigit()) {
                fail(TOO_LONG);
                return NONE;
            }
            return number;
        }

        boolean fail(int number) {
            fault = -1000 * number - place;
            return false;
        }
    }

    /** What was told of counties, figures and the staff. */
    private static final class Office {
        final int[] people = new int[COUNTIES];
        final int[] target = new int[FIGURES];
        private final int[] neighbours = new int[COUNTIES];
        int toldCounties = 0;
        int toldFigures = 0;
        int staffDays = 0;

        boolean hasCounty(int c) {
            return within(c, 0, COUNTIES - 1) && isIn(toldCounties, c);
        }

        boolean hasFigure(int f) {
            return within(f, 0, FIGURES - 1) && isIn(toldFigures, f);
        }

        int peopleOf(int c) {
            return within(c, 0, COUNTIES - 1) ? people[c] : 0;
        }

        int targetOf(int f) {
            return within(f, 0, FIGURES - 1) ? target[f] : 0;
        }

        int neighboursOf(int c) {
            return within(c, 0, COUNTIES - 1) ? neighbours[c] : 0;
        }

        void setNeighbour(int c, int b, boolean is) {
            if (within(c, 0, COUNTIES - 1)) {
                neighbours[c] = is ? neighbours[c] | 1 << b : neighbours[c] & ~(1 << b);
            }
        }

        int allPeople() {
            int all = 0;
            for (int c = 0; c < COUNTIES; c++) {
                all += people[c];
            }
            return all;
        }

        int neighboursOfAll(int counties) {
            int found = 0;
            for (int c = 0; c < COUNTIES; c++) {
                if (isIn(counties, c)) {
                    found |= neighbours[c];
                }
            }
            return found;
        }

        int regionOf(int c) {
            int region = 1 << c;
            for (int step = 0; step < COUNTIES; step++) {
                region |= neighboursOfAll(region);
            }
            return region;
        }

        int regionCount() {
            int seen = 0;
            int regions = 0;
            for (int c = 0; c < COUNTIES; c++) {
                if (isIn(toldCounties & ~seen, c)) {
                    seen |= regionOf(c);
                    regions++;
                }
            }
            return regions;
        }
    }

    /** All that months change, and that can be kept and undone. */
    private static final class Books {
        private final int[] counts = new int[COUNTIES * FIGURES];
        /** Kept beside the counts, for the law asks for a figure's sum at every step. */
        private final int[] sums = new int[FIGURES];
        private final int[] history = new int[FIGURES * MONTHS];
        private final int[] published = new int[REMEMBERED * FIGURES];
        int month = 0;
        int year = 0;
        int daysLeft = 0;
        int cameOut = 0;
        int drawn = 1;

        Books() {
            Arrays.fill(published, CANT);
        }

        void takeOver(Books other) {
            System.arraycopy(other.counts, 0, counts, 0, counts.length);
            System.arraycopy(other.sums, 0, sums, 0, sums.length);
            System.arraycopy(other.history, 0, history, 0, history.length);
            System.arraycopy(other.published, 0, published, 0, published.length);
            month = other.month;
            year = other.year;
            daysLeft = other.daysLeft;
            cameOut = other.cameOut;
            drawn = other.drawn;
        }

        int countOf(int c, int f) {
            return within(c, 0, COUNTIES - 1) && within(f, 0, FIGURES - 1) ? counts[c * FIGURES + f] : 0;
        }

        int historyOf(int f, int m) {
            return within(f, 0, FIGURES - 1) && within(m, 0, DECEMBER) ? history[f * MONTHS + m] : 0;
        }

        int publishedOf(int f, int back) {
            boolean isPlace = within(f, 0, FIGURES - 1) && within(back, 0, REMEMBERED - 1);
            return isPlace ? published[back * FIGURES + f] : CANT;
        }

        int sumOf(int f) {
            return within(f, 0, FIGURES - 1) ? sums[f] : 0;
        }

        int forecastOf(int f) {
            if (month < 1) {
                return CANT;
            }
            int sum = 0;
            for (int m = 0; m < month; m++) {
                sum += historyOf(f, m);
            }
            return (2 * MONTHS * sum + month) / (2 * month);
        }

        void change(int c, int f, int by) {
            if (within(c, 0, COUNTIES - 1) && within(f, 0, FIGURES - 1)) {
                int place = c * FIGURES + f;
                sums[f] -= counts[place];
                counts[place] = Math.max(0, Math.min(MOST, counts[place] + by));
                sums[f] += counts[place];
            }
        }

        void addToHistory(int f, int many) {
            if (within(f, 0, FIGURES - 1) && within(month, 0, DECEMBER)) {
                int place = f * MONTHS + month;
                history[place] = Math.min(MOST, history[place] + many);
            }
        }

        int draw() {
            drawn = 25173 * drawn + 13849 & 65535;
            return drawn % 10;
        }

        void closeYear(Office office) {
            System.arraycopy(published, 0, published, FIGURES, published.length - FIGURES);
            for (int f = 0; f < FIGURES; f++) {
                published[f] = office.hasFigure(f) ? sumOf(f) : CANT;
                if (office.hasFigure(f) && published[f] == office.targetOf(f)) {
                    cameOut++;
                }
            }
            Arrays.fill(counts, 0);
            Arrays.fill(sums, 0);
            Arrays.fill(history, 0);
            daysLeft = office.staffDays;
            month = 0;
            year++;
        }
    }

    /**
     * A text as steps of a machine with a stack: the steps of a rule's E, then those of its C.
     * A definition is a program with one rule without an E.
     */
    private static final class Program {
        final int[] steps;
        final int[] arguments;
        private final int[] letter;
        final int[] startOfE;
        final int[] startOfC;
        final int[] endOfC;
        int length = 0;
        int ruleCount = 0;

        Program(int bytes, int mostRules) {
            steps = new int[bytes];
            arguments = new int[bytes];
            letter = new int[mostRules];
            startOfE = new int[mostRules];
            startOfC = new int[mostRules];
            endOfC = new int[mostRules];
        }

        void takeOver(Program other) {
            length = Math.min(other.length, steps.length);
            ruleCount = Math.min(other.ruleCount, letter.length);
            System.arraycopy(other.steps, 0, steps, 0, length);
            System.arraycopy(other.arguments, 0, arguments, 0, length);
            System.arraycopy(other.letter, 0, letter, 0, ruleCount);
            System.arraycopy(other.startOfE, 0, startOfE, 0, ruleCount);
            System.arraycopy(other.startOfC, 0, startOfC, 0, ruleCount);
            System.arraycopy(other.endOfC, 0, endOfC, 0, ruleCount);
        }

        void clear() {
            length = 0;
            ruleCount = 0;
        }

        int add(int step, int argument) {
            if (length >= steps.length) {
                return length;
            }
            steps[length] = step;
            arguments[length] = argument;
            length++;
            return length - 1;
        }

        void leadHere(int place) {
            if (within(place, 0, length - 1)) {
                arguments[place] = length;
            }
        }

        void openRule(int sign) {
            if (ruleCount < letter.length) {
                letter[ruleCount] = sign;
                startOfE[ruleCount] = length;
                startOfC[ruleCount] = length;
            }
        }

        void openCondition() {
            if (ruleCount < letter.length) {
                startOfC[ruleCount] = length;
            }
        }

        void closeRule() {
            if (ruleCount < letter.length) {
                endOfC[ruleCount] = length;
                ruleCount++;
            }
        }

        int letterOf(int rule) {
            return within(rule, 0, ruleCount - 1) ? letter[rule] : END;
        }
    }

    /** Reads laws and definitions from the tape, once from the left, and stops at the first fault. */
    private static final class Parser {
        private final Tape text;
        private final Program into;

        Parser(Tape text, Program into) {
            this.text = text;
            this.into = into;
        }

        /** 0, or the fault as it is answered. */
        int readRules(int n) {
            text.startReading(n);
            into.clear();
            boolean goesOn = readRule();
            for (int i = 0; i < LAW_BYTES && goesOn && !text.isAtEnd(); i++) {
                goesOn = text.take(';') && readRule();
            }
            return text.stopReading();
        }

        /** 0, or the fault as it is answered. */
        int readDefinition(int n) {
            text.startReading(n);
            into.clear();
            into.openRule('(');
            if (readBracketed(0)) {
                into.closeRule();
                text.take(END);
            }
            return text.stopReading();
        }

        private boolean readRule() {
            int letter = text.sign();
            if (letter != 'n' && letter != 'd' && letter != 'k' && letter != 'x') {
                return text.fail(WRONG_SIGN);
            }
            if (into.ruleCount >= MOST_RULES) {
                return text.fail(TOO_MANY);
            }
            text.step();
            into.openRule(letter);
            if (letter != 'x' && !readE(0)) {
                return false;
            }
            into.openCondition();
            if (!readBracketed(0)) {
                return false;
            }
            into.closeRule();
            return true;
        }

        private boolean readBracketed(int open) {
            if (text.sign() != '(') {
                return text.fail(WRONG_SIGN);
            }
            if (open >= MOST_OPEN) {
                return text.fail(TOO_DEEP);
            }
            text.step();
            return readC(open + 1) && text.take(')');
        }

        private boolean readC(int open) {
            boolean goesOn = readPart(open);
            for (int i = 0; i < LAW_BYTES && goesOn && text.sign() == '|'; i++) {
                text.step();
                int jump = into.add('|', 0);
                goesOn = readPart(open);
                into.leadHere(jump);
            }
            return goesOn;
        }

        private boolean readPart(int open) {
            boolean goesOn = readTest(open);
            for (int i = 0; i < LAW_BYTES && goesOn && text.sign() == '&'; i++) {
                text.step();
                int jump = into.add('&', 0);
                goesOn = readTest(open);
                into.leadHere(jump);
            }
            return goesOn;
        }

        private boolean readTest(int open) {
            if (text.sign() == '(') {
                return readBracketed(open);
            }
            if (text.sign() == '!') {
                return readNot(open);
            }
            if (!readE(open)) {
                return false;
            }
            int comparison = text.sign();
            if (comparison != '<' && comparison != '>' && comparison != '=') {
                return text.fail(WRONG_SIGN);
            }
            text.step();
            if (!readE(open)) {
                return false;
            }
            into.add(comparison, 0);
            return true;
        }

        private boolean readNot(int open) {
            if (open >= MOST_OPEN) {
                return text.fail(TOO_DEEP);
            }
            text.step();
            if (!readTest(open + 1)) {
                return false;
            }
            into.add('!', 0);
            return true;
        }

        private boolean readE(int open) {
            boolean goesOn = readTerm(open);
            for (int i = 0; i < LAW_BYTES && goesOn && isSum(text.sign()); i++) {
                int operator = text.sign();
                text.step();
                goesOn = readTerm(open);
                into.add(operator, 0);
            }
            return goesOn;
        }

        private boolean readTerm(int open) {
            boolean goesOn = readFactor(open);
            for (int i = 0; i < LAW_BYTES && goesOn && isProduct(text.sign()); i++) {
                int operator = text.sign();
                text.step();
                goesOn = readFactor(open);
                into.add(operator, 0);
            }
            return goesOn;
        }

        private boolean readFactor(int open) {
            if (text.sign() == '[') {
                if (open >= MOST_OPEN) {
                    return text.fail(TOO_DEEP);
                }
                text.step();
                return readE(open + 1) && text.take(']');
            }
            if (text.isAtDigit()) {
                int number = text.takeNumber(5);
                into.add(STEP_NUMBER, number);
                return number != NONE;
            }
            int letter = text.isAtEnd() ? NONE : LETTERS.indexOf((char) text.sign());
            if (letter < 0) {
                return text.fail(WRONG_SIGN);
            }
            text.step();
            into.add(STEP_LETTER, letter);
            return true;
        }

        private static boolean isSum(int sign) {
            return sign == '+' || sign == '-';
        }

        private static boolean isProduct(int sign) {
            return sign == '*' || sign == '/' || sign == '%';
        }
    }

    /** Reads reports from the tape; their lines are held until all are found to be without a fault. */
    private static final class ReportReader {
        private final Tape text;
        private final Office office;
        private final int[] county = new int[MOST_LINES];
        private final int[] figure = new int[MOST_LINES];
        private final int[] change = new int[MOST_LINES];
        int lines = 0;

        ReportReader(Tape text, Office office) {
            this.text = text;
            this.office = office;
        }

        /** 0, or the fault as it is answered. */
        int read(int n) {
            text.startReading(n);
            lines = 0;
            boolean goesOn = readLine();
            for (int i = 0; i < REPORT_BYTES && goesOn && !text.isAtEnd(); i++) {
                goesOn = text.take(';') && readLine();
            }
            return text.stopReading();
        }

        void enterInto(Books books) {
            for (int i = 0; i < lines && i < MOST_LINES; i++) {
                books.change(county[i], figure[i], change[i]);
            }
        }

        private boolean readLine() {
            int c = text.sign() - 'a';
            if (!within(c, 0, COUNTIES - 1)) {
                return text.fail(WRONG_SIGN);
            }
            if (lines >= MOST_LINES) {
                return text.fail(TOO_MANY);
            }
            if (!office.hasCounty(c)) {
                return text.fail(NOT_TOLD);
            }
            text.step();
            int f = text.sign() - '0';
            if (!within(f, 0, FIGURES - 1)) {
                return text.fail(WRONG_SIGN);
            }
            if (!office.hasFigure(f)) {
                return text.fail(NOT_TOLD);
            }
            text.step();
            county[lines] = c;
            figure[lines] = f;
            return readChange();
        }

        private boolean readChange() {
            int direction = text.sign();
            if (direction != '+' && direction != '-') {
                return text.fail(WRONG_SIGN);
            }
            text.step();
            int number = text.takeNumber(3);
            if (number == NONE || lines >= MOST_LINES) {
                return false;
            }
            change[lines] = direction == '+' ? number : -number;
            lines++;
            return true;
        }
    }

    /** Runs programs over the values of the letters. */
    private static final class Machine {
        /** Each of the six open brackets holds back at most a left side of =, + and *. */
        private static final int STACK = 64;

        final int[] values = new int[VALUES];
        private final int[] stack = new int[STACK];

        boolean holds(Program program, int rule) {
            if (!within(rule, 0, program.ruleCount - 1)) {
                return false;
            }
            return result(program, program.startOfC[rule], program.endOfC[rule]) != 0;
        }

        int valueOfE(Program program, int rule) {
            if (!within(rule, 0, program.ruleCount - 1)) {
                return 0;
            }
            return result(program, program.startOfE[rule], program.startOfC[rule]);
        }

        /** 0 if a division by 0 was refused: for a C that is "does not hold". */
        private int result(Program program, int from, int to) {
            int[] steps = program.steps;
            int[] arguments = program.arguments;
            int end = Math.min(to, Math.min(steps.length, arguments.length));
            int top = -1;
            int at = Math.max(0, from);
            for (int done = 0; done < LAW_BYTES && at < end; done++) {
                int step = steps[at];
                int argument = arguments[at];
                at++;
                if (step == STEP_NUMBER || step == STEP_LETTER) {
                    top++;
                    if (top >= STACK) {
                        return 0;
                    }
                    stack[top] = step == STEP_NUMBER ? argument : valueAt(argument);
                } else if (top < 0) {
                    return 0;
                } else if (step == '!') {
                    stack[top] = 1 - stack[top];
                } else if (step == '&' || step == '|') {
                    // What is on top is the answer already, or it does not matter any more.
                    boolean isDecided = stack[top] == (step == '|' ? 1 : 0);
                    at = isDecided ? Math.max(at, argument) : at;
                    top = isDecided ? top : top - 1;
                } else if (top < 1 || isRefused(step, stack[top])) {
                    return 0;
                } else {
                    top--;
                    stack[top] = combined(step, stack[top], stack[top + 1]);
                }
            }
            return top < 0 ? 0 : stack[top];
        }

        private int valueAt(int letter) {
            return letter >= 0 && letter < VALUES ? values[letter] : 0;
        }

        private static boolean isRefused(int operator, int right) {
            return right == 0 && (operator == '/' || operator == '%');
        }

        private static int combined(int operator, int left, int right) {
            switch (operator) {
                case '+':
                    return left + right;
                case '-':
                    return left - right;
                case '*':
                    return left * right;
                case '/':
                    return right == 0 ? 0 : left / right;
                case '%':
                    return right == 0 ? 0 : left % right;
                case '<':
                    return left < right ? 1 : 0;
                case '>':
                    return left > right ? 1 : 0;
                default:
                    return left == right ? 1 : 0;
            }
        }
    }

    /** Lets months go by over books, by the law, and sends the staff out in December. */
    private static final class Calendar {
        private final Office office;
        private final Program rules;
        private final Machine machine;
        final int[] needs = new int[FIGURES];
        int happened = 0;
        int daysUsed = 0;
        int made = 0;
        int plan = 0;
        int planDays = 0;
        private int leastDays = 0;

        Calendar(Office office, Program rules, Machine machine) {
            this.office = office;
            this.rules = rules;
            this.machine = machine;
        }

        void goBy(Books books, int n) {
            happened = 0;
            daysUsed = 0;
            made = 0;
            for (int i = 0; i < n && books.year < LAST_YEAR; i++) {
                for (int c = 0; c < COUNTIES; c++) {
                    if (office.hasCounty(c)) {
                        letHappen(books, c);
                    }
                }
                if (books.month < DECEMBER) {
                    books.month++;
                } else {
                    sendStaff(books);
                    books.closeYear(office);
                }
            }
        }

        private void letHappen(Books books, int c) {
            for (int f = 0; f < FIGURES; f++) {
                if (office.hasFigure(f)) {
                    tellValues(books, c, f, books.month);
                    int many = asked('n', 99);
                    int tenths = asked('d', 10);
                    boolean isCounted = !isLeftOut();
                    if (books.draw() < tenths) {
                        many++;
                    }
                    happened += many;
                    if (isCounted) {
                        books.change(c, f, many);
                        books.addToHistory(f, many);
                    }
                }
            }
        }

        private void sendStaff(Books books) {
            for (int f = 0; f < FIGURES; f++) {
                boolean goesOn = office.hasFigure(f);
                for (int i = 0; i < MOST_CALLS_OUT && goesOn && books.sumOf(f) < office.targetOf(f); i++) {
                    int c = cheapestCounty(books, f);
                    goesOn = c != NONE && leastDays <= books.daysLeft;
                    if (goesOn) {
                        books.change(c, f, 1);
                        books.daysLeft -= leastDays;
                        daysUsed += leastDays;
                        made++;
                    }
                }
            }
        }

        /** What it changes in the books is of no use behind it: they are a trial. */
        int daysNeeded(Books books, int f) {
            int missing = office.targetOf(f) - books.sumOf(f);
            if (!within(missing, 0, MOST_CALLS_OUT)) {
                return CANT;
            }
            int days = 0;
            for (int i = 0; i < missing; i++) {
                int c = cheapestCounty(books, f);
                if (c == NONE) {
                    return CANT;
                }
                books.change(c, f, 1);
                days += leastDays;
            }
            return days;
        }

        /** Of the figures with needs that are told, those that the days are enough for. */
        void choosePlan(int days) {
            plan = 0;
            planDays = 0;
            for (int set = 1; set < 1 << FIGURES; set++) {
                int used = daysOfAll(set);
                int more = Integer.bitCount(set) - Integer.bitCount(plan);
                if (used != CANT && used <= days && (more > 0 || more == 0 && used < planDays)) {
                    plan = set;
                    planDays = used;
                }
            }
        }

        private int daysOfAll(int set) {
            int days = 0;
            for (int f = 0; f < FIGURES; f++) {
                if (isIn(set, f)) {
                    if (needs[f] == CANT) {
                        return CANT;
                    }
                    days += needs[f];
                }
            }
            return days;
        }

        private int cheapestCounty(Books books, int f) {
            int best = NONE;
            for (int c = 0; c < COUNTIES; c++) {
                if (office.hasCounty(c)) {
                    tellValues(books, c, f, DECEMBER);
                    int days = asked('k', 99);
                    if (best == NONE || days < leastDays) {
                        best = c;
                        leastDays = days;
                    }
                }
            }
            return best;
        }

        private void tellValues(Books books, int c, int f, int month) {
            int[] values = machine.values;
            Arrays.fill(values, 0);
            values[VALUE_COUNTY] = c;
            values[VALUE_FIGURE] = f;
            values[VALUE_COUNT] = books.countOf(c, f);
            values[VALUE_SUM] = books.sumOf(f);
            values[VALUE_TARGET] = office.targetOf(f);
            values[VALUE_PEOPLE] = office.peopleOf(c);
            values[VALUE_MONTH] = month;
            values[VALUE_YEAR] = books.year;
        }

        private int asked(int letter, int most) {
            for (int rule = 0; rule < rules.ruleCount; rule++) {
                if (rules.letterOf(rule) == letter && machine.holds(rules, rule)) {
                    return Math.max(0, Math.min(most, machine.valueOfE(rules, rule)));
                }
            }
            return 0;
        }

        private boolean isLeftOut() {
            for (int rule = 0; rule < rules.ruleCount; rule++) {
                if (rules.letterOf(rule) == 'x' && machine.holds(rules, rule)) {
                    return true;
                }
            }
            return false;
        }
    }

    /** Shares by people, and what is over and under them. */
    private static final class Sharing {
        private final Office office;
        private final int[] shares = new int[COUNTIES];
        private final int[] before = new int[COUNTIES];
        private final int[] rest = new int[COUNTIES];
        private final int[] over = new int[COUNTIES];
        private final int[] below = new int[COUNTIES];
        int lossNumber = 0;
        int lossCounty = 0;

        Sharing(Office office) {
            this.office = office;
        }

        int shareOf(int c) {
            return within(c, 0, COUNTIES - 1) ? shares[c] : 0;
        }

        void shareOut(int many, int way) {
            Arrays.fill(shares, 0);
            int all = office.allPeople();
            if (all <= 0) {
                return;
            }
            if (way == 0) {
                shareByRests(many, all);
            } else {
                shareOneByOne(many, way);
            }
        }

        private void shareByRests(int many, int all) {
            int left = many;
            for (int c = 0; c < COUNTIES && all > 0; c++) {
                int product = office.peopleOf(c) * many;
                shares[c] = product / all;
                rest[c] = product % all;
                left -= shares[c];
            }
            for (int i = 0; i < COUNTIES && left > 0; i++) {
                int best = 0;
                for (int c = 1; c < COUNTIES; c++) {
                    if (rest[c] > rest[best]) {
                        best = c;
                    }
                }
                shares[best]++;
                rest[best] = -1;
                left--;
            }
        }

        private void shareOneByOne(int many, int way) {
            for (int i = 0; i < many; i++) {
                int best = NONE;
                for (int c = 0; c < COUNTIES; c++) {
                    if (office.peopleOf(c) > 0 && (best == NONE || isAhead(c, best, way))) {
                        best = c;
                    }
                }
                if (best != NONE) {
                    shares[best]++;
                }
            }
        }

        /** Multiplied across, so that a county with the divisor 0 is ahead of all that have another. */
        private boolean isAhead(int c, int other, int way) {
            int mine = office.peopleOf(c) * divisor(shareOf(other), way);
            int theirs = office.peopleOf(other) * divisor(shareOf(c), way);
            return mine > theirs;
        }

        private static int divisor(int has, int way) {
            switch (way) {
                case 1:
                    return has + 1;
                case 2:
                    return 2 * has + 1;
                default:
                    return has;
            }
        }

        boolean findLoss(int way) {
            // The other ways share one by one: one more to share takes nothing away.
            for (int many = 0; many <= 60 && way == 0; many++) {
                shareOut(many, way);
                System.arraycopy(shares, 0, before, 0, COUNTIES);
                shareOut(many + 1, way);
                for (int c = 0; c < COUNTIES; c++) {
                    if (shares[c] < before[c]) {
                        lossNumber = many;
                        lossCounty = c;
                        return true;
                    }
                }
            }
            return false;
        }

        /** By the shares of so many that were made last. */
        int outsideQuota(int many) {
            int all = office.allPeople();
            int found = 0;
            for (int c = 0; c < COUNTIES && all > 0; c++) {
                int product = office.peopleOf(c) * many;
                if (shares[c] < product / all || shares[c] > (product + all - 1) / all) {
                    found |= 1 << c;
                }
            }
            return found;
        }

        void compareWithShares(Books books, int f) {
            shareOut(office.targetOf(f), 0);
            for (int c = 0; c < COUNTIES; c++) {
                int more = books.countOf(c, f) - shares[c];
                over[c] = Math.max(0, more);
                below[c] = Math.max(0, -more);
            }
        }

        int allOver() {
            return sumOfThose(over, (1 << COUNTIES) - 1);
        }

        int allUnder() {
            return sumOfThose(below, (1 << COUNTIES) - 1);
        }

        /** The most that flows is the least that cuts all ways from those over to those under. */
        int mostBled() {
            int least = allOver();
            for (int set = 1; set < 1 << COUNTIES; set++) {
                int cut = sumOfThose(over, ~set) + sumOfThose(below, office.neighboursOfAll(set));
                least = Math.min(least, cut);
            }
            return least;
        }

        private static int sumOfThose(int[] amounts, int counties) {
            int sum = 0;
            for (int c = 0; c < COUNTIES && c < amounts.length; c++) {
                if (isIn(counties, c)) {
                    sum += amounts[c];
                }
            }
            return sum;
        }
    }

    /** Figures that are put right by hand: rounded tables, rows that never fall. */
    private static final class Corrections {
        private static final int MOST_CELLS = 12;

        private final int[] rest = new int[MOST_CELLS];
        private final int[] columnOff = new int[FIGURES];
        private final int[] row = new int[MONTHS];
        private final int[] levels = new int[MONTHS];
        private final int[] tail = new int[(MONTHS + 1) * MONTHS];
        private final int[] risen = new int[MONTHS];
        private int cells = 0;
        private int columns = 0;
        int tableOff = 0;
        int tableUp = 0;
        int riseCost = 0;

        boolean roundTable(Books books, int counties, int figures, int base) {
            columns = Integer.bitCount(figures);
            if (base < 1 || columns < 1) {
                return false;
            }
            listRests(books, counties, figures, base);
            boolean found = false;
            for (int up = 0; up < 1 << cells; up++) {
                int off = offBy(up, base);
                if (off >= 0 && (!found || off < tableOff)) {
                    found = true;
                    tableOff = off;
                    tableUp = up;
                }
            }
            return found;
        }

        private void listRests(Books books, int counties, int figures, int base) {
            cells = 0;
            for (int c = 0; c < COUNTIES; c++) {
                for (int f = 0; f < FIGURES && isIn(counties, c); f++) {
                    if (isIn(figures, f) && cells < MOST_CELLS && base > 0) {
                        rest[cells] = books.countOf(c, f) % base;
                        cells++;
                    }
                }
            }
        }

        /** How much all sums are off, or NONE if one is off by a base or a multiple goes up. */
        private int offBy(int up, int base) {
            Arrays.fill(columnOff, 0);
            int off = 0;
            int rowOff = 0;
            int column = 0;
            for (int cell = 0; cell < cells; cell++) {
                boolean goesUp = isIn(up, cell);
                if (goesUp && rest[cell] == 0) {
                    return NONE;
                }
                int by = goesUp ? base - rest[cell] : -rest[cell];
                rowOff += by;
                if (column < FIGURES) {
                    columnOff[column] += by;
                }
                column++;
                if (column >= columns) {
                    if (Math.abs(rowOff) >= base) {
                        return NONE;
                    }
                    off += Math.abs(rowOff);
                    rowOff = 0;
                    column = 0;
                }
            }
            int columnsOff = columnsOff(base);
            return columnsOff == NONE ? NONE : off + columnsOff;
        }

        private int columnsOff(int base) {
            int off = 0;
            int all = 0;
            for (int i = 0; i < columns && i < FIGURES; i++) {
                if (Math.abs(columnOff[i]) >= base) {
                    return NONE;
                }
                off += Math.abs(columnOff[i]);
                all += columnOff[i];
            }
            return Math.abs(all) >= base ? NONE : off;
        }

        void makeRising(Books books, int f) {
            for (int m = 0; m < MONTHS; m++) {
                row[m] = books.historyOf(f, m);
            }
            sortLevels();
            weighTails();
            riseCost = tail[0];
            int level = 0;
            for (int m = 0; m < MONTHS; m++) {
                int best = tailAt(m, level);
                for (int i = 0; i < MONTHS && costFrom(m, level) > best; i++) {
                    level++;
                }
                risen[m] = levelAt(level);
            }
        }

        int risenTo(int month) {
            return within(month, 0, DECEMBER) ? risen[month] : 0;
        }

        /** The least row has no other numbers than the row itself has. */
        private void sortLevels() {
            for (int m = 0; m < MONTHS; m++) {
                int place = m;
                for (int i = 0; i < MONTHS && place > 0 && levels[place - 1] > row[m]; i++) {
                    levels[place] = levels[place - 1];
                    place--;
                }
                levels[place] = row[m];
            }
        }

        /** tail of a month and a level: the least change from that month on, if it is not below that level. */
        private void weighTails() {
            for (int level = 0; level < MONTHS; level++) {
                tail[MONTHS * MONTHS + level] = 0;
            }
            for (int m = MONTHS - 1; m >= 0; m--) {
                int best = costFrom(m, MONTHS - 1);
                for (int level = MONTHS - 1; level >= 0; level--) {
                    best = Math.min(best, costFrom(m, level));
                    tail[m * MONTHS + level] = best;
                }
            }
        }

        /** The least change from a month on, if that month is at a level. */
        private int costFrom(int month, int level) {
            int now = within(month, 0, DECEMBER) ? row[month] : 0;
            return Math.abs(now - levelAt(level)) + tailAt(month + 1, level);
        }

        private int levelAt(int level) {
            return within(level, 0, MONTHS - 1) ? levels[level] : 0;
        }

        private int tailAt(int month, int level) {
            return within(month, 0, MONTHS) && within(level, 0, MONTHS - 1) ? tail[month * MONTHS + level] : 0;
        }
    }

    /** The records, and what is asked of them without a definition. */
    private static final class Archive {
        final int[] county = new int[RECORDS];
        final int[] age = new int[RECORDS];
        final int[] hour = new int[RECORDS];
        final int[] kind = new int[RECORDS];
        private final int[] ofAge = new int[AGES];
        private final int[] partner = new int[RECORDS];
        int told = 0;
        int ofKind = 0;
        int windowFrom = 0;
        int windowTo = 0;
        private int seen = 0;

        void tellValues(int r, int[] values) {
            Arrays.fill(values, 0);
            if (within(r, 0, RECORDS - 1) && values.length >= VALUES) {
                values[VALUE_COUNTY] = county[r];
                values[VALUE_RECORD] = r;
                values[VALUE_AGE] = age[r];
                values[VALUE_HOUR] = hour[r];
                values[VALUE_KIND] = kind[r];
            }
        }

        void countAges(int wanted) {
            Arrays.fill(ofAge, 0);
            ofKind = 0;
            for (int r = 0; r < RECORDS; r++) {
                if (isIn(told, r) && kind[r] == wanted && within(age[r], 0, AGES - 1)) {
                    ofAge[age[r]]++;
                    ofKind++;
                }
            }
        }

        /** Of the ages that were counted last. */
        int middleAge() {
            int upTo = 0;
            for (int years = 0; years < AGES; years++) {
                upTo += ofAge[years];
                if (upTo > 0 && 2 * upTo >= ofKind) {
                    return years;
                }
            }
            return CANT;
        }

        boolean findWindow(int wanted, int many) {
            countAges(wanted);
            boolean found = false;
            for (int from = 0; from < AGES; from++) {
                int inside = 0;
                for (int to = from; to < AGES && inside < many; to++) {
                    inside += ofAge[to];
                    if (inside == many && (!found || to - from < windowTo - windowFrom)) {
                        found = true;
                        windowFrom = from;
                        windowTo = to;
                    }
                }
            }
            return found;
        }

        int twos() {
            int found = 0;
            for (int r = 0; r < RECORDS; r++) {
                for (int other = 0; other < r; other++) {
                    if (isTwo(r, other)) {
                        found++;
                    }
                }
            }
            return found;
        }

        /** A two has one even hour and one odd: pairs are sought from the even ones. */
        int mostPairs() {
            Arrays.fill(partner, NONE);
            int pairs = 0;
            for (int r = 0; r < RECORDS; r++) {
                seen = 0;
                if (hour[r] % 2 == 0 && findPartner(r, 0)) {
                    pairs++;
                }
            }
            return pairs;
        }

        private boolean findPartner(int r, int depth) {
            if (depth > RECORDS) {
                return false;
            }
            for (int other = 0; other < RECORDS; other++) {
                if (!isIn(seen, other) && isTwo(r, other)) {
                    seen |= 1 << other;
                    if (partner[other] == NONE || findPartner(partner[other], depth + 1)) {
                        partner[other] = r;
                        return true;
                    }
                }
            }
            return false;
        }

        private boolean isTwo(int r, int other) {
            if (!within(r, 0, RECORDS - 1) || !within(other, 0, RECORDS - 1)) {
                return false;
            }
            if (!isIn(told, r) || !isIn(told, other)) {
                return false;
            }
            int apart = Math.abs(hour[r] - hour[other]);
            boolean isNear = apart == 1 || apart == 23;
            return isNear && county[r] == county[other] && kind[r] == kind[other] && age[r] == age[other];
        }
    }
}
