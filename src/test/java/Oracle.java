import java.math.BigInteger;
import java.util.ArrayDeque;
import java.util.ArrayList;
import java.util.Arrays;
import java.util.Collections;
import java.util.Deque;
import java.util.HashMap;
import java.util.List;
import java.util.Map;
import java.util.TreeMap;

/**
 * The document a second time, by other means wherever there are others (texts are judged by an automaton and
 * reckoned as trees, the rest is tried out), to be asked the same calls as YearFigures.
 */
final class Oracle {
    private static final int NONE = -1;
    private static final int CANT = -2;

    /** A division by 0. */
    private static final class Refused extends Exception {
        private static final long serialVersionUID = 1L;
    }

    private static final class Rule {
        char letter;
        String e;
        String c;
    }

    private static final class State {
        int[][] counts = new int[6][6];
        int[][] history = new int[6][12];
        List<Integer[]> published = new ArrayList<>();
        int month;
        int year;
        int left;
        int cameOut;
        int x = 1;

        State copy() {
            State s = new State();
            for (int i = 0; i < 6; i++) {
                s.counts[i] = counts[i].clone();
                s.history[i] = history[i].clone();
            }
            s.published = new ArrayList<>(published);
            s.month = month;
            s.year = year;
            s.left = left;
            s.cameOut = cameOut;
            s.x = x;
            return s;
        }

        int sum(int f) {
            int sum = 0;
            for (int c = 0; c < 6; c++) {
                sum += counts[c][f];
            }
            return sum;
        }
    }

    private final TreeMap<Integer, Integer> people = new TreeMap<>();
    private final TreeMap<Integer, Integer> targets = new TreeMap<>();
    private final boolean[][] next = new boolean[6][6];
    private int staff = 0;
    private String tape = "";
    private List<Rule> rules = new ArrayList<>();
    private final TreeMap<Integer, int[]> records = new TreeMap<>();
    private final TreeMap<Integer, String> definitions = new TreeMap<>();
    private State now = new State();
    private State kept = null;
    private int happened;
    private int used;
    private int made;

    boolean county(int c, int p) {
        if (c < 0 || c > 5 || p < 0 || p > 9999) {
            return false;
        }
        people.put(c, p);
        return true;
    }

    boolean next(int c, int b, boolean is) {
        if (!people.containsKey(c) || !people.containsKey(b) || c == b) {
            return false;
        }
        next[c][b] = is;
        next[b][c] = is;
        return true;
    }

    boolean figure(int f, int t) {
        if (f < 0 || f > 5 || t < 0 || t > 9999) {
            return false;
        }
        targets.put(f, t);
        return true;
    }

    boolean staff(int days) {
        if (days < 0 || days > 9999) {
            return false;
        }
        staff = days;
        now.left = days;
        return true;
    }

    int feed(int a, int b, int c, int d, int e) {
        if (tape.length() + 20 > 260) {
            return NONE;
        }
        for (int four : new int[] {a, b, c, d, e}) {
            for (byte one : BigInteger.valueOf((four & 0xffffffffL) | 0x100000000L).toByteArray()) {
                tape += (char) (one & 255);
            }
            tape = tape.substring(0, tape.length() - 5) + tape.substring(tape.length() - 4);
        }
        return tape.length();
    }

    private String read(int n, int least, int most) {
        if (n < least || n > most || n > tape.length()) {
            return null;
        }
        String text = tape.substring(0, n);
        tape = "";
        return text;
    }

    int law(int n) {
        String text = read(n, 1, 240);
        if (text == null) {
            return NONE;
        }
        List<Rule> found = new ArrayList<>();
        int fault = judge(text, true, found);
        if (fault < 0) {
            return fault;
        }
        rules = found;
        return rules.size();
    }

    int definition(int d, int n) {
        if (d < 0 || d > 5) {
            return NONE;
        }
        String text = read(n, 1, 80);
        if (text == null) {
            return NONE;
        }
        int fault = judge(text, false, new ArrayList<>());
        if (fault < 0) {
            return fault;
        }
        definitions.put(d, text.substring(1, text.length() - 1));
        return Integer.bitCount(fallsUnder(d));
    }

    /**
     * An automaton with a stack: e is a rule's E, l and r the left and the right side of a test, ( [ ! are open.
     * States: L a letter of a rule, P the ( of a C, T a test, F a factor, A behind a factor, B behind a test, Z the end.
     */
    private static int judge(String text, boolean isLaw, List<Rule> found) {
        Deque<Character> open = new ArrayDeque<>();
        char state = isLaw ? 'L' : 'P';
        int digits = 0;
        int from = 0;
        int colon = 0;
        for (int i = 0; i <= text.length(); i++) {
            int s = i < text.length() ? text.charAt(i) : -1;
            int depth = 0;
            for (char o : open) {
                depth += o == '(' || o == '[' || o == '!' ? 1 : 0;
            }
            boolean isDigit = s >= '0' && s <= '9';
            if (state == 'A' && isDigit && digits > 0) {
                if (digits == 5) {
                    return -2000 - i;
                }
                digits++;
                continue;
            }
            digits = 0;
            if (state == 'T' && s != '(' && s != '!') {
                open.push('l');
                state = 'F';
            }
            if (state == 'A' && open.peek() == 'r' && s != -1 && "&|)".indexOf(s) >= 0) {
                open.pop();
                while (open.peek() == '!') {
                    open.pop();
                }
                state = 'B';
            }
            if (state == 'A' && open.peek() == 'e' && s == '(') {
                open.pop();
                state = 'P';
            }
            if (state == 'L') {
                if (s == -1 || "ndkx".indexOf(s) < 0) {
                    return -1000 - i;
                }
                if (found.size() == 16) {
                    return -4000 - i;
                }
                from = i;
                state = s == 'x' ? 'P' : 'F';
                if (s != 'x') {
                    open.push('e');
                }
            } else if (state == 'P') {
                if (s != '(') {
                    return -1000 - i;
                }
                colon = i;
                open.push('(');
                state = 'T';
            } else if (state == 'T') {
                if (depth == 6) {
                    return -5000 - i;
                }
                open.push((char) s);
            } else if (state == 'F') {
                if (s == '[') {
                    if (depth == 6) {
                        return -5000 - i;
                    }
                    open.push('[');
                } else if (isDigit || s != -1 && "cfastpmyrghq".indexOf(s) >= 0) {
                    digits = isDigit ? 1 : 0;
                    state = 'A';
                } else {
                    return -1000 - i;
                }
            } else if (state == 'A') {
                if (s != -1 && "+-*/%".indexOf(s) >= 0) {
                    state = 'F';
                } else if (s == ']' && open.peek() == '[') {
                    open.pop();
                } else if (s != -1 && "<>=".indexOf(s) >= 0 && open.peek() == 'l') {
                    open.pop();
                    open.push('r');
                    state = 'F';
                } else {
                    return -1000 - i;
                }
            } else if (state == 'B') {
                if (s == '&' || s == '|') {
                    state = 'T';
                } else if (s == ')') {
                    open.pop();
                    while (!open.isEmpty() && open.peek() == '!') {
                        open.pop();
                    }
                    if (open.isEmpty()) {
                        Rule rule = new Rule();
                        rule.letter = text.charAt(from);
                        rule.e = text.substring(Math.min(from + 1, colon), colon);
                        rule.c = text.substring(colon + 1, i);
                        found.add(rule);
                        state = 'Z';
                    }
                } else {
                    return -1000 - i;
                }
            } else if (s == ';' && isLaw) {
                state = 'L';
            } else if (s != -1) {
                return -1000 - i;
            }
        }
        return 0;
    }

    /** Where, from the right, a sign stands that is in no bracket; -1 if it does not. */
    private static int lastOutside(String text, String signs) {
        int depth = 0;
        for (int i = text.length() - 1; i >= 0; i--) {
            char s = text.charAt(i);
            depth += s == ')' || s == ']' ? 1 : s == '(' || s == '[' ? -1 : 0;
            if (depth == 0 && signs.indexOf(s) >= 0) {
                return i;
            }
        }
        return -1;
    }

    private static int firstOutside(String text, char sign) {
        int depth = 0;
        for (int i = 0; i < text.length(); i++) {
            char s = text.charAt(i);
            depth += s == '(' || s == '[' ? 1 : s == ')' || s == ']' ? -1 : 0;
            if (depth == 0 && s == sign) {
                return i;
            }
        }
        return -1;
    }

    private static boolean truth(String c, int[] letters) throws Refused {
        int or = firstOutside(c, '|');
        if (or >= 0) {
            return truth(c.substring(0, or), letters) || truth(c.substring(or + 1), letters);
        }
        int and = firstOutside(c, '&');
        if (and >= 0) {
            return truth(c.substring(0, and), letters) && truth(c.substring(and + 1), letters);
        }
        if (c.charAt(0) == '!') {
            return !truth(c.substring(1), letters);
        }
        if (c.charAt(0) == '(') {
            return truth(c.substring(1, c.length() - 1), letters);
        }
        int at = lastOutside(c, "<>=");
        int left = value(c.substring(0, at), letters);
        int right = value(c.substring(at + 1), letters);
        return c.charAt(at) == '<' ? left < right : c.charAt(at) == '>' ? left > right : left == right;
    }

    private static int value(String e, int[] letters) throws Refused {
        int at = lastOutside(e, "+-");
        at = at >= 0 ? at : lastOutside(e, "*/%");
        if (at >= 0) {
            int left = value(e.substring(0, at), letters);
            int right = value(e.substring(at + 1), letters);
            char sign = e.charAt(at);
            if (right == 0 && (sign == '/' || sign == '%')) {
                throw new Refused();
            }
            long l = left;
            return (int) (sign == '+' ? l + right : sign == '-' ? l - right : sign == '*' ? l * right
                : sign == '/' ? l / right : l % right);
        }
        if (e.charAt(0) == '[') {
            return value(e.substring(1, e.length() - 1), letters);
        }
        return Character.isDigit(e.charAt(0)) ? Integer.parseInt(e) : letters["cfastpmyrghq".indexOf(e)];
    }

    private static boolean holds(String c, int[] letters) {
        try {
            return truth(c, letters);
        } catch (Refused r) {
            return false;
        }
    }

    private int ask(State s, char letter, int c, int f, int m) {
        int[] letters = {c, f, s.counts[c][f], s.sum(f), targets.get(f), people.get(c), m, s.year, 0, 0, 0, 0};
        for (Rule rule : rules) {
            if (rule.letter == letter && holds(rule.c, letters)) {
                if (letter == 'x') {
                    return 1;
                }
                try {
                    int most = letter == 'd' ? 10 : 99;
                    return Math.min(most, Math.max(0, value(rule.e, letters)));
                } catch (Refused r) {
                    return 0;
                }
            }
        }
        return 0;
    }

    int report(int n) {
        String text = read(n, 1, 120);
        if (text == null) {
            return NONE;
        }
        int[][] changed = now.copy().counts;
        int lines = 0;
        int at = 0;
        while (true) {
            String rest = text.substring(at);
            if (!rest.matches("(?s)[a-f].*")) {
                return -1000 - at;
            }
            if (lines == 20) {
                return -4000 - at;
            }
            int c = rest.charAt(0) - 'a';
            if (!people.containsKey(c)) {
                return -7000 - at;
            }
            if (!rest.matches("(?s).[0-5].*")) {
                return -1001 - at;
            }
            int f = rest.charAt(1) - '0';
            if (!targets.containsKey(f)) {
                return -7001 - at;
            }
            if (!rest.matches("(?s)..[+-].*")) {
                return -1002 - at;
            }
            if (!rest.matches("(?s)...[0-9].*")) {
                return -1003 - at;
            }
            if (rest.matches("(?s)...[0-9]{4}.*")) {
                return -2006 - at;
            }
            int end = 3;
            while (end < rest.length() && Character.isDigit(rest.charAt(end)) && rest.charAt(end) < 128) {
                end++;
            }
            int number = Integer.parseInt(rest.substring(3, end));
            changed[c][f] += rest.charAt(2) == '+' ? number : -number;
            changed[c][f] = Math.min(9999, Math.max(0, changed[c][f]));
            lines++;
            at += end;
            if (at == text.length()) {
                now.counts = changed;
                return lines;
            }
            if (text.charAt(at) != ';') {
                return -1000 - at;
            }
            at++;
        }
    }

    private int cheapest(State s, int f) {
        int best = NONE;
        for (int c : people.keySet()) {
            if (best == NONE || ask(s, 'k', c, f, 11) < ask(s, 'k', best, f, 11)) {
                best = c;
            }
        }
        return best;
    }

    private void pass(State s, int n) {
        happened = 0;
        used = 0;
        made = 0;
        for (int i = 0; i < n && s.year != 999; i++) {
            for (int c : people.keySet()) {
                for (int f : targets.keySet()) {
                    int many = ask(s, 'n', c, f, s.month);
                    int tenths = ask(s, 'd', c, f, s.month);
                    s.x = (int) ((25173L * s.x + 13849L) % 65536L);
                    many += s.x % 10 < tenths ? 1 : 0;
                    happened += many;
                    if (ask(s, 'x', c, f, s.month) == 0) {
                        s.counts[c][f] = Math.min(9999, s.counts[c][f] + many);
                        s.history[f][s.month] = Math.min(9999, s.history[f][s.month] + many);
                    }
                }
            }
            s.month++;
            if (s.month == 12) {
                december(s);
            }
        }
    }

    private void december(State s) {
        Integer[] out = new Integer[6];
        for (int f : targets.keySet()) {
            for (int i = 0; i < 200 && s.sum(f) < targets.get(f) && !people.isEmpty(); i++) {
                int c = cheapest(s, f);
                int days = ask(s, 'k', c, f, 11);
                if (days > s.left) {
                    break;
                }
                s.left -= days;
                s.counts[c][f]++;
                used += days;
                made++;
            }
        }
        for (int f : targets.keySet()) {
            out[f] = s.sum(f);
            s.cameOut += s.sum(f) == targets.get(f) ? 1 : 0;
        }
        s.published.add(0, out);
        s.counts = new int[6][6];
        s.history = new int[6][12];
        s.left = staff;
        s.month = 0;
        s.year++;
    }

    int months(int n) {
        if (n < 1 || n > 60) {
            return NONE;
        }
        pass(now, n);
        return happened;
    }

    int tried(int n, int what) {
        if (n < 1 || n > 60) {
            return NONE;
        }
        State s = now.copy();
        pass(s, n);
        return what == 0 ? happened : what == 1 ? s.cameOut - now.cameOut : what == 2 ? used : what == 3 ? made
            : what >= 10 && targets.containsKey(what - 10) ? s.sum(what - 10) : NONE;
    }

    int counted(int c, int f) {
        return people.containsKey(c) && targets.containsKey(f) ? now.counts[c][f] : NONE;
    }

    private int needed(int f) {
        State s = now.copy();
        int days = 0;
        int more = 0;
        while (s.sum(f) < targets.get(f)) {
            int c = cheapest(s, f);
            if (c == NONE || more == 200) {
                return CANT;
            }
            days += ask(s, 'k', c, f, 11);
            s.counts[c][f]++;
            more++;
        }
        return s.sum(f) > targets.get(f) ? CANT : days;
    }

    int figureIs(int f, int what) {
        if (!targets.containsKey(f)) {
            return NONE;
        }
        if (what >= 10 && what <= 21) {
            return now.history[f][what - 10];
        }
        if (what == 0) {
            return targets.get(f);
        }
        if (what == 1) {
            return now.sum(f);
        }
        if (what == 2) {
            return now.month == 0 ? CANT : (int) Math.floor(Arrays.stream(now.history[f]).sum() * 12.0 / now.month + 0.5);
        }
        return what == 3 ? needed(f) : NONE;
    }

    private int allPeople() {
        int all = 0;
        for (int p : people.values()) {
            all += p;
        }
        return all;
    }

    private int[] shares(int many, int way) {
        int[] has = new int[6];
        int all = allPeople();
        if (all == 0) {
            return has;
        }
        if (way == 0) {
            List<long[]> order = new ArrayList<>();
            int left = many;
            for (int c : people.keySet()) {
                long product = (long) people.get(c) * many;
                has[c] = (int) (product / all);
                left -= has[c];
                order.add(new long[] {-(product % all), c});
            }
            order.sort((a, b) -> a[0] != b[0] ? Long.compare(a[0], b[0]) : Long.compare(a[1], b[1]));
            for (int i = 0; i < left; i++) {
                has[(int) order.get(i)[1]]++;
            }
            return has;
        }
        for (int i = 0; i < many; i++) {
            int best = NONE;
            double most = -1;
            for (int c : people.keySet()) {
                int by = way == 1 ? has[c] + 1 : way == 2 ? 2 * has[c] + 1 : has[c];
                double worth = by == 0 ? Double.POSITIVE_INFINITY : (double) people.get(c) / by;
                if (people.get(c) > 0 && worth > most) {
                    most = worth;
                    best = c;
                }
            }
            has[best]++;
        }
        return has;
    }

    int share(int c, int many, int way) {
        boolean can = people.containsKey(c) && many >= 0 && many <= 999 && way >= 0 && way <= 3;
        return can ? shares(many, way)[c] : NONE;
    }

    int loses(int way, int what) {
        if (way < 0 || way > 3 || what < 0 || what > 1) {
            return NONE;
        }
        for (int many = 0; many <= 60; many++) {
            int[] before = shares(many, way);
            int[] behind = shares(many + 1, way);
            for (int c = 0; c < 6; c++) {
                if (behind[c] < before[c]) {
                    return what == 0 ? many : c;
                }
            }
        }
        return CANT;
    }

    int breaks(int many, int way) {
        if (many < 0 || many > 999 || way < 0 || way > 3) {
            return NONE;
        }
        int[] has = shares(many, way);
        int bits = 0;
        for (int c : people.keySet()) {
            int all = allPeople();
            long product = (long) people.get(c) * many;
            if (all > 0 && (has[c] < Math.floorDiv(product, all) || has[c] > -Math.floorDiv(-product, all))) {
                bits |= 1 << c;
            }
        }
        return bits;
    }

    int regions(int what) {
        int[] mark = {0, 1, 2, 3, 4, 5};
        for (int round = 0; round < 6; round++) {
            for (int c = 0; c < 6; c++) {
                for (int b = 0; b < 6; b++) {
                    mark[c] = next[c][b] ? Math.min(mark[c], mark[b]) : mark[c];
                }
            }
        }
        int many = 0;
        int bits = 0;
        for (int c : people.keySet()) {
            many += mark[c] == c ? 1 : 0;
            bits |= what >= 0 && what < 6 && mark[c] == mark[what] ? 1 << c : 0;
        }
        return what == 100 ? many : people.containsKey(what) ? bits : NONE;
    }

    private static List<Integer> chosen(int bits, TreeMap<Integer, Integer> told, int most) {
        List<Integer> list = new ArrayList<>();
        for (int i = 0; i < 32; i++) {
            if ((bits >>> i & 1) == 1) {
                list.add(i);
            }
        }
        return list.isEmpty() || list.size() > most || !told.keySet().containsAll(list) ? null : list;
    }

    int table(int counties, int figures, int base, int what) {
        List<Integer> cs = chosen(counties, people, 4);
        List<Integer> fs = chosen(figures, targets, 3);
        if (cs == null || fs == null || base < 2 || base > 50 || what < 0 || what > 1) {
            return NONE;
        }
        int cells = cs.size() * fs.size();
        int least = Integer.MAX_VALUE;
        int which = CANT;
        for (int up = (1 << cells) - 1; up >= 0; up--) {
            int[][] off = new int[cs.size()][fs.size()];
            boolean can = true;
            for (int i = 0; i < cells; i++) {
                int count = now.counts[cs.get(i / fs.size())][fs.get(i % fs.size())];
                boolean isUp = (up >> i & 1) == 1;
                can &= !isUp || count % base != 0;
                off[i / fs.size()][i % fs.size()] = (isUp ? (count / base + 1) * base : count / base * base) - count;
            }
            int sum = 0;
            int all = 0;
            for (int[] row : off) {
                int rowOff = Arrays.stream(row).sum();
                can &= Math.abs(rowOff) < base;
                sum += Math.abs(rowOff);
                all += rowOff;
            }
            for (int j = 0; j < fs.size(); j++) {
                int columnOff = 0;
                for (int[] row : off) {
                    columnOff += row[j];
                }
                can &= Math.abs(columnOff) < base;
                sum += Math.abs(columnOff);
            }
            if (can && Math.abs(all) < base && sum <= least) {
                least = sum;
                which = up;
            }
        }
        return which == CANT ? CANT : what == 0 ? least : which;
    }

    int bled(int f, int what) {
        if (!targets.containsKey(f) || what < 0 || what > 2) {
            return NONE;
        }
        int[] has = shares(targets.get(f), 0);
        int[] over = new int[6];
        int[] under = new int[6];
        for (int c : people.keySet()) {
            over[c] = Math.max(0, now.counts[c][f] - has[c]);
            under[c] = Math.max(0, has[c] - now.counts[c][f]);
        }
        return what == 0 ? Arrays.stream(over).sum() : what == 1 ? Arrays.stream(under).sum() : flow(over, under);
    }

    /** Augmenting ways in a net: 0 the source, 1 to 6 those over, 7 to 12 those under, 13 the sink. */
    private int flow(int[] over, int[] under) {
        int[][] room = new int[14][14];
        for (int c = 0; c < 6; c++) {
            room[0][1 + c] = over[c];
            room[7 + c][13] = under[c];
            for (int b = 0; b < 6; b++) {
                room[1 + c][7 + b] = next[c][b] ? 1000000 : 0;
            }
        }
        int flow = 0;
        while (true) {
            int[] from = new int[14];
            Arrays.fill(from, -1);
            Deque<Integer> queue = new ArrayDeque<>(List.of(0));
            from[0] = 0;
            while (!queue.isEmpty()) {
                int at = queue.poll();
                for (int to = 0; to < 14; to++) {
                    if (from[to] < 0 && room[at][to] > 0) {
                        from[to] = at;
                        queue.add(to);
                    }
                }
            }
            if (from[13] < 0) {
                return flow;
            }
            int least = Integer.MAX_VALUE;
            for (int at = 13; at != 0; at = from[at]) {
                least = Math.min(least, room[from[at]][at]);
            }
            for (int at = 13; at != 0; at = from[at]) {
                room[from[at]][at] -= least;
                room[at][from[at]] += least;
            }
            flow += least;
        }
    }

    int canComeOut(int what) {
        if (what < 0 || what > 2) {
            return NONE;
        }
        int[] best = {0, 0, 0};
        int[] needs = new int[6];
        for (int f : targets.keySet()) {
            needs[f] = needed(f);
        }
        for (int set = 0; set < 64; set++) {
            int days = 0;
            boolean can = true;
            for (int f = 0; f < 6; f++) {
                if ((set >> f & 1) == 1) {
                    can &= targets.containsKey(f) && needs[f] != CANT;
                    days += needs[f];
                }
            }
            int[] plan = {-Integer.bitCount(set), days, set};
            if (can && days <= now.left && Arrays.compare(plan, best) < 0) {
                best = plan;
            }
        }
        return what == 0 ? -best[0] : what == 1 ? best[2] : best[1];
    }

    boolean record(int r, int county, int age, int hour, int kind) {
        if (r < 0 || r > 19 || county < 0 || county > 5 || age < 0 || age > 99 || hour < 0 || hour > 23 || kind < 0 || kind > 9) {
            return false;
        }
        records.put(r, new int[] {county, age, hour, kind});
        return true;
    }

    int fallsUnder(int d) {
        if (!definitions.containsKey(d)) {
            return NONE;
        }
        int bits = 0;
        for (int r : records.keySet()) {
            int[] of = records.get(r);
            int[] letters = {of[0], 0, 0, 0, 0, 0, 0, 0, r, of[1], of[2], of[3]};
            bits |= holds(definitions.get(d), letters) ? 1 << r : 0;
        }
        return bits;
    }

    int joined(int many, int what) {
        if (many < 0 || many > 20 || what < 0 || what > 1) {
            return NONE;
        }
        int[] best = null;
        for (int set = 0; set < 64; set++) {
            int all = 0;
            boolean can = true;
            for (int d = 0; d < 6; d++) {
                if ((set >> d & 1) == 1) {
                    can &= definitions.containsKey(d);
                    all |= can ? fallsUnder(d) : 0;
                }
            }
            int[] one = {Integer.bitCount(set), set};
            if (can && Integer.bitCount(all) == many && (best == null || Arrays.compare(one, best) < 0)) {
                best = one;
            }
        }
        return best == null ? CANT : best[what];
    }

    private List<Integer> ages(int kind) {
        List<Integer> ages = new ArrayList<>();
        for (int[] of : records.values()) {
            if (of[3] == kind) {
                ages.add(of[1]);
            }
        }
        Collections.sort(ages);
        return ages;
    }

    int window(int kind, int many, int what) {
        if (kind < 0 || kind > 9 || many < 1 || many > 20 || what < 0 || what > 1) {
            return NONE;
        }
        List<Integer> ages = ages(kind);
        for (int width = 0; width < 100; width++) {
            for (int from = 0; from + width < 100; from++) {
                int inside = 0;
                for (int age : ages) {
                    inside += age >= from && age <= from + width ? 1 : 0;
                }
                if (inside == many) {
                    return what == 0 ? from : from + width;
                }
            }
        }
        return CANT;
    }

    int middle(int kind, int what) {
        if (kind < 0 || kind > 9 || what < 0 || what > 1) {
            return NONE;
        }
        List<Integer> ages = ages(kind);
        return what == 1 ? ages.size() : ages.isEmpty() ? CANT : ages.get((ages.size() - 1) / 2);
    }

    int published(int f, int back) {
        if (!targets.containsKey(f) || back < 0 || back > 7) {
            return NONE;
        }
        boolean was = back < now.published.size() && now.published.get(back)[f] != null;
        return was ? now.published.get(back)[f] : CANT;
    }

    int inARow(int f) {
        if (!targets.containsKey(f)) {
            return NONE;
        }
        int row = 0;
        while (row < 8 && published(f, row) == targets.get(f)) {
            row++;
        }
        return row;
    }

    private boolean isTwo(int[] a, int[] b) {
        boolean near = (a[2] + 1) % 24 == b[2] || (b[2] + 1) % 24 == a[2];
        return near && a[0] == b[0] && a[1] == b[1] && a[3] == b[3];
    }

    int halves(int what) {
        if (what < 0 || what > 1) {
            return NONE;
        }
        List<int[]> all = new ArrayList<>(records.values());
        int twos = 0;
        for (int i = 0; i < all.size(); i++) {
            for (int j = i + 1; j < all.size(); j++) {
                twos += isTwo(all.get(i), all.get(j)) ? 1 : 0;
            }
        }
        return what == 0 ? twos : taken(all, (1 << all.size()) - 1, new HashMap<>());
    }

    /** The most twos among those that are still free (bits): the first one stays alone or goes with another. */
    private int taken(List<int[]> all, int free, Map<Integer, Integer> known) {
        if (free == 0) {
            return 0;
        }
        if (known.containsKey(free)) {
            return known.get(free);
        }
        int i = Integer.numberOfTrailingZeros(free);
        int others = free & free - 1;
        int best = taken(all, others, known);
        for (int j = i + 1; j < all.size(); j++) {
            if ((others >> j & 1) == 1 && isTwo(all.get(i), all.get(j))) {
                best = Math.max(best, 1 + taken(all, others & ~(1 << j), known));
            }
        }
        known.put(free, best);
        return best;
    }

    int rising(int f, int what) {
        if (!targets.containsKey(f) || what != 100 && (what < 0 || what > 11)) {
            return NONE;
        }
        int[] row = now.history[f];
        int most = Arrays.stream(row).max().getAsInt();
        // least[m][v]: the least change of the months from m on, none below v, v from 0 on one by one
        int[][] least = new int[13][most + 2];
        for (int m = 11; m >= 0; m--) {
            least[m][most + 1] = Integer.MAX_VALUE / 2;
            for (int v = most; v >= 0; v--) {
                least[m][v] = Math.min(least[m][v + 1], Math.abs(row[m] - v) + least[m + 1][v]);
            }
        }
        if (what == 100) {
            return least[0][0];
        }
        int v = 0;
        for (int m = 0; m <= what; m++) {
            int due = least[m][v];
            while (Math.abs(row[m] - v) + least[m + 1][v] != due) {
                v++;
            }
        }
        return v;
    }

    long spaced(int births, int days, int gap) {
        if (births < 1 || births > 12 || days < 1 || days > 60 || gap < 1 || gap > 20) {
            return NONE;
        }
        // ways[d]: with the births so far, the last one on day d
        long[] ways = new long[days];
        Arrays.fill(ways, 1);
        for (int b = 1; b < births; b++) {
            long[] more = new long[days];
            for (int d = 0; d < days; d++) {
                for (int e = d + gap; e < days; e++) {
                    more[e] += ways[d];
                }
            }
            ways = more;
        }
        return Arrays.stream(ways).sum();
    }

    boolean seed(int x) {
        if (x < 0 || x > 65535) {
            return false;
        }
        now.x = x;
        return true;
    }

    int keep() {
        kept = now.copy();
        return now.year;
    }

    boolean undo() {
        if (kept == null) {
            return false;
        }
        now = kept.copy();
        return true;
    }

    int check(int f, int n) {
        if (!targets.containsKey(f)) {
            return CANT;
        }
        String text = read(n, 0, 6);
        if (text == null) {
            return CANT;
        }
        for (int c = 0; c < n; c++) {
            if (text.charAt(c) != (now.counts[c][f] & 255)) {
                return c;
            }
        }
        return NONE;
    }

    private static int bits(Iterable<Integer> set) {
        int bits = 0;
        for (int i : set) {
            bits |= 1 << i;
        }
        return bits;
    }

    int count(int what) {
        if (what >= 20 && what <= 25 && people.containsKey(what - 20)) {
            int bits = 0;
            for (int b = 0; b < 6; b++) {
                bits |= next[what - 20][b] ? 1 << b : 0;
            }
            return bits;
        }
        if (what >= 30 && people.containsKey(what - 30)) {
            return people.get(what - 30);
        }
        int[] all = {now.year, now.month, bits(people.keySet()), bits(targets.keySet()), now.cameOut, now.left, staff,
            rules.size(), tape.length(), now.x, bits(records.keySet()), bits(definitions.keySet()), allPeople()};
        return what >= 0 && what < all.length ? all[what] : NONE;
    }
}
