import java.util.Random;

/** Draws texts of the document's language: right ones, and ones with a sign that is put, taken away or changed. */
final class Texts {
    private static final String SIGNS = "ndkx()[]!&|<>=+-*/%;0123456789cfastpmyrghqbz a\u00e9";
    private static final String ASKED = "cfastpmyrghq";
    private final Random random;
    private int open;

    Texts(Random random) {
        this.random = random;
    }

    private boolean in(int n) {
        return random.nextInt(n) == 0;
    }

    String law(int most) {
        StringBuilder text = new StringBuilder();
        int rules = in(12) ? 15 + random.nextInt(4) : 1 + random.nextInt(6);
        boolean isShort = rules > 6;
        for (int i = 0; i < rules; i++) {
            String rule = rule(isShort);
            if (text.length() + rule.length() + 1 <= most) {
                text.append(text.length() > 0 ? ";" : "").append(rule);
            }
        }
        return text.length() == 0 ? "n3(1=1)" : text.toString();
    }

    private String rule(boolean isShort) {
        String letter = "nnndkkx".charAt(random.nextInt(7)) + "";
        open = isShort ? 6 : 0;
        String e = letter.equals("x") ? "" : e();
        open = isShort ? 6 : 1;
        String c = in(3) ? "1=1" : c();
        return letter + e + "(" + c + ")";
    }

    String definition(int most) {
        for (int i = 0; i < 100; i++) {
            open = 1;
            String text = "(" + c() + ")";
            if (text.length() <= most) {
                return text;
            }
        }
        return "(g<50)";
    }

    private String c() {
        String text = part();
        while (in(4)) {
            text += "|" + part();
        }
        return text;
    }

    private String part() {
        String text = test();
        while (in(4)) {
            text += "&" + test();
        }
        return text;
    }

    private String test() {
        if (open < 6 && in(6)) {
            open++;
            String text = "!" + test();
            open--;
            return text;
        }
        if (open < 6 && in(6)) {
            open++;
            String text = "(" + c() + ")";
            open--;
            return text;
        }
        return e() + "<>=".charAt(random.nextInt(3)) + e();
    }

    private String e() {
        String text = term();
        while (in(4)) {
            text += "+-".charAt(random.nextInt(2)) + term();
        }
        return text;
    }

    private String term() {
        String text = factor();
        while (in(4)) {
            text += "*/%".charAt(random.nextInt(3)) + factor();
        }
        return text;
    }

    private String factor() {
        if (open < 6 && in(8)) {
            open++;
            String text = "[" + e() + "]";
            open--;
            return text;
        }
        if (in(2)) {
            return ASKED.charAt(random.nextInt(ASKED.length())) + "";
        }
        return "" + (in(12) ? random.nextInt(100000) : random.nextInt(in(2) ? 4 : 30));
    }

    String report(int most) {
        StringBuilder text = new StringBuilder();
        int lines = in(8) ? 19 + random.nextInt(3) : 1 + random.nextInt(8);
        int figures = in(6) ? 6 : 2;
        for (int i = 0; i < lines; i++) {
            String line = "" + (char) ('a' + random.nextInt(in(8) ? 6 : 4)) + random.nextInt(figures)
                + (in(4) ? "-" : "+") + random.nextInt(lines > 8 ? 10 : in(4) ? 1000 : 60);
            if (text.length() + line.length() + 1 <= most) {
                text.append(i > 0 ? ";" : "").append(line);
            }
        }
        return text.toString();
    }

    String spoilt(String text, int most) {
        StringBuilder changed = new StringBuilder(text);
        int times = 1 + random.nextInt(2);
        for (int i = 0; i < times; i++) {
            int at = random.nextInt(changed.length() + 1);
            char sign = SIGNS.charAt(random.nextInt(SIGNS.length()));
            switch (random.nextInt(5)) {
                case 0:
                    changed.insert(at, sign);
                    break;
                case 1:
                    changed.setLength(Math.max(1, at));
                    break;
                case 2:
                    if (at < changed.length()) {
                        changed.setCharAt(at, sign);
                    }
                    break;
                case 3:
                    if (at < changed.length() && changed.length() > 1) {
                        changed.deleteCharAt(at);
                    }
                    break;
                default:
                    changed.insert(at, String.valueOf("([!5".charAt(random.nextInt(4))).repeat(1 + random.nextInt(7)));
            }
        }
        changed.setLength(Math.min(most, changed.length()));
        return changed.length() == 0 ? "n" : changed.toString();
    }
}
