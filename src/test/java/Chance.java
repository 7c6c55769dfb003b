import java.util.Random;

/** Patterns, with faults and without, and texts, by chance. */
final class Chance {
    private final Random random;

    Chance(Random random) {
        this.random = random;
    }

    String pattern() {
        String pattern = random.nextInt(3) == 0 ? noise() : spoil(choices(random.nextInt(5)));
        return pattern.substring(0, Math.min(200, pattern.length()));
    }

    String text() {
        StringBuilder text = new StringBuilder();
        int length = random.nextInt(4) == 0 ? random.nextInt(201) : random.nextInt(12);
        for (int i = 0; i < length; i++) {
            text.append("aaabbbcd09".charAt(random.nextInt(10)));
        }
        return text.toString();
    }

    private String choices(int depth) {
        StringBuilder all = new StringBuilder(row(depth));
        while (random.nextInt(3) == 0) {
            all.append('|').append(row(depth));
        }
        return all.toString();
    }

    private String row(int depth) {
        StringBuilder all = new StringBuilder();
        int parts = random.nextInt(4) + (random.nextInt(8) == 0 ? 10 : 0);
        for (int i = 0; i < parts; i++) {
            all.append(atom(depth));
            while (random.nextInt(3) == 0) {
                all.append(suffix());
            }
        }
        return all.toString();
    }

    private String atom(int depth) {
        int kind = random.nextInt(10);
        if (kind < 4 && depth > 0) {
            return "(" + choices(depth - 1) + ")";
        }
        if (kind == 9) {
            return ".";
        }
        if (kind == 8) {
            return random.nextBoolean() ? "[a-c]" : random.nextBoolean() ? "[^b]" : "[^a-y1-90d-x]";
        }
        return String.valueOf("aaabbc09".charAt(random.nextInt(8)));
    }

    private String suffix() {
        int kind = random.nextInt(5);
        if (kind < 3) {
            return "*+?".substring(kind, kind + 1);
        }
        int m = random.nextInt(4);
        int n = Math.max(1, m + random.nextInt(3));
        return kind == 3 && m > 0 ? "{" + m + "}" : "{" + m + "," + n + "}";
    }

    private String spoil(String pattern) {
        if (random.nextInt(3) != 0 || pattern.isEmpty()) {
            return pattern;
        }
        int at = random.nextInt(pattern.length());
        String some = random.nextBoolean() ? "" : noise().substring(0, 1);
        return pattern.substring(0, at) + some + pattern.substring(at + random.nextInt(2));
    }

    private String noise() {
        String some = "ab09zz..[]]^-((()))||*+?{{}},A \0\u00ff";
        StringBuilder all = new StringBuilder();
        for (int i = random.nextInt(8); i >= 0; i--) {
            all.append(some.charAt(random.nextInt(some.length())));
        }
        return all.toString();
    }
}
