import java.util.Random;

/** Feeds texts to an object, and makes random ones, most of them right. */
final class Texts {
    private Texts() {
    }

    /** The words of a text, filled up to a multiple of twenty bytes with the letter a. */
    static int[] words(String text) {
        int length = Math.max(20, (text.length() + 19) / 20 * 20);
        int[] words = new int[length / 4];
        for (int i = 0; i < length; i++) {
            int sign = i < text.length() ? text.charAt(i) : 'a';
            words[i / 4] |= (sign & 255) << 8 * (3 - i % 4);
        }
        return words;
    }

    static String law(Random random) {
        StringBuilder text = new StringBuilder();
        int rules = random.nextInt(8) == 0 ? 12 + random.nextInt(7) : 1 + random.nextInt(5);
        for (int i = 0; i < rules; i++) {
            text.append(i == 0 ? "" : ";");
            char head = "mux".charAt(random.nextInt(3));
            text.append(head);
            int room = rules > 8 ? 0 : 2 + random.nextInt(3);
            if (head == 'u' && random.nextInt(3) > 0) {
                text.append(random.nextInt(8));
            } else if (head != 'x') {
                sum(text, random, room);
            }
            text.append('(');
            if (random.nextInt(10) == 0) {
                nest(text, random);
            } else {
                condition(text, random, room);
            }
            text.append(')');
        }
        return cut(spoil(text, random, "mux;()[]!&|<>=+-*/%abcnkw0123456789 s"), 240);
    }

    /** About as many open in one another as there may be. */
    private static void nest(StringBuilder text, Random random) {
        StringBuilder behind = new StringBuilder();
        int open = 3 + random.nextInt(4);
        int inner = random.nextInt(open + 1);
        for (int i = 0; i < inner; i++) {
            boolean not = random.nextBoolean();
            text.append(not ? '!' : '(');
            behind.insert(0, not ? "" : ")");
        }
        StringBuilder number = new StringBuilder("m");
        for (int i = inner; i < open; i++) {
            number.insert(0, '[').append(']');
        }
        text.append(number).append("<>=".charAt(random.nextInt(3))).append(random.nextInt(100)).append(behind);
    }

    private static void condition(StringBuilder text, Random random, int room) {
        test(text, random, room);
        while (room > 0 && random.nextInt(3) == 0) {
            text.append(random.nextBoolean() ? '&' : '|');
            test(text, random, room - 1);
        }
    }

    private static void test(StringBuilder text, Random random, int room) {
        int kind = room > 0 ? random.nextInt(6) : 5;
        if (kind == 0) {
            text.append('!');
            test(text, random, room - 1);
        } else if (kind == 1) {
            text.append('(');
            condition(text, random, room - 1);
            text.append(')');
        } else {
            sum(text, random, room - 1);
            text.append("<>=".charAt(random.nextInt(3)));
            sum(text, random, room - 1);
        }
    }

    private static void sum(StringBuilder text, Random random, int room) {
        factor(text, random, room);
        while (room > 0 && random.nextInt(3) == 0) {
            text.append("+-*/%".charAt(random.nextInt(5)));
            factor(text, random, room - 1);
        }
    }

    private static void factor(StringBuilder text, Random random, int room) {
        int kind = random.nextInt(8);
        if (kind == 0 && room > 0) {
            text.append('[');
            sum(text, random, room - 1);
            text.append(']');
        } else if (kind < 4) {
            int digits = random.nextInt(4) == 0 ? 1 + random.nextInt(random.nextInt(8) == 0 ? 6 : 5) : 1;
            for (int i = 0; i < digits; i++) {
                text.append(random.nextInt(10));
            }
        } else {
            text.append("abcmnkw".charAt(random.nextInt(7)));
        }
    }

    static String shape(Random random) {
        StringBuilder text = new StringBuilder();
        int lines = 1 + random.nextInt(random.nextInt(6) == 0 ? 12 : 4);
        for (int i = 0; i < lines; i++) {
            text.append(i == 0 ? "" : ";");
            text.append("abc".charAt(random.nextInt(3))).append(random.nextInt(8)).append('=').append(random.nextInt(4));
        }
        return cut(spoil(text, random, "abc01234567=;89 "), 60);
    }

    static String summary(Random random) {
        StringBuilder text = new StringBuilder();
        levels(text, random, 2);
        text.append(':');
        String parts = new String[] {"s", "sc", "cs", "nx", "scnx", "xncs", "c", "n", "x", "snc", "ss", "scnxs"}
                [random.nextInt(random.nextInt(10) == 0 ? 12 : 10)];
        text.append(parts);
        if (random.nextInt(3) == 0) {
            spans(text, random);
        }
        return cut(spoil(text, random, "abc01234567=;:89-scnx "), 80);
    }

    static String question(Random random) {
        StringBuilder text = new StringBuilder();
        text.append("scnxvdm".charAt(random.nextInt(7))).append(':');
        levels(text, random, 1);
        if (random.nextBoolean()) {
            spans(text, random);
        }
        return cut(spoil(text, random, "abc01234567=;:89-scnxvdm "), 80);
    }

    /** Levels of a summary lean to the finer ones, those of a question to the coarser: so that one often covers the other. */
    private static void levels(StringBuilder text, Random random, int lean) {
        for (int side = 0; side < 3; side++) {
            int level = random.nextInt(3);
            int other = random.nextInt(3);
            text.append(lean > 1 ? Math.min(level, other) : Math.max(level, other));
        }
    }

    private static void spans(StringBuilder text, Random random) {
        for (int side = 0; side < 3; side++) {
            if (random.nextInt(3) == 0) {
                int told = random.nextInt(12) == 0 ? random.nextInt(3) : side;
                int level = random.nextInt(2);
                int most = level == 0 || random.nextInt(4) == 0 ? 8 : 4;
                int from = random.nextInt(most);
                int to = random.nextInt(20) == 0 ? random.nextInt(most) : from + random.nextInt(most - from);
                text.append(';').append("abc".charAt(told)).append(level).append('=').append(from).append('-').append(to);
            }
        }
    }

    private static StringBuilder spoil(StringBuilder text, Random random, String signs) {
        if (random.nextInt(8) != 0) {
            return text;
        }
        int place = random.nextInt(text.length());
        char sign = random.nextInt(10) == 0 ? (char) random.nextInt(256) : signs.charAt(random.nextInt(signs.length()));
        int kind = random.nextInt(4);
        if (kind == 0) {
            text.setCharAt(place, sign);
        } else if (kind == 1) {
            text.insert(place, sign);
        } else if (kind == 2) {
            text.deleteCharAt(place);
        } else {
            text.setLength(place);
        }
        return text;
    }

    private static String cut(StringBuilder text, int most) {
        return text.substring(0, Math.min(most, text.length()));
    }
}
