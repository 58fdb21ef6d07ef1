import java.nio.charset.StandardCharsets;

/** Puts texts and bytes on an object's tape, and makes the calls that take them from there. */
final class Tapes {
    private Tapes() {
    }

    static void put(HillArms x, int... bytes) {
        x.end(0);
        for (int at = 0; at < bytes.length; at += 20) {
            x.feed(four(bytes, at), four(bytes, at + 4), four(bytes, at + 8),
                    four(bytes, at + 12), four(bytes, at + 16));
        }
        x.end(bytes.length);
    }

    static void put(HillArms x, String text) {
        put(x, bytesOf(text));
    }

    static int program(HillArms x, int kind, String text) {
        put(x, text);
        return x.program(kind);
    }

    static boolean message(HillArms x, int... signs) {
        put(x, signs);
        return x.message();
    }

    static int entry(HillArms x, String text) {
        put(x, text);
        return x.entry();
    }

    static int code(HillArms x, String text) {
        put(x, text);
        return x.code();
    }

    static int year(HillArms x, String text) {
        put(x, text);
        return x.year();
    }

    /** Each number is what one HILL sees. */
    static int hills(HillArms x, int n, int... sights) {
        int[] bytes = new int[2 * sights.length];
        for (int i = 0; i < sights.length; i++) {
            bytes[2 * i] = sights[i] >> 8;
            bytes[2 * i + 1] = sights[i] & 255;
        }
        put(x, bytes);
        return x.hills(n);
    }

    /** Towers with their PROGRAMS and a MESSAGE, all of which must be right ones. */
    static HillArms line(int towers, String first, String others, String last, int... signs) {
        HillArms x = new HillArms();
        boolean right = x.towers(towers) && program(x, 0, first) >= 0 && program(x, 2, others) >= 0
                && program(x, 1, last) >= 0 && message(x, signs);
        if (!right) {
            throw new IllegalStateException("the test's own line is wrong: " + first + others + last);
        }
        return x;
    }

    /** An object with these ENTRIES, all of which must be right ones. */
    static HillArms book(String... entries) {
        HillArms x = new HillArms();
        for (int i = 0; i < entries.length; i++) {
            if (entry(x, entries[i]) != i) {
                throw new IllegalStateException("the test's own ENTRY is wrong: " + entries[i]);
            }
        }
        return x;
    }

    static int[] bytesOf(String text) {
        byte[] from = text.getBytes(StandardCharsets.ISO_8859_1);
        int[] bytes = new int[from.length];
        for (int i = 0; i < from.length; i++) {
            bytes[i] = from[i] & 255;
        }
        return bytes;
    }

    static int[] full(int length, int sign) {
        int[] signs = new int[length];
        java.util.Arrays.fill(signs, sign);
        return signs;
    }

    static int four(int[] bytes, int at) {
        int number = 0;
        for (int i = at; i < at + 4; i++) {
            number = number << 8 | (i < bytes.length ? bytes[i] : 0);
        }
        return number;
    }
}
