import java.nio.charset.StandardCharsets;

/** Puts texts and bytes on an object's tape. */
final class Tapes {
    private Tapes() {
    }

    static void put(HillArms x, int... bytes) {
        x.end(0);
        for (int at = 0; at < bytes.length; at += 20) {
            x.feed(four(bytes, at), four(bytes, at + 4), four(bytes, at + 8),
                    four(bytes, at + 12), four(bytes, at + 16));
        }
        x.end(bytes.length);
    }

    static void put(HillArms x, String text) {
        put(x, bytesOf(text));
    }

    static int[] bytesOf(String text) {
        byte[] from = text.getBytes(StandardCharsets.ISO_8859_1);
        int[] bytes = new int[from.length];
        for (int i = 0; i < from.length; i++) {
            bytes[i] = from[i] & 255;
        }
        return bytes;
    }

    static int four(int[] bytes, int at) {
        int number = 0;
        for (int i = at; i < at + 4; i++) {
            number = number << 8 | (i < bytes.length ? bytes[i] : 0);
        }
        return number;
    }
}
