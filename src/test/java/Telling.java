import java.util.NoSuchElementException;

/** What all tests need to tell a text and to walk by it. */
abstract class Telling {
    /** Puts a text onto the tape, with blanks behind it up to the next twenty bytes. */
    static void put(SnowScore x, String text) {
        StringBuilder padded = new StringBuilder(text);
        while (padded.length() % 20 != 0) {
            padded.append(' ');
        }
        for (int i = 0; i < padded.length(); i += 20) {
            int[] n = new int[5];
            for (int j = 0; j < 20; j++) {
                n[j / 4] = n[j / 4] << 8 | (padded.charAt(i + j) & 255);
            }
            x.feed(n[0], n[1], n[2], n[3], n[4]);
        }
    }

    static int tell(SnowScore x, String text) {
        put(x, text);
        return x.text(text.length());
    }

    /** A new object by a text that must be good. */
    static SnowScore told(String text) {
        SnowScore x = new SnowScore();
        if (tell(x, text) < 0) {
            throw new IllegalStateException("fault " + x.fault(0) + " at " + x.fault(1) + " of: " + text);
        }
        return x;
    }

    static void walk(SnowScore x, int walker, int... ways) {
        for (int way : ways) {
            x.step(walker, way);
        }
    }

    static String often(String text, int times) {
        return text.repeat(times);
    }

    static int letters(String name) {
        int bits = 0;
        for (int i = 0; i < 6; i++) {
            bits = bits << 5 | (i < name.length() ? name.charAt(i) - 'a' + 1 : 0);
        }
        return bits;
    }

    /** What look() throws: 1 IndexOutOfBoundsException, 2 NoSuchElementException, 0 nothing. */
    static int thrown(SnowScore x, int walker, int what) {
        try {
            x.look(walker, what);
            return 0;
        } catch (IndexOutOfBoundsException e) {
            return 1;
        } catch (NoSuchElementException e) {
            return 2;
        }
    }
}
