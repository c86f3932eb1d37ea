import java.nio.charset.StandardCharsets;

/** What the tests share: answers that are due, counted, and texts fed to an object. */
final class Due {
    private int wrong = 0;
    private int asked = 0;

    void is(String call, long got, long want) {
        asked++;
        if (got != want) {
            wrong++;
            if (wrong <= 50) {
                System.out.println(call + " answered " + got + ", due is " + want);
            }
        }
    }

    void is(String call, boolean got, boolean want) {
        is(call, got ? 1L : 0L, want ? 1L : 0L);
    }

    void fail(String what) {
        is(what, 1L, 0L);
    }

    int wrong() {
        return wrong;
    }

    void end() {
        System.out.println(wrong + " of " + asked + " answers are not as due");
        if (wrong != 0) {
            System.exit(1);
        }
    }

    /** Feeds the text, with blanks behind it up to the next twenty bytes, and has it read. */
    static int tell(StickStrings object, String text) {
        feed(object, text);
        return object.text(text.length());
    }

    static void feed(StickStrings object, String text) {
        byte[] bytes = text.getBytes(StandardCharsets.ISO_8859_1);
        for (int at = 0; at < bytes.length; at += 20) {
            object.feed(four(bytes, at), four(bytes, at + 4), four(bytes, at + 8),
                    four(bytes, at + 12), four(bytes, at + 16));
        }
    }

    static StickStrings told(String text) {
        StickStrings object = new StickStrings();
        int lines = tell(object, text);
        if (lines < 0) {
            throw new IllegalStateException("a fault " + object.fault(0) + " at " + object.fault(1) + " in " + text);
        }
        return object;
    }

    static int letters(String name) {
        int code = 0;
        for (int i = 0; i < 6; i++) {
            code = code * 32 + (i < name.length() ? name.charAt(i) - 'a' + 1 : 0);
        }
        return code;
    }

    /** 0 for an answer, 1 for an IndexOutOfBoundsException, 2 for a NoSuchElementException. */
    static int lookThrows(StickStrings object, int player, int what) {
        try {
            object.look(player, what);
            return 0;
        } catch (IndexOutOfBoundsException e) {
            return 1;
        } catch (java.util.NoSuchElementException e) {
            return 2;
        }
    }

    private static int four(byte[] bytes, int at) {
        int number = 0;
        for (int i = at; i < at + 4; i++) {
            number = number << 8 | (i < bytes.length ? bytes[i] & 255 : ' ');
        }
        return number;
    }
}
