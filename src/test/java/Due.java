import java.nio.charset.StandardCharsets;

/** What every test uses: texts put on the tape, answers held against those that are due. */
final class Due {
    private static int asked = 0;
    private static int wrong = 0;

    private Due() {
    }

    static void is(String call, long got, long want) {
        asked++;
        if (got != want) {
            wrong++;
            System.out.println(call + " answered " + got + ", due is " + want);
        }
    }

    static void is(String call, boolean got, boolean want) {
        is(call, got ? 1 : 0, want ? 1 : 0);
    }

    /** Ends the test: its exit code is 1 if any answer was wrong, or if none was asked. */
    static void close(String test) {
        System.out.println(test + ": " + asked + " answers, " + wrong + " not as due");
        if (wrong > 0 || asked == 0) {
            System.exit(1);
        }
    }

    static byte[] bytes(String text) {
        return text.getBytes(StandardCharsets.ISO_8859_1);
    }

    static byte[] bytes(int... numbers) {
        byte[] bytes = new byte[numbers.length];
        for (int i = 0; i < numbers.length; i++) {
            bytes[i] = (byte) numbers[i];
        }
        return bytes;
    }

    /** Puts bytes on an empty tape. */
    static void tape(StrayWool x, byte[] bytes) {
        x.end(0);
        for (int i = 0; i < bytes.length; i += 20) {
            x.feed(four(bytes, i), four(bytes, i + 4), four(bytes, i + 8), four(bytes, i + 12), four(bytes, i + 16));
        }
        x.end(bytes.length);
    }

    private static int four(byte[] bytes, int from) {
        int number = 0;
        for (int i = from; i < from + 4; i++) {
            number = number << 8 | (i < bytes.length ? bytes[i] & 255 : 32);
        }
        return number;
    }

    static int upland(StrayWool x, String text) {
        tape(x, bytes(text));
        return x.upland();
    }

    static StrayWool land(String text) {
        StrayWool x = new StrayWool();
        if (upland(x, text) < 0) {
            is("fault " + x.fault(0) + " at " + x.fault(1) + " of: " + text, 1, 0);
        }
        return x;
    }

    static long ask(StrayWool x, String text) {
        tape(x, bytes(text));
        return x.ask();
    }

    static int feel(StrayWool x, int... rows) {
        tape(x, bytes(rows));
        return x.feel();
    }

    static boolean on(StrayWool x, byte[] image) {
        tape(x, image);
        return x.on();
    }

    static byte[] image(StrayWool x) {
        byte[] image = new byte[x.image()];
        for (int k = 0; k < image.length; k++) {
            image[k] = (byte) x.octet(k);
        }
        return image;
    }

    /** The last byte of an image, put right for those ahead of it. */
    static byte[] sealed(byte[] image) {
        int check = 227;
        for (int i = 0; i < image.length - 1; i++) {
            check = (3 * check + (image[i] & 255)) % 251;
        }
        image[image.length - 1] = (byte) check;
        return image;
    }
}
