import java.nio.charset.StandardCharsets;

/** Counts wrong answers of one test program, and feeds texts to objects. */
final class Check {
    private static int right = 0;
    private static int wrong = 0;

    private Check() {
    }

    static void due(String call, long got, long want) {
        if (got == want) {
            right++;
            return;
        }
        wrong++;
        System.out.println(call + " answered " + got + ", due is " + want);
    }

    static void isTrue(String what, boolean holds) {
        due(what, holds ? 1 : 0, 1);
    }

    static int wrong() {
        return wrong;
    }

    static void finish() {
        System.out.println(right + " right, " + wrong + " wrong");
        if (wrong != 0) {
            System.exit(1);
        }
    }

    static byte[] bytes(String text) {
        return text.getBytes(StandardCharsets.ISO_8859_1);
    }

    /** The k-th four bytes of the text, the highest first; behind its end they are 0. */
    static int number(byte[] text, int k) {
        int number = 0;
        for (int i = 4 * k; i < 4 * k + 4; i++) {
            number = number << 8 | (i < text.length ? text[i] & 255 : 0);
        }
        return number;
    }

    /** The text comes behind an empty tape; its length at most 1,600. */
    static void feed(LieKitchen x, String text) {
        byte[] b = bytes(text);
        for (int k = 0; 4 * k < b.length; k += 5) {
            x.feed(number(b, k), number(b, k + 1), number(b, k + 2), number(b, k + 3), number(b, k + 4));
        }
        x.end(b.length);
    }

    static int kitchen(LieKitchen x, String text) {
        x.end(0);
        feed(x, text);
        return x.kitchen();
    }

    static LieKitchen with(String text) {
        LieKitchen x = new LieKitchen();
        isTrue("a kitchen: " + text, kitchen(x, text) > 0);
        return x;
    }

    /** A slot's row of these numbers. */
    static void row(LieKitchen x, int slot, int width, long... numbers) {
        due("row", x.row(slot, width, numbers.length), 0);
        for (int i = 0; i < numbers.length; i++) {
            due("write", x.write(slot, i, numbers[i]), 0);
        }
    }
}
