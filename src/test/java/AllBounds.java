import java.math.BigInteger;
import java.util.List;

/** Promises 29 and 30, a test for each sentence that names a boundary case. */
final class AllBounds {
    private AllBounds() {
    }

    static void testAll() {
        promise29();
        promise30();
        promise30Screens();
    }

    private static HalftoneScreens fullest() {
        HalftoneScreens x = new HalftoneScreens();
        for (int slot = 0; slot < 3; slot++) {
            x.setScreen(slot, 8, slot, 0, 8, slot + 2);
            x.setTint(slot, 64);
        }
        x.setGain(100);
        Due.type(x, "~~~~~~~~~~~~~~~~~~~~");
        return x;
    }

    private static void counts(HalftoneScreens x, int... due) {
        for (int what = 0; what < due.length; what++) {
            Due.same("count(" + what + ")", x.count(what), due[what]);
        }
    }

    private static void promise29() {
        Sentence.test(29, "what: 0 for the number of screens, 1 for the sum of their areas, 2 for the sum of their tints, "
            + "3 for the gain, 4 for the length of the buffer", () -> {
                counts(new HalftoneScreens(), 0, 0, 0, 0, 0);
                HalftoneScreens x = fullest();
                counts(x, 3, 192, 192, 100, 20);
                x.remove(1);
                counts(x, 2, 128, 128, 100, 20);
                x.setScreen(1, 1, 0, 0, 1, 0);
                counts(x, 3, 129, 128, 100, 20);
            });
        Sentence.test(29, "Throws IllegalArgumentException if what is not 0 to 4", () -> {
            HalftoneScreens x = Sentence.all();
            Sentence.badOutside(x, "count", 0, 4, it -> x.count(it));
        });
    }

    /** The hash without any overflow, then cut down to a long. */
    private static long hashOf(List<Integer> values) {
        BigInteger hash = BigInteger.valueOf(1951);
        for (int value : values) {
            hash = hash.multiply(BigInteger.valueOf(31)).add(BigInteger.valueOf(value));
        }
        return hash.longValue();
    }

    private static void digest(String name, HalftoneScreens x, String text, boolean... has) {
        long answer = x.digest();
        Due.same("digest of " + name, answer, hashOf(AllTest.valuesOf(x, has, text)));
        Due.same("digest again of " + name, x.digest(), answer);
    }

    private static void promise30() {
        Sentence.test(30, "The hash starts as 1951; each value x replaces the hash by 31 * hash + x, in long "
            + "arithmetic with overflow.", () -> {
            // A new object has eight values, all 0; that does not overflow yet.
            Due.same("digest of a new object", new HalftoneScreens().digest(), 1951L * 31 * 31 * 31 * 31 * 31 * 31 * 31 * 31);
            digest("full buffer", Sentence.typed("~~~~~~~~~~~~~~~~~~~~"), "~~~~~~~~~~~~~~~~~~~~", false, false, false);
            HalftoneScreens x = fullest();
            x.clearInput();
            x.setCenter(0, true);
            Due.same("the same digest of the same calls", x.digest(), again().digest());
        });
        Sentence.test(30, "each character code of the buffer", () -> {
            String text = " ~0-";
            digest("a text", Sentence.typed(text), text, false, false, false);
            HalftoneScreens x = Sentence.typed("1,");
            long before = x.digest();
            x.append(' ');
            x.clearInput();
            Due.type(x, "1,");
            Due.same("digest of the same text typed anew", x.digest(), before);
        });
    }

    private static HalftoneScreens again() {
        HalftoneScreens x = fullest();
        x.clearInput();
        x.setCenter(0, true);
        return x;
    }

    private static void promise30Screens() {
        Sentence.test(30, "for each slot 0 if it has no screen, otherwise 1, the properties 0 to 10 of the screen, "
            + "value and rank of each place, the number of dots and how often it is joined for its tint, and "
            + "the strength of its tint", () -> {
                HalftoneScreens x = Sentence.with(8, 1, 0, 8, 4);
                digest("no tint", x, "", true, false, false);
                HalftoneScreens y = Sentence.with(8, 1, 0, 8, 4);
                y.setTint(0, 64);
                y.setGain(100);
                digest("the greatest tint", y, "", true, false, false);
                HalftoneScreens z = new HalftoneScreens();
                z.setScreen(2, 1, 0, 0, 1, 0);
                digest("one place in slot 2", z, "", false, false, true);
                z.setScreen(2, 8, 0, 0, 8, 0);
                z.remove(2);
                Due.same("digest after remove", z.digest(), new HalftoneScreens().digest());
            });
        Sentence.test(30, "for each two different slots with screens, the lower one first, the four numbers "
            + "of the period of both "
            + "and of their beat", () -> {
                for (int empty = 0; empty < 3; empty++) {
                    HalftoneScreens x = Sentence.all();
                    x.remove(empty);
                    digest("all but slot " + empty, x, "8,8;-8,8r", empty != 0, empty != 1, empty != 2);
                }
                digest("all slots", Sentence.all(), "8,8;-8,8r", true, true, true);
            });
        Sentence.test(30, "The values are, in this order: count for 0 to 4;", () -> {
            HalftoneScreens x = new HalftoneScreens();
            x.setGain(100);
            digest("a gain alone", x, "", false, false, false);
        });
    }
}
